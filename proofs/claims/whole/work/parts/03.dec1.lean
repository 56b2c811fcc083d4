theorem dX11_best_122 : decode cX11_best 122 = .ok (.iload 4, 2) := by decide +kernel
theorem dX11_best_124 : decode cX11_best 124 = .ok (.if_icmp .le 10, 3) := by decide +kernel
theorem dX11_best_127 : decode cX11_best 127 = .ok (.iload 6, 2) := by decide +kernel
theorem dX11_best_129 : decode cX11_best 129 = .ok (.istore 4, 2) := by decide +kernel
theorem dX11_best_131 : decode cX11_best 131 = .ok (.iload 5, 2) := by decide +kernel
theorem dX11_best_133 : decode cX11_best 133 = .ok (.istore_n 3, 1) := by decide +kernel
theorem dX11_best_134 : decode cX11_best 134 = .ok (.iinc 5 1, 3) := by decide +kernel
theorem dX11_best_137 : decode cX11_best 137 = .ok (.goto (-58), 3) := by decide +kernel
theorem dX11_best_140 : decode cX11_best 140 = .ok (.iload_n 3, 1) := by decide +kernel
theorem dX11_best_141 : decode cX11_best 141 = .ok (.ireturn, 1) := by decide +kernel
theorem dX11_give_0 : decode cX11_give 0 = .ok (.aload_n 0, 1) := by decide +kernel
theorem dX11_give_1 : decode cX11_give 1 = .ok (.iload_n 1, 1) := by decide +kernel
theorem dX11_give_2 : decode cX11_give 2 = .ok (.invokevirtual 96, 3) := by decide +kernel
theorem dX11_give_5 : decode cX11_give 5 = .ok (.ifCond .eq 13, 3) := by decide +kernel
theorem dX11_give_8 : decode cX11_give 8 = .ok (.iload_n 2, 1) := by decide +kernel
theorem dX11_give_9 : decode cX11_give 9 = .ok (.iconst 1, 1) := by decide +kernel
theorem dX11_give_10 : decode cX11_give 10 = .ok (.bipush 30, 2) := by decide +kernel
theorem dX11_give_12 : decode cX11_give 12 = .ok (.invokestatic 92, 3) := by decide +kernel
theorem dX11_give_15 : decode cX11_give 15 = .ok (.ifCond .ne 10, 3) := by decide +kernel
theorem dX11_give_18 : decode cX11_give 18 = .ok (.aload_n 0, 1) := by decide +kernel
theorem dX11_give_19 : decode cX11_give 19 = .ok (.ldc 57, 2) := by decide +kernel
theorem dX11_give_21 : decode cX11_give 21 = .ok (.invokevirtual 58, 3) := by decide +kernel
theorem dX11_give_24 : decode cX11_give 24 = .ok (.ireturn, 1) := by decide +kernel
theorem dX11_give_25 : decode cX11_give 25 = .ok (.iconst 0, 1) := by decide +kernel
theorem dX11_give_26 : decode cX11_give 26 = .ok (.istore_n 3, 1) := by decide +kernel
theorem dX11_give_27 : decode cX11_give 27 = .ok (.iconst (-1), 1) := by decide +kernel
theorem dX11_give_28 : decode cX11_give 28 = .ok (.istore 4, 2) := by decide +kernel
theorem dX11_give_30 : decode cX11_give 30 = .ok (.iconst 0, 1) := by decide +kernel
theorem dX11_give_31 : decode cX11_give 31 = .ok (.istore 5, 2) := by decide +kernel
theorem dX11_give_33 : decode cX11_give 33 = .ok (.iload 5, 2) := by decide +kernel
theorem dX11_give_35 : decode cX11_give 35 = .ok (.aload_n 0, 1) := by decide +kernel
theorem dX11_give_36 : decode cX11_give 36 = .ok (.getfield 18, 3) := by decide +kernel
theorem dX11_give_39 : decode cX11_give 39 = .ok (.getfield 62, 3) := by decide +kernel
theorem dX11_give_42 : decode cX11_give 42 = .ok (.if_icmp .ge 58, 3) := by decide +kernel
theorem dX11_give_45 : decode cX11_give 45 = .ok (.aload_n 0, 1) := by decide +kernel
theorem dX11_give_46 : decode cX11_give 46 = .ok (.invokevirtual 190, 3) := by decide +kernel
theorem dX11_give_49 : decode cX11_give 49 = .ok (.aload_n 0, 1) := by decide +kernel
theorem dX11_give_50 : decode cX11_give 50 = .ok (.getfield 25, 3) := by decide +kernel
theorem dX11_give_53 : decode cX11_give 53 = .ok (.getfield 103, 3) := by decide +kernel
theorem dX11_give_56 : decode cX11_give 56 = .ok (.iload_n 1, 1) := by decide +kernel
theorem dX11_give_57 : decode cX11_give 57 = .ok (.aaload, 1) := by decide +kernel
theorem dX11_give_58 : decode cX11_give 58 = .ok (.iload 5, 2) := by decide +kernel
theorem dX11_give_60 : decode cX11_give 60 = .ok (.putfield 172, 3) := by decide +kernel
theorem dX11_give_63 : decode cX11_give 63 = .ok (.aload_n 0, 1) := by decide +kernel
theorem dX11_give_64 : decode cX11_give 64 = .ok (.getfield 25, 3) := by decide +kernel
theorem dX11_give_67 : decode cX11_give 67 = .ok (.iload_n 2, 1) := by decide +kernel
theorem dX11_give_68 : decode cX11_give 68 = .ok (.invokevirtual 175, 3) := by decide +kernel
theorem dX11_give_71 : decode cX11_give 71 = .ok (.aload_n 0, 1) := by decide +kernel
theorem dX11_give_72 : decode cX11_give 72 = .ok (.getfield 25, 3) := by decide +kernel
theorem dX11_give_75 : decode cX11_give 75 = .ok (.invokevirtual 178, 3) := by decide +kernel
theorem dX11_give_78 : decode cX11_give 78 = .ok (.istore 6, 2) := by decide +kernel
theorem dX11_give_80 : decode cX11_give 80 = .ok (.iload 6, 2) := by decide +kernel
theorem dX11_give_82 : decode cX11_give 82 = .ok (.iload 4, 2) := by decide +kernel
theorem dX11_give_84 : decode cX11_give 84 = .ok (.if_icmp .le 10, 3) := by decide +kernel
theorem dX11_give_87 : decode cX11_give 87 = .ok (.iload 6, 2) := by decide +kernel
theorem dX11_give_89 : decode cX11_give 89 = .ok (.istore 4, 2) := by decide +kernel
theorem dX11_give_91 : decode cX11_give 91 = .ok (.iload 5, 2) := by decide +kernel
theorem dX11_give_93 : decode cX11_give 93 = .ok (.istore_n 3, 1) := by decide +kernel
theorem dX11_give_94 : decode cX11_give 94 = .ok (.iinc 5 1, 3) := by decide +kernel
theorem dX11_give_97 : decode cX11_give 97 = .ok (.goto (-64), 3) := by decide +kernel
theorem dX11_give_100 : decode cX11_give 100 = .ok (.iload_n 3, 1) := by decide +kernel
theorem dX11_give_101 : decode cX11_give 101 = .ok (.ireturn, 1) := by decide +kernel
theorem dX11_kind_0 : decode cX11_kind 0 = .ok (.aload_n 0, 1) := by decide +kernel
theorem dX11_kind_1 : decode cX11_kind 1 = .ok (.iload_n 1, 1) := by decide +kernel
theorem dX11_kind_2 : decode cX11_kind 2 = .ok (.invokevirtual 70, 3) := by decide +kernel
theorem dX11_kind_5 : decode cX11_kind 5 = .ok (.ifCond .eq 13, 3) := by decide +kernel
theorem dX11_kind_8 : decode cX11_kind 8 = .ok (.iload_n 2, 1) := by decide +kernel
theorem dX11_kind_9 : decode cX11_kind 9 = .ok (.iconst 1, 1) := by decide +kernel
theorem dX11_kind_10 : decode cX11_kind 10 = .ok (.bipush 30, 2) := by decide +kernel
theorem dX11_kind_12 : decode cX11_kind 12 = .ok (.invokestatic 92, 3) := by decide +kernel
theorem dX11_kind_15 : decode cX11_kind 15 = .ok (.ifCond .ne 10, 3) := by decide +kernel
theorem dX11_kind_18 : decode cX11_kind 18 = .ok (.aload_n 0, 1) := by decide +kernel
theorem dX11_kind_19 : decode cX11_kind 19 = .ok (.ldc 57, 2) := by decide +kernel
theorem dX11_kind_21 : decode cX11_kind 21 = .ok (.invokevirtual 58, 3) := by decide +kernel
theorem dX11_kind_24 : decode cX11_kind 24 = .ok (.ireturn, 1) := by decide +kernel
theorem dX11_kind_25 : decode cX11_kind 25 = .ok (.iconst 0, 1) := by decide +kernel
theorem dX11_kind_26 : decode cX11_kind 26 = .ok (.istore_n 3, 1) := by decide +kernel
theorem dX11_kind_27 : decode cX11_kind 27 = .ok (.iconst (-1), 1) := by decide +kernel
theorem dX11_kind_28 : decode cX11_kind 28 = .ok (.istore 4, 2) := by decide +kernel
theorem dX11_kind_30 : decode cX11_kind 30 = .ok (.iconst 0, 1) := by decide +kernel
theorem dX11_kind_31 : decode cX11_kind 31 = .ok (.istore 5, 2) := by decide +kernel
theorem dX11_kind_33 : decode cX11_kind 33 = .ok (.iload 5, 2) := by decide +kernel
theorem dX11_kind_35 : decode cX11_kind 35 = .ok (.bipush 6, 2) := by decide +kernel
theorem dX11_kind_37 : decode cX11_kind 37 = .ok (.if_icmp .ge 63, 3) := by decide +kernel
theorem dX11_kind_40 : decode cX11_kind 40 = .ok (.aload_n 0, 1) := by decide +kernel
theorem dX11_kind_41 : decode cX11_kind 41 = .ok (.invokevirtual 190, 3) := by decide +kernel
theorem dX11_kind_44 : decode cX11_kind 44 = .ok (.aload_n 0, 1) := by decide +kernel
theorem dX11_kind_45 : decode cX11_kind 45 = .ok (.getfield 25, 3) := by decide +kernel
theorem dX11_kind_48 : decode cX11_kind 48 = .ok (.getfield 73, 3) := by decide +kernel
theorem dX11_kind_51 : decode cX11_kind 51 = .ok (.iload_n 1, 1) := by decide +kernel
theorem dX11_kind_52 : decode cX11_kind 52 = .ok (.aaload, 1) := by decide +kernel
theorem dX11_kind_53 : decode cX11_kind 53 = .ok (.iload 5, 2) := by decide +kernel
theorem dX11_kind_55 : decode cX11_kind 55 = .ok (.putfield 77, 3) := by decide +kernel
theorem dX11_kind_58 : decode cX11_kind 58 = .ok (.aload_n 0, 1) := by decide +kernel
theorem dX11_kind_59 : decode cX11_kind 59 = .ok (.getfield 25, 3) := by decide +kernel
theorem dX11_kind_62 : decode cX11_kind 62 = .ok (.iload_n 2, 1) := by decide +kernel
theorem dX11_kind_63 : decode cX11_kind 63 = .ok (.invokevirtual 175, 3) := by decide +kernel
theorem dX11_kind_66 : decode cX11_kind 66 = .ok (.aload_n 0, 1) := by decide +kernel
theorem dX11_kind_67 : decode cX11_kind 67 = .ok (.getfield 25, 3) := by decide +kernel
theorem dX11_kind_70 : decode cX11_kind 70 = .ok (.getfield 73, 3) := by decide +kernel
theorem dX11_kind_73 : decode cX11_kind 73 = .ok (.iload_n 1, 1) := by decide +kernel
theorem dX11_kind_74 : decode cX11_kind 74 = .ok (.aaload, 1) := by decide +kernel
theorem dX11_kind_75 : decode cX11_kind 75 = .ok (.getfield 82, 3) := by decide +kernel
theorem dX11_kind_78 : decode cX11_kind 78 = .ok (.istore 6, 2) := by decide +kernel
theorem dX11_kind_80 : decode cX11_kind 80 = .ok (.iload 6, 2) := by decide +kernel
theorem dX11_kind_82 : decode cX11_kind 82 = .ok (.iload 4, 2) := by decide +kernel
theorem dX11_kind_84 : decode cX11_kind 84 = .ok (.if_icmp .le 10, 3) := by decide +kernel
theorem dX11_kind_87 : decode cX11_kind 87 = .ok (.iload 6, 2) := by decide +kernel
theorem dX11_kind_89 : decode cX11_kind 89 = .ok (.istore 4, 2) := by decide +kernel
theorem dX11_kind_91 : decode cX11_kind 91 = .ok (.iload 5, 2) := by decide +kernel
theorem dX11_kind_93 : decode cX11_kind 93 = .ok (.istore_n 3, 1) := by decide +kernel
theorem dX11_kind_94 : decode cX11_kind 94 = .ok (.iinc 5 1, 3) := by decide +kernel
theorem dX11_kind_97 : decode cX11_kind 97 = .ok (.goto (-64), 3) := by decide +kernel
theorem dX11_kind_100 : decode cX11_kind 100 = .ok (.iload_n 3, 1) := by decide +kernel
theorem dX11_kind_101 : decode cX11_kind 101 = .ok (.ireturn, 1) := by decide +kernel
theorem dX11_least_0 : decode cX11_least 0 = .ok (.aload_n 0, 1) := by decide +kernel
theorem dX11_least_1 : decode cX11_least 1 = .ok (.iload_n 1, 1) := by decide +kernel
theorem dX11_least_2 : decode cX11_least 2 = .ok (.invokevirtual 96, 3) := by decide +kernel
theorem dX11_least_5 : decode cX11_least 5 = .ok (.ifCond .eq 33, 3) := by decide +kernel
theorem dX11_least_8 : decode cX11_least 8 = .ok (.aload_n 0, 1) := by decide +kernel
theorem dX11_least_9 : decode cX11_least 9 = .ok (.iload_n 2, 1) := by decide +kernel
theorem dX11_least_10 : decode cX11_least 10 = .ok (.invokevirtual 70, 3) := by decide +kernel
theorem dX11_least_13 : decode cX11_least 13 = .ok (.ifCond .eq 25, 3) := by decide +kernel
theorem dX11_least_16 : decode cX11_least 16 = .ok (.iload_n 3, 1) := by decide +kernel
theorem dX11_least_17 : decode cX11_least 17 = .ok (.iconst 1, 1) := by decide +kernel
theorem dX11_least_18 : decode cX11_least 18 = .ok (.bipush 30, 2) := by decide +kernel
theorem dX11_least_20 : decode cX11_least 20 = .ok (.invokestatic 92, 3) := by decide +kernel
theorem dX11_least_23 : decode cX11_least 23 = .ok (.ifCond .eq 15, 3) := by decide +kernel
theorem dX11_least_26 : decode cX11_least 26 = .ok (.iload 4, 2) := by decide +kernel
theorem dX11_least_28 : decode cX11_least 28 = .ok (.iconst 0, 1) := by decide +kernel
theorem dX11_least_29 : decode cX11_least 29 = .ok (.sipush 9999, 3) := by decide +kernel
theorem dX11_least_32 : decode cX11_least 32 = .ok (.invokestatic 92, 3) := by decide +kernel
theorem dX11_least_35 : decode cX11_least 35 = .ok (.ifCond .ne 10, 3) := by decide +kernel
theorem dX11_least_38 : decode cX11_least 38 = .ok (.aload_n 0, 1) := by decide +kernel
theorem dX11_least_39 : decode cX11_least 39 = .ok (.ldc 57, 2) := by decide +kernel
theorem dX11_least_41 : decode cX11_least 41 = .ok (.invokevirtual 58, 3) := by decide +kernel
theorem dX11_least_44 : decode cX11_least 44 = .ok (.ireturn, 1) := by decide +kernel
theorem dX11_least_45 : decode cX11_least 45 = .ok (.iconst 0, 1) := by decide +kernel
theorem dX11_least_46 : decode cX11_least 46 = .ok (.istore 5, 2) := by decide +kernel
theorem dX11_least_48 : decode cX11_least 48 = .ok (.iload 5, 2) := by decide +kernel
theorem dX11_least_50 : decode cX11_least 50 = .ok (.bipush 99, 2) := by decide +kernel
theorem dX11_least_52 : decode cX11_least 52 = .ok (.if_icmp .gt 55, 3) := by decide +kernel
theorem dX11_least_55 : decode cX11_least 55 = .ok (.aload_n 0, 1) := by decide +kernel
theorem dX11_least_56 : decode cX11_least 56 = .ok (.invokevirtual 190, 3) := by decide +kernel
theorem dX11_least_59 : decode cX11_least 59 = .ok (.aload_n 0, 1) := by decide +kernel
theorem dX11_least_60 : decode cX11_least 60 = .ok (.getfield 25, 3) := by decide +kernel
theorem dX11_least_63 : decode cX11_least 63 = .ok (.getfield 103, 3) := by decide +kernel
theorem dX11_least_66 : decode cX11_least 66 = .ok (.iload_n 1, 1) := by decide +kernel
theorem dX11_least_67 : decode cX11_least 67 = .ok (.aaload, 1) := by decide +kernel
theorem dX11_least_68 : decode cX11_least 68 = .ok (.iload 5, 2) := by decide +kernel
theorem dX11_least_70 : decode cX11_least 70 = .ok (.putfield 125, 3) := by decide +kernel
theorem dX11_least_73 : decode cX11_least 73 = .ok (.aload_n 0, 1) := by decide +kernel
theorem dX11_least_74 : decode cX11_least 74 = .ok (.getfield 25, 3) := by decide +kernel
theorem dX11_least_77 : decode cX11_least 77 = .ok (.iload_n 3, 1) := by decide +kernel
theorem dX11_least_78 : decode cX11_least 78 = .ok (.invokevirtual 175, 3) := by decide +kernel
theorem dX11_least_81 : decode cX11_least 81 = .ok (.aload_n 0, 1) := by decide +kernel
theorem dX11_least_82 : decode cX11_least 82 = .ok (.getfield 25, 3) := by decide +kernel
theorem dX11_least_85 : decode cX11_least 85 = .ok (.getfield 73, 3) := by decide +kernel
theorem dX11_least_88 : decode cX11_least 88 = .ok (.iload_n 2, 1) := by decide +kernel
theorem dX11_least_89 : decode cX11_least 89 = .ok (.aaload, 1) := by decide +kernel
theorem dX11_least_90 : decode cX11_least 90 = .ok (.getfield 82, 3) := by decide +kernel
theorem dX11_least_93 : decode cX11_least 93 = .ok (.iload 4, 2) := by decide +kernel
theorem dX11_least_95 : decode cX11_least 95 = .ok (.if_icmp .lt 6, 3) := by decide +kernel
theorem dX11_least_98 : decode cX11_least 98 = .ok (.iload 5, 2) := by decide +kernel
theorem dX11_least_100 : decode cX11_least 100 = .ok (.ireturn, 1) := by decide +kernel
theorem dX11_least_101 : decode cX11_least 101 = .ok (.iinc 5 1, 3) := by decide +kernel
theorem dX11_least_104 : decode cX11_least 104 = .ok (.goto (-56), 3) := by decide +kernel
theorem dX11_least_107 : decode cX11_least 107 = .ok (.aload_n 0, 1) := by decide +kernel
theorem dX11_least_108 : decode cX11_least 108 = .ok (.ldc 112, 2) := by decide +kernel
theorem dX11_least_110 : decode cX11_least 110 = .ok (.invokevirtual 58, 3) := by decide +kernel
theorem dX11_least_113 : decode cX11_least 113 = .ok (.ireturn, 1) := by decide +kernel
theorem dX11_order_0 : decode cX11_order 0 = .ok (.aload_n 0, 1) := by decide +kernel
theorem dX11_order_1 : decode cX11_order 1 = .ok (.iload_n 1, 1) := by decide +kernel
theorem dX11_order_2 : decode cX11_order 2 = .ok (.invokevirtual 96, 3) := by decide +kernel
theorem dX11_order_5 : decode cX11_order 5 = .ok (.ifCond .eq 13, 3) := by decide +kernel
theorem dX11_order_8 : decode cX11_order 8 = .ok (.iload_n 2, 1) := by decide +kernel
theorem dX11_order_9 : decode cX11_order 9 = .ok (.iconst 1, 1) := by decide +kernel
theorem dX11_order_10 : decode cX11_order 10 = .ok (.bipush 10, 2) := by decide +kernel
theorem dX11_order_12 : decode cX11_order 12 = .ok (.invokestatic 92, 3) := by decide +kernel
theorem dX11_order_15 : decode cX11_order 15 = .ok (.ifCond .ne 10, 3) := by decide +kernel
theorem dX11_order_18 : decode cX11_order 18 = .ok (.aload_n 0, 1) := by decide +kernel
theorem dX11_order_19 : decode cX11_order 19 = .ok (.ldc 57, 2) := by decide +kernel
theorem dX11_order_21 : decode cX11_order 21 = .ok (.invokevirtual 58, 3) := by decide +kernel
theorem dX11_order_24 : decode cX11_order 24 = .ok (.ireturn, 1) := by decide +kernel
theorem dX11_order_25 : decode cX11_order 25 = .ok (.aload_n 0, 1) := by decide +kernel
theorem dX11_order_26 : decode cX11_order 26 = .ok (.getfield 18, 3) := by decide +kernel
theorem dX11_order_29 : decode cX11_order 29 = .ok (.getfield 103, 3) := by decide +kernel
theorem dX11_order_32 : decode cX11_order 32 = .ok (.iload_n 1, 1) := by decide +kernel
theorem dX11_order_33 : decode cX11_order 33 = .ok (.aaload, 1) := by decide +kernel
theorem dX11_order_34 : decode cX11_order 34 = .ok (.getfield 107, 3) := by decide +kernel
theorem dX11_order_37 : decode cX11_order 37 = .ok (.istore_n 3, 1) := by decide +kernel
theorem dX11_order_38 : decode cX11_order 38 = .ok (.iload_n 3, 1) := by decide +kernel
theorem dX11_order_39 : decode cX11_order 39 = .ok (.ifCond .ne 10, 3) := by decide +kernel
theorem dX11_order_42 : decode cX11_order 42 = .ok (.aload_n 0, 1) := by decide +kernel
theorem dX11_order_43 : decode cX11_order 43 = .ok (.ldc 112, 2) := by decide +kernel
theorem dX11_order_45 : decode cX11_order 45 = .ok (.invokevirtual 58, 3) := by decide +kernel
theorem dX11_order_48 : decode cX11_order 48 = .ok (.ireturn, 1) := by decide +kernel
theorem dX11_order_49 : decode cX11_order 49 = .ok (.iload_n 3, 1) := by decide +kernel
theorem dX11_order_50 : decode cX11_order 50 = .ok (.iconst 5, 1) := by decide +kernel
theorem dX11_order_51 : decode cX11_order 51 = .ok (.if_icmp .le 10, 3) := by decide +kernel
theorem dX11_order_54 : decode cX11_order 54 = .ok (.aload_n 0, 1) := by decide +kernel
theorem dX11_order_55 : decode cX11_order 55 = .ok (.ldc 196, 2) := by decide +kernel
theorem dX11_order_57 : decode cX11_order 57 = .ok (.invokevirtual 58, 3) := by decide +kernel
theorem dX11_order_60 : decode cX11_order 60 = .ok (.ireturn, 1) := by decide +kernel
theorem dX11_order_61 : decode cX11_order 61 = .ok (.aload_n 0, 1) := by decide +kernel
theorem dX11_order_62 : decode cX11_order 62 = .ok (.iload_n 1, 1) := by decide +kernel
theorem dX11_order_63 : decode cX11_order 63 = .ok (.iload_n 3, 1) := by decide +kernel
theorem dX11_order_64 : decode cX11_order 64 = .ok (.invokevirtual 197, 3) := by decide +kernel
theorem dX11_order_67 : decode cX11_order 67 = .ok (.iconst 0, 1) := by decide +kernel
theorem dX11_order_68 : decode cX11_order 68 = .ok (.istore 4, 2) := by decide +kernel
theorem dX11_order_70 : decode cX11_order 70 = .ok (.iconst (-1), 1) := by decide +kernel
theorem dX11_order_71 : decode cX11_order 71 = .ok (.istore 5, 2) := by decide +kernel
theorem dX11_order_73 : decode cX11_order 73 = .ok (.iconst 1, 1) := by decide +kernel
theorem dX11_order_74 : decode cX11_order 74 = .ok (.istore 6, 2) := by decide +kernel
theorem dX11_order_76 : decode cX11_order 76 = .ok (.iconst 0, 1) := by decide +kernel
theorem dX11_order_77 : decode cX11_order 77 = .ok (.istore 7, 2) := by decide +kernel
theorem dX11_order_79 : decode cX11_order 79 = .ok (.iload 7, 2) := by decide +kernel
theorem dX11_order_81 : decode cX11_order 81 = .ok (.bipush 120, 2) := by decide +kernel
theorem dX11_order_83 : decode cX11_order 83 = .ok (.if_icmp .ge 77, 3) := by decide +kernel
theorem dX11_order_86 : decode cX11_order 86 = .ok (.iload 6, 2) := by decide +kernel
theorem dX11_order_88 : decode cX11_order 88 = .ok (.ifCond .eq 72, 3) := by decide +kernel
theorem dX11_order_91 : decode cX11_order 91 = .ok (.aload_n 0, 1) := by decide +kernel
theorem dX11_order_92 : decode cX11_order 92 = .ok (.invokevirtual 190, 3) := by decide +kernel
theorem dX11_order_95 : decode cX11_order 95 = .ok (.aload_n 0, 1) := by decide +kernel
theorem dX11_order_96 : decode cX11_order 96 = .ok (.getfield 25, 3) := by decide +kernel
theorem dX11_order_99 : decode cX11_order 99 = .ok (.getfield 103, 3) := by decide +kernel
theorem dX11_order_102 : decode cX11_order 102 = .ok (.iload_n 1, 1) := by decide +kernel
theorem dX11_order_103 : decode cX11_order 103 = .ok (.aaload, 1) := by decide +kernel
theorem dX11_order_104 : decode cX11_order 104 = .ok (.aload_n 0, 1) := by decide +kernel
theorem dX11_order_105 : decode cX11_order 105 = .ok (.getfield 50, 3) := by decide +kernel
theorem dX11_order_108 : decode cX11_order 108 = .ok (.iload_n 3, 1) := by decide +kernel
theorem dX11_order_109 : decode cX11_order 109 = .ok (.invokevirtual 201, 3) := by decide +kernel
theorem dX11_order_112 : decode cX11_order 112 = .ok (.aload_n 0, 1) := by decide +kernel
theorem dX11_order_113 : decode cX11_order 113 = .ok (.getfield 25, 3) := by decide +kernel
theorem dX11_order_116 : decode cX11_order 116 = .ok (.iload_n 2, 1) := by decide +kernel
theorem dX11_order_117 : decode cX11_order 117 = .ok (.invokevirtual 175, 3) := by decide +kernel
theorem dX11_order_120 : decode cX11_order 120 = .ok (.aload_n 0, 1) := by decide +kernel
theorem dX11_order_121 : decode cX11_order 121 = .ok (.getfield 25, 3) := by decide +kernel
theorem dX11_order_124 : decode cX11_order 124 = .ok (.invokevirtual 178, 3) := by decide +kernel
theorem dX11_order_127 : decode cX11_order 127 = .ok (.istore 8, 2) := by decide +kernel
theorem dX11_order_129 : decode cX11_order 129 = .ok (.iload 8, 2) := by decide +kernel
theorem dX11_order_131 : decode cX11_order 131 = .ok (.iload 5, 2) := by decide +kernel
theorem dX11_order_133 : decode cX11_order 133 = .ok (.if_icmp .le 14, 3) := by decide +kernel
theorem dX11_order_136 : decode cX11_order 136 = .ok (.iload 8, 2) := by decide +kernel
theorem dX11_order_138 : decode cX11_order 138 = .ok (.istore 5, 2) := by decide +kernel
theorem dX11_order_140 : decode cX11_order 140 = .ok (.aload_n 0, 1) := by decide +kernel
theorem dX11_order_141 : decode cX11_order 141 = .ok (.iload_n 3, 1) := by decide +kernel
theorem dX11_order_142 : decode cX11_order 142 = .ok (.invokevirtual 205, 3) := by decide +kernel
theorem dX11_order_145 : decode cX11_order 145 = .ok (.istore 4, 2) := by decide +kernel
theorem dX11_order_147 : decode cX11_order 147 = .ok (.aload_n 0, 1) := by decide +kernel
theorem dX11_order_148 : decode cX11_order 148 = .ok (.iload_n 3, 1) := by decide +kernel
theorem dX11_order_149 : decode cX11_order 149 = .ok (.invokevirtual 208, 3) := by decide +kernel
theorem dX11_order_152 : decode cX11_order 152 = .ok (.istore 6, 2) := by decide +kernel
theorem dX11_order_154 : decode cX11_order 154 = .ok (.iinc 7 1, 3) := by decide +kernel
theorem dX11_order_157 : decode cX11_order 157 = .ok (.goto (-78), 3) := by decide +kernel
theorem dX11_order_160 : decode cX11_order 160 = .ok (.iload 4, 2) := by decide +kernel
theorem dX11_order_162 : decode cX11_order 162 = .ok (.ireturn, 1) := by decide +kernel
theorem dX11_happiest_0 : decode cX11_happiest 0 = .ok (.iload_n 1, 1) := by decide +kernel
theorem dX11_happiest_1 : decode cX11_happiest 1 = .ok (.iconst 0, 1) := by decide +kernel
theorem dX11_happiest_2 : decode cX11_happiest 2 = .ok (.bipush 60, 2) := by decide +kernel
theorem dX11_happiest_4 : decode cX11_happiest 4 = .ok (.invokestatic 92, 3) := by decide +kernel
theorem dX11_happiest_7 : decode cX11_happiest 7 = .ok (.ifCond .ne 10, 3) := by decide +kernel
theorem dX11_happiest_10 : decode cX11_happiest 10 = .ok (.aload_n 0, 1) := by decide +kernel
theorem dX11_happiest_11 : decode cX11_happiest 11 = .ok (.ldc 57, 2) := by decide +kernel
theorem dX11_happiest_13 : decode cX11_happiest 13 = .ok (.invokevirtual 58, 3) := by decide +kernel
theorem dX11_happiest_16 : decode cX11_happiest 16 = .ok (.ireturn, 1) := by decide +kernel
theorem dX11_happiest_17 : decode cX11_happiest 17 = .ok (.aload_n 0, 1) := by decide +kernel
theorem dX11_happiest_18 : decode cX11_happiest 18 = .ok (.getfield 18, 3) := by decide +kernel
theorem dX11_happiest_21 : decode cX11_happiest 21 = .ok (.getfield 62, 3) := by decide +kernel
theorem dX11_happiest_24 : decode cX11_happiest 24 = .ok (.ifCond .ne 10, 3) := by decide +kernel
theorem dX11_happiest_27 : decode cX11_happiest 27 = .ok (.aload_n 0, 1) := by decide +kernel
theorem dX11_happiest_28 : decode cX11_happiest 28 = .ok (.ldc 112, 2) := by decide +kernel
theorem dX11_happiest_30 : decode cX11_happiest 30 = .ok (.invokevirtual 58, 3) := by decide +kernel
theorem dX11_happiest_33 : decode cX11_happiest 33 = .ok (.ireturn, 1) := by decide +kernel
theorem dX11_happiest_34 : decode cX11_happiest 34 = .ok (.aload_n 0, 1) := by decide +kernel
theorem dX11_happiest_35 : decode cX11_happiest 35 = .ok (.invokevirtual 190, 3) := by decide +kernel
theorem dX11_happiest_38 : decode cX11_happiest 38 = .ok (.aload_n 0, 1) := by decide +kernel
theorem dX11_happiest_39 : decode cX11_happiest 39 = .ok (.getfield 25, 3) := by decide +kernel
theorem dX11_happiest_42 : decode cX11_happiest 42 = .ok (.iload_n 1, 1) := by decide +kernel
theorem dX11_happiest_43 : decode cX11_happiest 43 = .ok (.invokevirtual 175, 3) := by decide +kernel
theorem dX11_happiest_46 : decode cX11_happiest 46 = .ok (.iconst 0, 1) := by decide +kernel
theorem dX11_happiest_47 : decode cX11_happiest 47 = .ok (.istore_n 2, 1) := by decide +kernel
theorem dX11_happiest_48 : decode cX11_happiest 48 = .ok (.iconst 1, 1) := by decide +kernel
theorem dX11_happiest_49 : decode cX11_happiest 49 = .ok (.istore_n 3, 1) := by decide +kernel
theorem dX11_happiest_50 : decode cX11_happiest 50 = .ok (.iload_n 3, 1) := by decide +kernel
theorem dX11_happiest_51 : decode cX11_happiest 51 = .ok (.aload_n 0, 1) := by decide +kernel
theorem dX11_happiest_52 : decode cX11_happiest 52 = .ok (.getfield 25, 3) := by decide +kernel
theorem dX11_happiest_55 : decode cX11_happiest 55 = .ok (.getfield 62, 3) := by decide +kernel
theorem dX11_happiest_58 : decode cX11_happiest 58 = .ok (.if_icmp .ge 38, 3) := by decide +kernel
theorem dX11_happiest_61 : decode cX11_happiest 61 = .ok (.aload_n 0, 1) := by decide +kernel
theorem dX11_happiest_62 : decode cX11_happiest 62 = .ok (.getfield 25, 3) := by decide +kernel
theorem dX11_happiest_65 : decode cX11_happiest 65 = .ok (.getfield 73, 3) := by decide +kernel
theorem dX11_happiest_68 : decode cX11_happiest 68 = .ok (.iload_n 3, 1) := by decide +kernel
theorem dX11_happiest_69 : decode cX11_happiest 69 = .ok (.aaload, 1) := by decide +kernel
theorem dX11_happiest_70 : decode cX11_happiest 70 = .ok (.getfield 82, 3) := by decide +kernel
theorem dX11_happiest_73 : decode cX11_happiest 73 = .ok (.aload_n 0, 1) := by decide +kernel
theorem dX11_happiest_74 : decode cX11_happiest 74 = .ok (.getfield 25, 3) := by decide +kernel
theorem dX11_happiest_77 : decode cX11_happiest 77 = .ok (.getfield 73, 3) := by decide +kernel
theorem dX11_happiest_80 : decode cX11_happiest 80 = .ok (.iload_n 2, 1) := by decide +kernel
theorem dX11_happiest_81 : decode cX11_happiest 81 = .ok (.aaload, 1) := by decide +kernel
theorem dX11_happiest_82 : decode cX11_happiest 82 = .ok (.getfield 82, 3) := by decide +kernel
theorem dX11_happiest_85 : decode cX11_happiest 85 = .ok (.if_icmp .le 5, 3) := by decide +kernel
theorem dX11_happiest_88 : decode cX11_happiest 88 = .ok (.iload_n 3, 1) := by decide +kernel
theorem dX11_happiest_89 : decode cX11_happiest 89 = .ok (.istore_n 2, 1) := by decide +kernel
theorem dX11_happiest_90 : decode cX11_happiest 90 = .ok (.iinc 3 1, 3) := by decide +kernel
theorem dX11_happiest_93 : decode cX11_happiest 93 = .ok (.goto (-43), 3) := by decide +kernel
theorem dX11_happiest_96 : decode cX11_happiest 96 = .ok (.iload_n 2, 1) := by decide +kernel
theorem dX11_happiest_97 : decode cX11_happiest 97 = .ok (.ireturn, 1) := by decide +kernel
theorem dX11_enough_0 : decode cX11_enough 0 = .ok (.aload_n 0, 1) := by decide +kernel
theorem dX11_enough_1 : decode cX11_enough 1 = .ok (.iload_n 1, 1) := by decide +kernel
theorem dX11_enough_2 : decode cX11_enough 2 = .ok (.invokevirtual 96, 3) := by decide +kernel
theorem dX11_enough_5 : decode cX11_enough 5 = .ok (.ifCond .eq 20, 3) := by decide +kernel
theorem dX11_enough_8 : decode cX11_enough 8 = .ok (.iload_n 2, 1) := by decide +kernel
theorem dX11_enough_9 : decode cX11_enough 9 = .ok (.invokestatic 158, 3) := by decide +kernel
theorem dX11_enough_12 : decode cX11_enough 12 = .ok (.ifCond .eq 13, 3) := by decide +kernel
theorem dX11_enough_15 : decode cX11_enough 15 = .ok (.iload_n 3, 1) := by decide +kernel
theorem dX11_enough_16 : decode cX11_enough 16 = .ok (.iconst 1, 1) := by decide +kernel
theorem dX11_enough_17 : decode cX11_enough 17 = .ok (.bipush 30, 2) := by decide +kernel
theorem dX11_enough_19 : decode cX11_enough 19 = .ok (.invokestatic 92, 3) := by decide +kernel
theorem dX11_enough_22 : decode cX11_enough 22 = .ok (.ifCond .ne 10, 3) := by decide +kernel
theorem dX11_enough_25 : decode cX11_enough 25 = .ok (.aload_n 0, 1) := by decide +kernel
theorem dX11_enough_26 : decode cX11_enough 26 = .ok (.ldc 57, 2) := by decide +kernel
theorem dX11_enough_28 : decode cX11_enough 28 = .ok (.invokevirtual 58, 3) := by decide +kernel
theorem dX11_enough_31 : decode cX11_enough 31 = .ok (.ireturn, 1) := by decide +kernel
theorem dX11_enough_32 : decode cX11_enough 32 = .ok (.aload_n 0, 1) := by decide +kernel
theorem dX11_enough_33 : decode cX11_enough 33 = .ok (.getfield 18, 3) := by decide +kernel
theorem dX11_enough_36 : decode cX11_enough 36 = .ok (.getfield 103, 3) := by decide +kernel
theorem dX11_enough_39 : decode cX11_enough 39 = .ok (.iload_n 1, 1) := by decide +kernel
theorem dX11_enough_40 : decode cX11_enough 40 = .ok (.aaload, 1) := by decide +kernel
theorem dX11_enough_41 : decode cX11_enough 41 = .ok (.getfield 161, 3) := by decide +kernel
theorem dX11_enough_44 : decode cX11_enough 44 = .ok (.ifCond .eq 10, 3) := by decide +kernel
theorem dX11_enough_47 : decode cX11_enough 47 = .ok (.aload_n 0, 1) := by decide +kernel
theorem dX11_enough_48 : decode cX11_enough 48 = .ok (.ldc 164, 2) := by decide +kernel
theorem dX11_enough_50 : decode cX11_enough 50 = .ok (.invokevirtual 58, 3) := by decide +kernel
theorem dX11_enough_53 : decode cX11_enough 53 = .ok (.ireturn, 1) := by decide +kernel
theorem dX11_enough_54 : decode cX11_enough 54 = .ok (.bipush 6, 2) := by decide +kernel
theorem dX11_enough_56 : decode cX11_enough 56 = .ok (.aload_n 0, 1) := by decide +kernel
theorem dX11_enough_57 : decode cX11_enough 57 = .ok (.getfield 18, 3) := by decide +kernel
theorem dX11_enough_60 : decode cX11_enough 60 = .ok (.getfield 103, 3) := by decide +kernel
theorem dX11_enough_63 : decode cX11_enough 63 = .ok (.iload_n 1, 1) := by decide +kernel
theorem dX11_enough_64 : decode cX11_enough 64 = .ok (.aaload, 1) := by decide +kernel
theorem dX11_enough_65 : decode cX11_enough 65 = .ok (.getfield 107, 3) := by decide +kernel
theorem dX11_enough_68 : decode cX11_enough 68 = .ok (.isub, 1) := by decide +kernel
theorem dX11_enough_69 : decode cX11_enough 69 = .ok (.istore 4, 2) := by decide +kernel
theorem dX11_enough_71 : decode cX11_enough 71 = .ok (.iconst 0, 1) := by decide +kernel
theorem dX11_enough_72 : decode cX11_enough 72 = .ok (.istore 5, 2) := by decide +kernel
theorem dX11_enough_74 : decode cX11_enough 74 = .ok (.iload 5, 2) := by decide +kernel
theorem dX11_enough_76 : decode cX11_enough 76 = .ok (.iload 4, 2) := by decide +kernel
theorem dX11_enough_78 : decode cX11_enough 78 = .ok (.if_icmp .gt 68, 3) := by decide +kernel
theorem dX11_enough_81 : decode cX11_enough 81 = .ok (.aload_n 0, 1) := by decide +kernel
theorem dX11_enough_82 : decode cX11_enough 82 = .ok (.invokevirtual 190, 3) := by decide +kernel
theorem dX11_enough_85 : decode cX11_enough 85 = .ok (.iconst 0, 1) := by decide +kernel
theorem dX11_enough_86 : decode cX11_enough 86 = .ok (.istore 6, 2) := by decide +kernel
theorem dX11_enough_88 : decode cX11_enough 88 = .ok (.iload 6, 2) := by decide +kernel
theorem dX11_enough_90 : decode cX11_enough 90 = .ok (.iload 5, 2) := by decide +kernel
theorem dX11_enough_92 : decode cX11_enough 92 = .ok (.if_icmp .ge 22, 3) := by decide +kernel
theorem dX11_enough_95 : decode cX11_enough 95 = .ok (.aload_n 0, 1) := by decide +kernel
theorem dX11_enough_96 : decode cX11_enough 96 = .ok (.getfield 25, 3) := by decide +kernel
theorem dX11_enough_99 : decode cX11_enough 99 = .ok (.getfield 103, 3) := by decide +kernel
theorem dX11_enough_102 : decode cX11_enough 102 = .ok (.iload_n 1, 1) := by decide +kernel
theorem dX11_enough_103 : decode cX11_enough 103 = .ok (.aaload, 1) := by decide +kernel
theorem dX11_enough_104 : decode cX11_enough 104 = .ok (.iload_n 2, 1) := by decide +kernel
theorem dX11_enough_105 : decode cX11_enough 105 = .ok (.invokevirtual 165, 3) := by decide +kernel
theorem dX11_enough_108 : decode cX11_enough 108 = .ok (.iinc 6 1, 3) := by decide +kernel
theorem dX11_enough_111 : decode cX11_enough 111 = .ok (.goto (-23), 3) := by decide +kernel
theorem dX11_enough_114 : decode cX11_enough 114 = .ok (.aload_n 0, 1) := by decide +kernel
theorem dX11_enough_115 : decode cX11_enough 115 = .ok (.getfield 25, 3) := by decide +kernel
theorem dX11_enough_118 : decode cX11_enough 118 = .ok (.iload_n 3, 1) := by decide +kernel
theorem dX11_enough_119 : decode cX11_enough 119 = .ok (.invokevirtual 175, 3) := by decide +kernel
theorem dX11_enough_122 : decode cX11_enough 122 = .ok (.aload_n 0, 1) := by decide +kernel
theorem dX11_enough_123 : decode cX11_enough 123 = .ok (.getfield 25, 3) := by decide +kernel
theorem dX11_enough_126 : decode cX11_enough 126 = .ok (.getfield 103, 3) := by decide +kernel
theorem dX11_enough_129 : decode cX11_enough 129 = .ok (.iload_n 1, 1) := by decide +kernel
theorem dX11_enough_130 : decode cX11_enough 130 = .ok (.aaload, 1) := by decide +kernel
theorem dX11_enough_131 : decode cX11_enough 131 = .ok (.getfield 161, 3) := by decide +kernel
theorem dX11_enough_134 : decode cX11_enough 134 = .ok (.ifCond .ne 6, 3) := by decide +kernel
theorem dX11_enough_137 : decode cX11_enough 137 = .ok (.iload 5, 2) := by decide +kernel
theorem dX11_enough_139 : decode cX11_enough 139 = .ok (.ireturn, 1) := by decide +kernel
theorem dX11_enough_140 : decode cX11_enough 140 = .ok (.iinc 5 1, 3) := by decide +kernel
theorem dX11_enough_143 : decode cX11_enough 143 = .ok (.goto (-69), 3) := by decide +kernel
theorem dX11_enough_146 : decode cX11_enough 146 = .ok (.aload_n 0, 1) := by decide +kernel
theorem dX11_enough_147 : decode cX11_enough 147 = .ok (.ldc 112, 2) := by decide +kernel
theorem dX11_enough_149 : decode cX11_enough 149 = .ok (.invokevirtual 58, 3) := by decide +kernel
theorem dX11_enough_152 : decode cX11_enough 152 = .ok (.ireturn, 1) := by decide +kernel
theorem dX11_feed_0 : decode cX11_feed 0 = .ok (.iload_n 2, 1) := by decide +kernel
theorem dX11_feed_1 : decode cX11_feed 1 = .ok (.iconst 1, 1) := by decide +kernel
theorem dX11_feed_2 : decode cX11_feed 2 = .ok (.iconst 4, 1) := by decide +kernel
theorem dX11_feed_3 : decode cX11_feed 3 = .ok (.invokestatic 92, 3) := by decide +kernel
theorem dX11_feed_6 : decode cX11_feed 6 = .ok (.ifCond .ne 10, 3) := by decide +kernel
theorem dX11_feed_9 : decode cX11_feed 9 = .ok (.aload_n 0, 1) := by decide +kernel
theorem dX11_feed_10 : decode cX11_feed 10 = .ok (.ldc 57, 2) := by decide +kernel
theorem dX11_feed_12 : decode cX11_feed 12 = .ok (.invokevirtual 58, 3) := by decide +kernel
theorem dX11_feed_15 : decode cX11_feed 15 = .ok (.ireturn, 1) := by decide +kernel
theorem dX11_feed_16 : decode cX11_feed 16 = .ok (.aload_n 0, 1) := by decide +kernel
theorem dX11_feed_17 : decode cX11_feed 17 = .ok (.getfield 42, 3) := by decide +kernel
theorem dX11_feed_20 : decode cX11_feed 20 = .ok (.getfield 211, 3) := by decide +kernel
theorem dX11_feed_23 : decode cX11_feed 23 = .ok (.iload_n 2, 1) := by decide +kernel
theorem dX11_feed_24 : decode cX11_feed 24 = .ok (.iadd, 1) := by decide +kernel
theorem dX11_feed_25 : decode cX11_feed 25 = .ok (.bipush 120, 2) := by decide +kernel
theorem dX11_feed_27 : decode cX11_feed 27 = .ok (.if_icmp .le 10, 3) := by decide +kernel
theorem dX11_feed_30 : decode cX11_feed 30 = .ok (.aload_n 0, 1) := by decide +kernel
theorem dX11_feed_31 : decode cX11_feed 31 = .ok (.ldc 66, 2) := by decide +kernel
theorem dX11_feed_33 : decode cX11_feed 33 = .ok (.invokevirtual 58, 3) := by decide +kernel
theorem dX11_feed_36 : decode cX11_feed 36 = .ok (.ireturn, 1) := by decide +kernel
theorem dX11_feed_37 : decode cX11_feed 37 = .ok (.iload_n 2, 1) := by decide +kernel
theorem dX11_feed_38 : decode cX11_feed 38 = .ok (.iconst 1, 1) := by decide +kernel
theorem dX11_feed_39 : decode cX11_feed 39 = .ok (.isub, 1) := by decide +kernel
theorem dX11_feed_40 : decode cX11_feed 40 = .ok (.istore_n 3, 1) := by decide +kernel
theorem dX11_feed_41 : decode cX11_feed 41 = .ok (.iload_n 3, 1) := by decide +kernel
theorem dX11_feed_42 : decode cX11_feed 42 = .ok (.ifCond .lt 26, 3) := by decide +kernel
theorem dX11_feed_45 : decode cX11_feed 45 = .ok (.aload_n 0, 1) := by decide +kernel
theorem dX11_feed_46 : decode cX11_feed 46 = .ok (.getfield 42, 3) := by decide +kernel
theorem dX11_feed_49 : decode cX11_feed 49 = .ok (.iload_n 1, 1) := by decide +kernel
theorem dX11_feed_50 : decode cX11_feed 50 = .ok (.bipush 8, 2) := by decide +kernel
theorem dX11_feed_52 : decode cX11_feed 52 = .ok (.iload_n 3, 1) := by decide +kernel
theorem dX11_feed_53 : decode cX11_feed 53 = .ok (.imul, 1) := by decide +kernel
theorem dX11_feed_54 : decode cX11_feed 54 = .ok (.iushr, 1) := by decide +kernel
theorem dX11_feed_55 : decode cX11_feed 55 = .ok (.sipush 255, 3) := by decide +kernel
theorem dX11_feed_58 : decode cX11_feed 58 = .ok (.iand, 1) := by decide +kernel
theorem dX11_feed_59 : decode cX11_feed 59 = .ok (.invokevirtual 214, 3) := by decide +kernel
theorem dX11_feed_62 : decode cX11_feed 62 = .ok (.iinc 3 (-1), 3) := by decide +kernel
theorem dX11_feed_65 : decode cX11_feed 65 = .ok (.goto (-24), 3) := by decide +kernel
theorem dX11_feed_68 : decode cX11_feed 68 = .ok (.aload_n 0, 1) := by decide +kernel
theorem dX11_feed_69 : decode cX11_feed 69 = .ok (.getfield 42, 3) := by decide +kernel
theorem dX11_feed_72 : decode cX11_feed 72 = .ok (.getfield 211, 3) := by decide +kernel
theorem dX11_feed_75 : decode cX11_feed 75 = .ok (.ireturn, 1) := by decide +kernel
theorem dX11_wipe_0 : decode cX11_wipe 0 = .ok (.aload_n 0, 1) := by decide +kernel
theorem dX11_wipe_1 : decode cX11_wipe 1 = .ok (.getfield 42, 3) := by decide +kernel
theorem dX11_wipe_4 : decode cX11_wipe 4 = .ok (.getfield 211, 3) := by decide +kernel
theorem dX11_wipe_7 : decode cX11_wipe 7 = .ok (.istore_n 1, 1) := by decide +kernel
theorem dX11_wipe_8 : decode cX11_wipe 8 = .ok (.aload_n 0, 1) := by decide +kernel
theorem dX11_wipe_9 : decode cX11_wipe 9 = .ok (.getfield 42, 3) := by decide +kernel
theorem dX11_wipe_12 : decode cX11_wipe 12 = .ok (.iconst 0, 1) := by decide +kernel
theorem dX11_wipe_13 : decode cX11_wipe 13 = .ok (.putfield 211, 3) := by decide +kernel
theorem dX11_wipe_16 : decode cX11_wipe 16 = .ok (.iload_n 1, 1) := by decide +kernel
theorem dX11_wipe_17 : decode cX11_wipe 17 = .ok (.ireturn, 1) := by decide +kernel
theorem dX11_town_0 : decode cX11_town 0 = .ok (.aload_n 0, 1) := by decide +kernel
theorem dX11_town_1 : decode cX11_town 1 = .ok (.invokevirtual 190, 3) := by decide +kernel
theorem dX11_town_4 : decode cX11_town 4 = .ok (.aload_n 0, 1) := by decide +kernel
theorem dX11_town_5 : decode cX11_town 5 = .ok (.getfield 42, 3) := by decide +kernel
theorem dX11_town_8 : decode cX11_town 8 = .ok (.aload_n 0, 1) := by decide +kernel
theorem dX11_town_9 : decode cX11_town 9 = .ok (.getfield 25, 3) := by decide +kernel
theorem dX11_town_12 : decode cX11_town 12 = .ok (.invokevirtual 217, 3) := by decide +kernel
theorem dX11_town_15 : decode cX11_town 15 = .ok (.istore_n 1, 1) := by decide +kernel
theorem dX11_town_16 : decode cX11_town 16 = .ok (.aload_n 0, 1) := by decide +kernel
theorem dX11_town_17 : decode cX11_town 17 = .ok (.getfield 42, 3) := by decide +kernel
theorem dX11_town_20 : decode cX11_town 20 = .ok (.iconst 0, 1) := by decide +kernel
theorem dX11_town_21 : decode cX11_town 21 = .ok (.putfield 211, 3) := by decide +kernel
theorem dX11_town_24 : decode cX11_town 24 = .ok (.iload_n 1, 1) := by decide +kernel
theorem dX11_town_25 : decode cX11_town 25 = .ok (.ifCond .lt 14, 3) := by decide +kernel
theorem dX11_town_28 : decode cX11_town 28 = .ok (.aload_n 0, 1) := by decide +kernel
theorem dX11_town_29 : decode cX11_town 29 = .ok (.getfield 18, 3) := by decide +kernel
theorem dX11_town_32 : decode cX11_town 32 = .ok (.aload_n 0, 1) := by decide +kernel
theorem dX11_town_33 : decode cX11_town 33 = .ok (.getfield 25, 3) := by decide +kernel
theorem dX11_town_36 : decode cX11_town 36 = .ok (.invokevirtual 221, 3) := by decide +kernel
theorem dX11_town_39 : decode cX11_town 39 = .ok (.iload_n 1, 1) := by decide +kernel
theorem dX11_town_40 : decode cX11_town 40 = .ok (.ireturn, 1) := by decide +kernel
theorem dX11_sheet_0 : decode cX11_sheet 0 = .ok (.iload_n 1, 1) := by decide +kernel
theorem dX11_sheet_1 : decode cX11_sheet 1 = .ok (.invokestatic 225, 3) := by decide +kernel
theorem dX11_sheet_4 : decode cX11_sheet 4 = .ok (.ifCond .eq 25, 3) := by decide +kernel
theorem dX11_sheet_7 : decode cX11_sheet 7 = .ok (.iload_n 2, 1) := by decide +kernel
theorem dX11_sheet_8 : decode cX11_sheet 8 = .ok (.ifCond .eq 28, 3) := by decide +kernel
theorem dX11_sheet_11 : decode cX11_sheet 11 = .ok (.iload_n 2, 1) := by decide +kernel
theorem dX11_sheet_12 : decode cX11_sheet 12 = .ok (.bipush 8, 2) := by decide +kernel
theorem dX11_sheet_14 : decode cX11_sheet 14 = .ok (.if_icmp .eq 22, 3) := by decide +kernel
theorem dX11_sheet_17 : decode cX11_sheet 17 = .ok (.iload_n 2, 1) := by decide +kernel
theorem dX11_sheet_18 : decode cX11_sheet 18 = .ok (.bipush 16, 2) := by decide +kernel
theorem dX11_sheet_20 : decode cX11_sheet 20 = .ok (.if_icmp .eq 16, 3) := by decide +kernel
theorem dX11_sheet_23 : decode cX11_sheet 23 = .ok (.iload_n 2, 1) := by decide +kernel
theorem dX11_sheet_24 : decode cX11_sheet 24 = .ok (.bipush 64, 2) := by decide +kernel
theorem dX11_sheet_26 : decode cX11_sheet 26 = .ok (.if_icmp .eq 10, 3) := by decide +kernel
theorem dX11_sheet_29 : decode cX11_sheet 29 = .ok (.aload_n 0, 1) := by decide +kernel
theorem dX11_sheet_30 : decode cX11_sheet 30 = .ok (.ldc 57, 2) := by decide +kernel
theorem dX11_sheet_32 : decode cX11_sheet 32 = .ok (.invokevirtual 58, 3) := by decide +kernel
theorem dX11_sheet_35 : decode cX11_sheet 35 = .ok (.ireturn, 1) := by decide +kernel
theorem dX11_sheet_36 : decode cX11_sheet 36 = .ok (.iload_n 3, 1) := by decide +kernel
theorem dX11_sheet_37 : decode cX11_sheet 37 = .ok (.ifCond .ge 10, 3) := by decide +kernel
theorem dX11_sheet_40 : decode cX11_sheet 40 = .ok (.aload_n 0, 1) := by decide +kernel
theorem dX11_sheet_41 : decode cX11_sheet 41 = .ok (.ldc 196, 2) := by decide +kernel
theorem dX11_sheet_43 : decode cX11_sheet 43 = .ok (.invokevirtual 58, 3) := by decide +kernel
theorem dX11_sheet_46 : decode cX11_sheet 46 = .ok (.ireturn, 1) := by decide +kernel
theorem dX11_sheet_47 : decode cX11_sheet 47 = .ok (.iload_n 3, 1) := by decide +kernel
theorem dX11_sheet_48 : decode cX11_sheet 48 = .ok (.bipush 40, 2) := by decide +kernel
theorem dX11_sheet_50 : decode cX11_sheet 50 = .ok (.if_icmp .le 10, 3) := by decide +kernel
theorem dX11_sheet_53 : decode cX11_sheet 53 = .ok (.aload_n 0, 1) := by decide +kernel
theorem dX11_sheet_54 : decode cX11_sheet 54 = .ok (.ldc 57, 2) := by decide +kernel
theorem dX11_sheet_56 : decode cX11_sheet 56 = .ok (.invokevirtual 58, 3) := by decide +kernel
theorem dX11_sheet_59 : decode cX11_sheet 59 = .ok (.ireturn, 1) := by decide +kernel
theorem dX11_sheet_60 : decode cX11_sheet 60 = .ok (.aload_n 0, 1) := by decide +kernel
theorem dX11_sheet_61 : decode cX11_sheet 61 = .ok (.getfield 34, 3) := by decide +kernel
theorem dX11_sheet_64 : decode cX11_sheet 64 = .ok (.iload_n 1, 1) := by decide +kernel
theorem dX11_sheet_65 : decode cX11_sheet 65 = .ok (.aaload, 1) := by decide +kernel
theorem dX11_sheet_66 : decode cX11_sheet 66 = .ok (.iload_n 2, 1) := by decide +kernel
theorem dX11_sheet_67 : decode cX11_sheet 67 = .ok (.iload_n 2, 1) := by decide +kernel
theorem dX11_sheet_68 : decode cX11_sheet 68 = .ok (.ifCond .ne 7, 3) := by decide +kernel
theorem dX11_sheet_71 : decode cX11_sheet 71 = .ok (.iconst 0, 1) := by decide +kernel
theorem dX11_sheet_72 : decode cX11_sheet 72 = .ok (.goto 4, 3) := by decide +kernel
theorem dX11_sheet_75 : decode cX11_sheet 75 = .ok (.iload_n 3, 1) := by decide +kernel
theorem dX11_sheet_76 : decode cX11_sheet 76 = .ok (.invokevirtual 228, 3) := by decide +kernel
theorem dX11_sheet_79 : decode cX11_sheet 79 = .ok (.aload_n 0, 1) := by decide +kernel
theorem dX11_sheet_80 : decode cX11_sheet 80 = .ok (.getfield 34, 3) := by decide +kernel
theorem dX11_sheet_83 : decode cX11_sheet 83 = .ok (.iload_n 1, 1) := by decide +kernel
theorem dX11_sheet_84 : decode cX11_sheet 84 = .ok (.aaload, 1) := by decide +kernel
theorem dX11_sheet_85 : decode cX11_sheet 85 = .ok (.getfield 231, 3) := by decide +kernel
theorem dX11_sheet_88 : decode cX11_sheet 88 = .ok (.ireturn, 1) := by decide +kernel
theorem dX11_write_0 : decode cX11_write 0 = .ok (.iload_n 1, 1) := by decide +kernel
theorem dX11_write_1 : decode cX11_write 1 = .ok (.invokestatic 225, 3) := by decide +kernel
theorem dX11_write_4 : decode cX11_write 4 = .ok (.ifCond .ne 11, 3) := by decide +kernel
theorem dX11_write_7 : decode cX11_write 7 = .ok (.aload_n 0, 1) := by decide +kernel
theorem dX11_write_8 : decode cX11_write 8 = .ok (.ldc 57, 2) := by decide +kernel
theorem dX11_write_10 : decode cX11_write 10 = .ok (.invokevirtual 58, 3) := by decide +kernel
theorem dX11_write_13 : decode cX11_write 13 = .ok (.i2l, 1) := by decide +kernel
theorem dX11_write_14 : decode cX11_write 14 = .ok (.lreturn, 1) := by decide +kernel
theorem dX11_write_15 : decode cX11_write 15 = .ok (.aload_n 0, 1) := by decide +kernel
theorem dX11_write_16 : decode cX11_write 16 = .ok (.getfield 34, 3) := by decide +kernel
theorem dX11_write_19 : decode cX11_write 19 = .ok (.iload_n 1, 1) := by decide +kernel
theorem dX11_write_20 : decode cX11_write 20 = .ok (.aaload, 1) := by decide +kernel
theorem dX11_write_21 : decode cX11_write 21 = .ok (.invokevirtual 234, 3) := by decide +kernel
theorem dX11_write_24 : decode cX11_write 24 = .ok (.ifCond .eq 11, 3) := by decide +kernel
theorem dX11_write_27 : decode cX11_write 27 = .ok (.aload_n 0, 1) := by decide +kernel
theorem dX11_write_28 : decode cX11_write 28 = .ok (.ldc 238, 2) := by decide +kernel
theorem dX11_write_30 : decode cX11_write 30 = .ok (.invokevirtual 58, 3) := by decide +kernel
theorem dX11_write_33 : decode cX11_write 33 = .ok (.i2l, 1) := by decide +kernel
theorem dX11_write_34 : decode cX11_write 34 = .ok (.lreturn, 1) := by decide +kernel
theorem dX11_write_35 : decode cX11_write 35 = .ok (.iload_n 2, 1) := by decide +kernel
theorem dX11_write_36 : decode cX11_write 36 = .ok (.iconst 0, 1) := by decide +kernel
theorem dX11_write_37 : decode cX11_write 37 = .ok (.aload_n 0, 1) := by decide +kernel
theorem dX11_write_38 : decode cX11_write 38 = .ok (.getfield 34, 3) := by decide +kernel
theorem dX11_write_41 : decode cX11_write 41 = .ok (.iload_n 1, 1) := by decide +kernel
theorem dX11_write_42 : decode cX11_write 42 = .ok (.aaload, 1) := by decide +kernel
theorem dX11_write_43 : decode cX11_write 43 = .ok (.getfield 231, 3) := by decide +kernel
theorem dX11_write_46 : decode cX11_write 46 = .ok (.iconst 1, 1) := by decide +kernel
theorem dX11_write_47 : decode cX11_write 47 = .ok (.isub, 1) := by decide +kernel
theorem dX11_write_48 : decode cX11_write 48 = .ok (.invokestatic 92, 3) := by decide +kernel
theorem dX11_write_51 : decode cX11_write 51 = .ok (.ifCond .ne 11, 3) := by decide +kernel
theorem dX11_write_54 : decode cX11_write 54 = .ok (.aload_n 0, 1) := by decide +kernel
theorem dX11_write_55 : decode cX11_write 55 = .ok (.ldc 57, 2) := by decide +kernel
theorem dX11_write_57 : decode cX11_write 57 = .ok (.invokevirtual 58, 3) := by decide +kernel
theorem dX11_write_60 : decode cX11_write 60 = .ok (.i2l, 1) := by decide +kernel
theorem dX11_write_61 : decode cX11_write 61 = .ok (.lreturn, 1) := by decide +kernel
theorem dX11_write_62 : decode cX11_write 62 = .ok (.aload_n 0, 1) := by decide +kernel
theorem dX11_write_63 : decode cX11_write 63 = .ok (.getfield 34, 3) := by decide +kernel
theorem dX11_write_66 : decode cX11_write 66 = .ok (.iload_n 1, 1) := by decide +kernel
theorem dX11_write_67 : decode cX11_write 67 = .ok (.aaload, 1) := by decide +kernel
theorem dX11_write_68 : decode cX11_write 68 = .ok (.getfield 239, 3) := by decide +kernel
theorem dX11_write_71 : decode cX11_write 71 = .ok (.iload_n 2, 1) := by decide +kernel
theorem dX11_write_72 : decode cX11_write 72 = .ok (.laload, 1) := by decide +kernel
theorem dX11_write_73 : decode cX11_write 73 = .ok (.lstore 5, 2) := by decide +kernel
theorem dX11_write_75 : decode cX11_write 75 = .ok (.aload_n 0, 1) := by decide +kernel
theorem dX11_write_76 : decode cX11_write 76 = .ok (.getfield 34, 3) := by decide +kernel
theorem dX11_write_79 : decode cX11_write 79 = .ok (.iload_n 1, 1) := by decide +kernel
theorem dX11_write_80 : decode cX11_write 80 = .ok (.aaload, 1) := by decide +kernel
theorem dX11_write_81 : decode cX11_write 81 = .ok (.iload_n 2, 1) := by decide +kernel
theorem dX11_write_82 : decode cX11_write 82 = .ok (.lload_n 3, 1) := by decide +kernel
theorem dX11_write_83 : decode cX11_write 83 = .ok (.invokevirtual 243, 3) := by decide +kernel
theorem dX11_write_86 : decode cX11_write 86 = .ok (.lload 5, 2) := by decide +kernel
theorem dX11_write_88 : decode cX11_write 88 = .ok (.lreturn, 1) := by decide +kernel
theorem dX11_copy_0 : decode cX11_copy 0 = .ok (.iload_n 1, 1) := by decide +kernel
theorem dX11_copy_1 : decode cX11_copy 1 = .ok (.invokestatic 225, 3) := by decide +kernel
theorem dX11_copy_4 : decode cX11_copy 4 = .ok (.ifCond .eq 10, 3) := by decide +kernel
theorem dX11_copy_7 : decode cX11_copy 7 = .ok (.iload_n 3, 1) := by decide +kernel
theorem dX11_copy_8 : decode cX11_copy 8 = .ok (.invokestatic 225, 3) := by decide +kernel
theorem dX11_copy_11 : decode cX11_copy 11 = .ok (.ifCond .ne 10, 3) := by decide +kernel
theorem dX11_copy_14 : decode cX11_copy 14 = .ok (.aload_n 0, 1) := by decide +kernel
theorem dX11_copy_15 : decode cX11_copy 15 = .ok (.ldc 57, 2) := by decide +kernel
theorem dX11_copy_17 : decode cX11_copy 17 = .ok (.invokevirtual 58, 3) := by decide +kernel
theorem dX11_copy_20 : decode cX11_copy 20 = .ok (.ireturn, 1) := by decide +kernel
theorem dX11_copy_21 : decode cX11_copy 21 = .ok (.aload_n 0, 1) := by decide +kernel
theorem dX11_copy_22 : decode cX11_copy 22 = .ok (.getfield 34, 3) := by decide +kernel
theorem dX11_copy_25 : decode cX11_copy 25 = .ok (.iload_n 1, 1) := by decide +kernel
theorem dX11_copy_26 : decode cX11_copy 26 = .ok (.aaload, 1) := by decide +kernel
theorem dX11_copy_27 : decode cX11_copy 27 = .ok (.invokevirtual 234, 3) := by decide +kernel
theorem dX11_copy_30 : decode cX11_copy 30 = .ok (.ifCond .ne 15, 3) := by decide +kernel
theorem dX11_copy_33 : decode cX11_copy 33 = .ok (.aload_n 0, 1) := by decide +kernel
theorem dX11_copy_34 : decode cX11_copy 34 = .ok (.getfield 34, 3) := by decide +kernel
theorem dX11_copy_37 : decode cX11_copy 37 = .ok (.iload_n 3, 1) := by decide +kernel
theorem dX11_copy_38 : decode cX11_copy 38 = .ok (.aaload, 1) := by decide +kernel
theorem dX11_copy_39 : decode cX11_copy 39 = .ok (.invokevirtual 234, 3) := by decide +kernel
theorem dX11_copy_42 : decode cX11_copy 42 = .ok (.ifCond .eq 10, 3) := by decide +kernel
theorem dX11_copy_45 : decode cX11_copy 45 = .ok (.aload_n 0, 1) := by decide +kernel
theorem dX11_copy_46 : decode cX11_copy 46 = .ok (.ldc 238, 2) := by decide +kernel
theorem dX11_copy_48 : decode cX11_copy 48 = .ok (.invokevirtual 58, 3) := by decide +kernel
theorem dX11_copy_51 : decode cX11_copy 51 = .ok (.ireturn, 1) := by decide +kernel
theorem dX11_copy_52 : decode cX11_copy 52 = .ok (.aload_n 0, 1) := by decide +kernel
theorem dX11_copy_53 : decode cX11_copy 53 = .ok (.getfield 34, 3) := by decide +kernel
theorem dX11_copy_56 : decode cX11_copy 56 = .ok (.iload_n 1, 1) := by decide +kernel
theorem dX11_copy_57 : decode cX11_copy 57 = .ok (.aaload, 1) := by decide +kernel
theorem dX11_copy_58 : decode cX11_copy 58 = .ok (.getfield 247, 3) := by decide +kernel
theorem dX11_copy_61 : decode cX11_copy 61 = .ok (.aload_n 0, 1) := by decide +kernel
theorem dX11_copy_62 : decode cX11_copy 62 = .ok (.getfield 34, 3) := by decide +kernel
theorem dX11_copy_65 : decode cX11_copy 65 = .ok (.iload_n 3, 1) := by decide +kernel
theorem dX11_copy_66 : decode cX11_copy 66 = .ok (.aaload, 1) := by decide +kernel
theorem dX11_copy_67 : decode cX11_copy 67 = .ok (.getfield 247, 3) := by decide +kernel
theorem dX11_copy_70 : decode cX11_copy 70 = .ok (.if_icmp .eq 10, 3) := by decide +kernel
theorem dX11_copy_73 : decode cX11_copy 73 = .ok (.aload_n 0, 1) := by decide +kernel
theorem dX11_copy_74 : decode cX11_copy 74 = .ok (.ldc 142, 2) := by decide +kernel
theorem dX11_copy_76 : decode cX11_copy 76 = .ok (.invokevirtual 58, 3) := by decide +kernel
theorem dX11_copy_79 : decode cX11_copy 79 = .ok (.ireturn, 1) := by decide +kernel
theorem dX11_copy_80 : decode cX11_copy 80 = .ok (.aload_n 0, 1) := by decide +kernel
theorem dX11_copy_81 : decode cX11_copy 81 = .ok (.getfield 34, 3) := by decide +kernel
theorem dX11_copy_84 : decode cX11_copy 84 = .ok (.iload_n 1, 1) := by decide +kernel
theorem dX11_copy_85 : decode cX11_copy 85 = .ok (.aaload, 1) := by decide +kernel
theorem dX11_copy_86 : decode cX11_copy 86 = .ok (.iload_n 2, 1) := by decide +kernel
theorem dX11_copy_87 : decode cX11_copy 87 = .ok (.iload 5, 2) := by decide +kernel
theorem dX11_copy_89 : decode cX11_copy 89 = .ok (.invokevirtual 250, 3) := by decide +kernel
theorem dX11_copy_92 : decode cX11_copy 92 = .ok (.ifCond .eq 19, 3) := by decide +kernel
theorem dX11_copy_95 : decode cX11_copy 95 = .ok (.aload_n 0, 1) := by decide +kernel
theorem dX11_copy_96 : decode cX11_copy 96 = .ok (.getfield 34, 3) := by decide +kernel
theorem dX11_copy_99 : decode cX11_copy 99 = .ok (.iload_n 3, 1) := by decide +kernel
theorem dX11_copy_100 : decode cX11_copy 100 = .ok (.aaload, 1) := by decide +kernel
theorem dX11_copy_101 : decode cX11_copy 101 = .ok (.iload 4, 2) := by decide +kernel
theorem dX11_copy_103 : decode cX11_copy 103 = .ok (.iload 5, 2) := by decide +kernel
theorem dX11_copy_105 : decode cX11_copy 105 = .ok (.invokevirtual 250, 3) := by decide +kernel
theorem dX11_copy_108 : decode cX11_copy 108 = .ok (.ifCond .ne 10, 3) := by decide +kernel
theorem dX11_copy_111 : decode cX11_copy 111 = .ok (.aload_n 0, 1) := by decide +kernel
theorem dX11_copy_112 : decode cX11_copy 112 = .ok (.ldc 57, 2) := by decide +kernel
theorem dX11_copy_114 : decode cX11_copy 114 = .ok (.invokevirtual 58, 3) := by decide +kernel
theorem dX11_copy_117 : decode cX11_copy 117 = .ok (.ireturn, 1) := by decide +kernel
theorem dX11_copy_118 : decode cX11_copy 118 = .ok (.aload_n 0, 1) := by decide +kernel
theorem dX11_copy_119 : decode cX11_copy 119 = .ok (.getfield 34, 3) := by decide +kernel
theorem dX11_copy_122 : decode cX11_copy 122 = .ok (.iload_n 1, 1) := by decide +kernel
theorem dX11_copy_123 : decode cX11_copy 123 = .ok (.aaload, 1) := by decide +kernel
theorem dX11_copy_124 : decode cX11_copy 124 = .ok (.getfield 239, 3) := by decide +kernel
theorem dX11_copy_127 : decode cX11_copy 127 = .ok (.iload_n 2, 1) := by decide +kernel
theorem dX11_copy_128 : decode cX11_copy 128 = .ok (.aload_n 0, 1) := by decide +kernel
theorem dX11_copy_129 : decode cX11_copy 129 = .ok (.getfield 34, 3) := by decide +kernel
theorem dX11_copy_132 : decode cX11_copy 132 = .ok (.iload_n 3, 1) := by decide +kernel
theorem dX11_copy_133 : decode cX11_copy 133 = .ok (.aaload, 1) := by decide +kernel
theorem dX11_copy_134 : decode cX11_copy 134 = .ok (.getfield 239, 3) := by decide +kernel
theorem dX11_copy_137 : decode cX11_copy 137 = .ok (.iload 4, 2) := by decide +kernel
theorem dX11_copy_139 : decode cX11_copy 139 = .ok (.iload 5, 2) := by decide +kernel
theorem dX11_copy_141 : decode cX11_copy 141 = .ok (.invokestatic 254, 3) := by decide +kernel
theorem dX11_copy_144 : decode cX11_copy 144 = .ok (.iload 5, 2) := by decide +kernel
theorem dX11_copy_146 : decode cX11_copy 146 = .ok (.ireturn, 1) := by decide +kernel
theorem dX11_lays_0 : decode cX11_lays 0 = .ok (.iload_n 1, 1) := by decide +kernel
theorem dX11_lays_1 : decode cX11_lays 1 = .ok (.invokestatic 225, 3) := by decide +kernel
theorem dX11_lays_4 : decode cX11_lays 4 = .ok (.ifCond .ne 10, 3) := by decide +kernel
theorem dX11_lays_7 : decode cX11_lays 7 = .ok (.aload_n 0, 1) := by decide +kernel
theorem dX11_lays_8 : decode cX11_lays 8 = .ok (.ldc 57, 2) := by decide +kernel
theorem dX11_lays_10 : decode cX11_lays 10 = .ok (.invokevirtual 58, 3) := by decide +kernel
theorem dX11_lays_13 : decode cX11_lays 13 = .ok (.ireturn, 1) := by decide +kernel
theorem dX11_lays_14 : decode cX11_lays 14 = .ok (.aload_n 0, 1) := by decide +kernel
theorem dX11_lays_15 : decode cX11_lays 15 = .ok (.getfield 34, 3) := by decide +kernel
theorem dX11_lays_18 : decode cX11_lays 18 = .ok (.iload_n 1, 1) := by decide +kernel
theorem dX11_lays_19 : decode cX11_lays 19 = .ok (.aaload, 1) := by decide +kernel
theorem dX11_lays_20 : decode cX11_lays 20 = .ok (.invokevirtual 234, 3) := by decide +kernel
theorem dX11_lays_23 : decode cX11_lays 23 = .ok (.ifCond .eq 10, 3) := by decide +kernel
theorem dX11_lays_26 : decode cX11_lays 26 = .ok (.aload_n 0, 1) := by decide +kernel
theorem dX11_lays_27 : decode cX11_lays 27 = .ok (.ldc 238, 2) := by decide +kernel
theorem dX11_lays_29 : decode cX11_lays 29 = .ok (.invokevirtual 58, 3) := by decide +kernel
theorem dX11_lays_32 : decode cX11_lays 32 = .ok (.ireturn, 1) := by decide +kernel
theorem dX11_lays_33 : decode cX11_lays 33 = .ok (.aload_n 0, 1) := by decide +kernel
theorem dX11_lays_34 : decode cX11_lays 34 = .ok (.iload_n 2, 1) := by decide +kernel
theorem dX11_lays_35 : decode cX11_lays 35 = .ok (.invokevirtual 96, 3) := by decide +kernel
theorem dX11_lays_38 : decode cX11_lays 38 = .ok (.ifCond .ne 10, 3) := by decide +kernel
theorem dX11_lays_41 : decode cX11_lays 41 = .ok (.aload_n 0, 1) := by decide +kernel
theorem dX11_lays_42 : decode cX11_lays 42 = .ok (.ldc 57, 2) := by decide +kernel
theorem dX11_lays_44 : decode cX11_lays 44 = .ok (.invokevirtual 58, 3) := by decide +kernel
theorem dX11_lays_47 : decode cX11_lays 47 = .ok (.ireturn, 1) := by decide +kernel
theorem dX11_lays_48 : decode cX11_lays 48 = .ok (.aload_n 0, 1) := by decide +kernel
theorem dX11_lays_49 : decode cX11_lays 49 = .ok (.getfield 18, 3) := by decide +kernel
theorem dX11_lays_52 : decode cX11_lays 52 = .ok (.getfield 103, 3) := by decide +kernel
theorem dX11_lays_55 : decode cX11_lays 55 = .ok (.iload_n 2, 1) := by decide +kernel
theorem dX11_lays_56 : decode cX11_lays 56 = .ok (.aaload, 1) := by decide +kernel
theorem dX11_lays_57 : decode cX11_lays 57 = .ok (.astore_n 3, 1) := by decide +kernel
theorem dX11_lays_58 : decode cX11_lays 58 = .ok (.aload_n 3, 1) := by decide +kernel
theorem dX11_lays_59 : decode cX11_lays 59 = .ok (.getfield 161, 3) := by decide +kernel
theorem dX11_lays_62 : decode cX11_lays 62 = .ok (.ifCond .eq 10, 3) := by decide +kernel
theorem dX11_lays_65 : decode cX11_lays 65 = .ok (.aload_n 0, 1) := by decide +kernel
theorem dX11_lays_66 : decode cX11_lays 66 = .ok (.ldc 164, 2) := by decide +kernel
theorem dX11_lays_68 : decode cX11_lays 68 = .ok (.invokevirtual 58, 3) := by decide +kernel
theorem dX11_lays_71 : decode cX11_lays 71 = .ok (.ireturn, 1) := by decide +kernel
theorem dX11_lays_72 : decode cX11_lays 72 = .ok (.aload_n 3, 1) := by decide +kernel
theorem dX11_lays_73 : decode cX11_lays 73 = .ok (.iconst 0, 1) := by decide +kernel
theorem dX11_lays_74 : decode cX11_lays 74 = .ok (.putfield 107, 3) := by decide +kernel
theorem dX11_lays_77 : decode cX11_lays 77 = .ok (.aload_n 0, 1) := by decide +kernel
theorem dX11_lays_78 : decode cX11_lays 78 = .ok (.getfield 34, 3) := by decide +kernel
theorem dX11_lays_81 : decode cX11_lays 81 = .ok (.iload_n 1, 1) := by decide +kernel
theorem dX11_lays_82 : decode cX11_lays 82 = .ok (.aaload, 1) := by decide +kernel
theorem dX11_lays_83 : decode cX11_lays 83 = .ok (.getfield 231, 3) := by decide +kernel
theorem dX11_lays_86 : decode cX11_lays 86 = .ok (.bipush 6, 2) := by decide +kernel
theorem dX11_lays_88 : decode cX11_lays 88 = .ok (.invokestatic 260, 3) := by decide +kernel
theorem dX11_lays_91 : decode cX11_lays 91 = .ok (.istore 4, 2) := by decide +kernel
theorem dX11_lays_93 : decode cX11_lays 93 = .ok (.iconst 0, 1) := by decide +kernel
theorem dX11_lays_94 : decode cX11_lays 94 = .ok (.istore 5, 2) := by decide +kernel
theorem dX11_lays_96 : decode cX11_lays 96 = .ok (.iload 5, 2) := by decide +kernel
theorem dX11_lays_98 : decode cX11_lays 98 = .ok (.iload 4, 2) := by decide +kernel
theorem dX11_lays_100 : decode cX11_lays 100 = .ok (.if_icmp .ge 49, 3) := by decide +kernel
theorem dX11_lays_103 : decode cX11_lays 103 = .ok (.aload_n 0, 1) := by decide +kernel
theorem dX11_lays_104 : decode cX11_lays 104 = .ok (.getfield 34, 3) := by decide +kernel
theorem dX11_lays_107 : decode cX11_lays 107 = .ok (.iload_n 1, 1) := by decide +kernel
theorem dX11_lays_108 : decode cX11_lays 108 = .ok (.aaload, 1) := by decide +kernel
theorem dX11_lays_109 : decode cX11_lays 109 = .ok (.getfield 239, 3) := by decide +kernel
theorem dX11_lays_112 : decode cX11_lays 112 = .ok (.iload 5, 2) := by decide +kernel
theorem dX11_lays_114 : decode cX11_lays 114 = .ok (.laload, 1) := by decide +kernel
theorem dX11_lays_115 : decode cX11_lays 115 = .ok (.lstore 6, 2) := by decide +kernel
theorem dX11_lays_117 : decode cX11_lays 117 = .ok (.lload 6, 2) := by decide +kernel
theorem dX11_lays_119 : decode cX11_lays 119 = .ok (.lconst 0, 1) := by decide +kernel
theorem dX11_lays_120 : decode cX11_lays 120 = .ok (.lcmp, 1) := by decide +kernel
theorem dX11_lays_121 : decode cX11_lays 121 = .ok (.ifCond .lt 28, 3) := by decide +kernel
theorem dX11_lays_124 : decode cX11_lays 124 = .ok (.lload 6, 2) := by decide +kernel
theorem dX11_lays_126 : decode cX11_lays 126 = .ok (.ldc2_w 265, 3) := by decide +kernel
theorem dX11_lays_129 : decode cX11_lays 129 = .ok (.lcmp, 1) := by decide +kernel
theorem dX11_lays_130 : decode cX11_lays 130 = .ok (.ifCond .lt 6, 3) := by decide +kernel
theorem dX11_lays_133 : decode cX11_lays 133 = .ok (.goto 16, 3) := by decide +kernel
theorem dX11_lays_136 : decode cX11_lays 136 = .ok (.aload_n 3, 1) := by decide +kernel
theorem dX11_lays_137 : decode cX11_lays 137 = .ok (.lload 6, 2) := by decide +kernel
theorem dX11_lays_139 : decode cX11_lays 139 = .ok (.l2i, 1) := by decide +kernel
theorem dX11_lays_140 : decode cX11_lays 140 = .ok (.invokevirtual 267, 3) := by decide +kernel
theorem dX11_lays_143 : decode cX11_lays 143 = .ok (.iinc 5 1, 3) := by decide +kernel
theorem dX11_lays_146 : decode cX11_lays 146 = .ok (.goto (-50), 3) := by decide +kernel
theorem dX11_lays_149 : decode cX11_lays 149 = .ok (.aload_n 3, 1) := by decide +kernel
theorem dX11_lays_150 : decode cX11_lays 150 = .ok (.getfield 107, 3) := by decide +kernel
theorem dX11_lays_153 : decode cX11_lays 153 = .ok (.ireturn, 1) := by decide +kernel
theorem dX11_book_0 : decode cX11_book 0 = .ok (.iload_n 1, 1) := by decide +kernel
theorem dX11_book_1 : decode cX11_book 1 = .ok (.invokestatic 225, 3) := by decide +kernel
theorem dX11_book_4 : decode cX11_book 4 = .ok (.ifCond .ne 10, 3) := by decide +kernel
theorem dX11_book_7 : decode cX11_book 7 = .ok (.aload_n 0, 1) := by decide +kernel
theorem dX11_book_8 : decode cX11_book 8 = .ok (.ldc 57, 2) := by decide +kernel
theorem dX11_book_10 : decode cX11_book 10 = .ok (.invokevirtual 58, 3) := by decide +kernel
theorem dX11_book_13 : decode cX11_book 13 = .ok (.ireturn, 1) := by decide +kernel
theorem dX11_book_14 : decode cX11_book 14 = .ok (.aload_n 0, 1) := by decide +kernel
theorem dX11_book_15 : decode cX11_book 15 = .ok (.getfield 34, 3) := by decide +kernel
theorem dX11_book_18 : decode cX11_book 18 = .ok (.iload_n 1, 1) := by decide +kernel
theorem dX11_book_19 : decode cX11_book 19 = .ok (.aaload, 1) := by decide +kernel
theorem dX11_book_20 : decode cX11_book 20 = .ok (.invokevirtual 234, 3) := by decide +kernel
theorem dX11_book_23 : decode cX11_book 23 = .ok (.ifCond .eq 10, 3) := by decide +kernel
theorem dX11_book_26 : decode cX11_book 26 = .ok (.aload_n 0, 1) := by decide +kernel
theorem dX11_book_27 : decode cX11_book 27 = .ok (.ldc 238, 2) := by decide +kernel
theorem dX11_book_29 : decode cX11_book 29 = .ok (.invokevirtual 58, 3) := by decide +kernel
theorem dX11_book_32 : decode cX11_book 32 = .ok (.ireturn, 1) := by decide +kernel
theorem dX11_book_33 : decode cX11_book 33 = .ok (.aload_n 0, 1) := by decide +kernel
theorem dX11_book_34 : decode cX11_book 34 = .ok (.iload_n 2, 1) := by decide +kernel
theorem dX11_book_35 : decode cX11_book 35 = .ok (.invokevirtual 70, 3) := by decide +kernel
theorem dX11_book_38 : decode cX11_book 38 = .ok (.ifCond .ne 10, 3) := by decide +kernel
theorem dX11_book_41 : decode cX11_book 41 = .ok (.aload_n 0, 1) := by decide +kernel
theorem dX11_book_42 : decode cX11_book 42 = .ok (.ldc 57, 2) := by decide +kernel
theorem dX11_book_44 : decode cX11_book 44 = .ok (.invokevirtual 58, 3) := by decide +kernel
theorem dX11_book_47 : decode cX11_book 47 = .ok (.ireturn, 1) := by decide +kernel
theorem dX11_book_48 : decode cX11_book 48 = .ok (.aload_n 0, 1) := by decide +kernel
theorem dX11_book_49 : decode cX11_book 49 = .ok (.invokevirtual 190, 3) := by decide +kernel
theorem dX11_book_52 : decode cX11_book 52 = .ok (.iconst 0, 1) := by decide +kernel
theorem dX11_book_53 : decode cX11_book 53 = .ok (.istore_n 3, 1) := by decide +kernel
theorem dX11_book_54 : decode cX11_book 54 = .ok (.iload_n 3, 1) := by decide +kernel
theorem dX11_book_55 : decode cX11_book 55 = .ok (.aload_n 0, 1) := by decide +kernel
theorem dX11_book_56 : decode cX11_book 56 = .ok (.getfield 34, 3) := by decide +kernel
theorem dX11_book_59 : decode cX11_book 59 = .ok (.iload_n 1, 1) := by decide +kernel
theorem dX11_book_60 : decode cX11_book 60 = .ok (.aaload, 1) := by decide +kernel
theorem dX11_book_61 : decode cX11_book 61 = .ok (.getfield 231, 3) := by decide +kernel
theorem dX11_book_64 : decode cX11_book 64 = .ok (.if_icmp .ge 39, 3) := by decide +kernel
theorem dX11_book_67 : decode cX11_book 67 = .ok (.aload_n 0, 1) := by decide +kernel
theorem dX11_book_68 : decode cX11_book 68 = .ok (.getfield 34, 3) := by decide +kernel
theorem dX11_book_71 : decode cX11_book 71 = .ok (.iload_n 1, 1) := by decide +kernel
theorem dX11_book_72 : decode cX11_book 72 = .ok (.aaload, 1) := by decide +kernel
theorem dX11_book_73 : decode cX11_book 73 = .ok (.iload_n 3, 1) := by decide +kernel
theorem dX11_book_74 : decode cX11_book 74 = .ok (.aload_n 0, 1) := by decide +kernel
theorem dX11_book_75 : decode cX11_book 75 = .ok (.getfield 25, 3) := by decide +kernel
theorem dX11_book_78 : decode cX11_book 78 = .ok (.getfield 73, 3) := by decide +kernel
theorem dX11_book_81 : decode cX11_book 81 = .ok (.iload_n 2, 1) := by decide +kernel
theorem dX11_book_82 : decode cX11_book 82 = .ok (.aaload, 1) := by decide +kernel
theorem dX11_book_83 : decode cX11_book 83 = .ok (.getfield 82, 3) := by decide +kernel
theorem dX11_book_86 : decode cX11_book 86 = .ok (.i2l, 1) := by decide +kernel
theorem dX11_book_87 : decode cX11_book 87 = .ok (.invokevirtual 243, 3) := by decide +kernel
theorem dX11_book_90 : decode cX11_book 90 = .ok (.aload_n 0, 1) := by decide +kernel
theorem dX11_book_91 : decode cX11_book 91 = .ok (.getfield 25, 3) := by decide +kernel
theorem dX11_book_94 : decode cX11_book 94 = .ok (.invokevirtual 193, 3) := by decide +kernel
theorem dX11_book_97 : decode cX11_book 97 = .ok (.iinc 3 1, 3) := by decide +kernel
theorem dX11_book_100 : decode cX11_book 100 = .ok (.goto (-46), 3) := by decide +kernel
theorem dX11_book_103 : decode cX11_book 103 = .ok (.aload_n 0, 1) := by decide +kernel
theorem dX11_book_104 : decode cX11_book 104 = .ok (.getfield 34, 3) := by decide +kernel
theorem dX11_book_107 : decode cX11_book 107 = .ok (.iload_n 1, 1) := by decide +kernel
theorem dX11_book_108 : decode cX11_book 108 = .ok (.aaload, 1) := by decide +kernel
theorem dX11_book_109 : decode cX11_book 109 = .ok (.getfield 231, 3) := by decide +kernel
theorem dX11_book_112 : decode cX11_book 112 = .ok (.ireturn, 1) := by decide +kernel
theorem dX11_read_0 : decode cX11_read 0 = .ok (.iload_n 1, 1) := by decide +kernel
theorem dX11_read_1 : decode cX11_read 1 = .ok (.invokestatic 225, 3) := by decide +kernel
theorem dX11_read_4 : decode cX11_read 4 = .ok (.ifCond .ne 10, 3) := by decide +kernel
theorem dX11_read_7 : decode cX11_read 7 = .ok (.aload_n 0, 1) := by decide +kernel
theorem dX11_read_8 : decode cX11_read 8 = .ok (.ldc 57, 2) := by decide +kernel
theorem dX11_read_10 : decode cX11_read 10 = .ok (.invokevirtual 58, 3) := by decide +kernel
theorem dX11_read_13 : decode cX11_read 13 = .ok (.ireturn, 1) := by decide +kernel
theorem dX11_read_14 : decode cX11_read 14 = .ok (.aload_n 0, 1) := by decide +kernel
theorem dX11_read_15 : decode cX11_read 15 = .ok (.getfield 34, 3) := by decide +kernel
theorem dX11_read_18 : decode cX11_read 18 = .ok (.iload_n 1, 1) := by decide +kernel
theorem dX11_read_19 : decode cX11_read 19 = .ok (.aaload, 1) := by decide +kernel
theorem dX11_read_20 : decode cX11_read 20 = .ok (.invokevirtual 234, 3) := by decide +kernel
theorem dX11_read_23 : decode cX11_read 23 = .ok (.ifCond .eq 10, 3) := by decide +kernel
theorem dX11_read_26 : decode cX11_read 26 = .ok (.aload_n 0, 1) := by decide +kernel
theorem dX11_read_27 : decode cX11_read 27 = .ok (.ldc 238, 2) := by decide +kernel
theorem dX11_read_29 : decode cX11_read 29 = .ok (.invokevirtual 58, 3) := by decide +kernel
theorem dX11_read_32 : decode cX11_read 32 = .ok (.ireturn, 1) := by decide +kernel
theorem dX11_read_33 : decode cX11_read 33 = .ok (.aload_n 0, 1) := by decide +kernel
theorem dX11_read_34 : decode cX11_read 34 = .ok (.iload_n 2, 1) := by decide +kernel
theorem dX11_read_35 : decode cX11_read 35 = .ok (.invokevirtual 70, 3) := by decide +kernel
theorem dX11_read_38 : decode cX11_read 38 = .ok (.ifCond .eq 11, 3) := by decide +kernel
theorem dX11_read_41 : decode cX11_read 41 = .ok (.aload_n 0, 1) := by decide +kernel
theorem dX11_read_42 : decode cX11_read 42 = .ok (.iload_n 3, 1) := by decide +kernel
theorem dX11_read_43 : decode cX11_read 43 = .ok (.invokevirtual 96, 3) := by decide +kernel
theorem dX11_read_46 : decode cX11_read 46 = .ok (.ifCond .ne 10, 3) := by decide +kernel
theorem dX11_read_49 : decode cX11_read 49 = .ok (.aload_n 0, 1) := by decide +kernel
theorem dX11_read_50 : decode cX11_read 50 = .ok (.ldc 57, 2) := by decide +kernel
theorem dX11_read_52 : decode cX11_read 52 = .ok (.invokevirtual 58, 3) := by decide +kernel
theorem dX11_read_55 : decode cX11_read 55 = .ok (.ireturn, 1) := by decide +kernel
theorem dX11_read_56 : decode cX11_read 56 = .ok (.aload_n 0, 1) := by decide +kernel
theorem dX11_read_57 : decode cX11_read 57 = .ok (.getfield 34, 3) := by decide +kernel
theorem dX11_read_60 : decode cX11_read 60 = .ok (.iload_n 1, 1) := by decide +kernel
theorem dX11_read_61 : decode cX11_read 61 = .ok (.aaload, 1) := by decide +kernel
theorem dX11_read_62 : decode cX11_read 62 = .ok (.getfield 231, 3) := by decide +kernel
theorem dX11_read_65 : decode cX11_read 65 = .ok (.ifCond .le 33, 3) := by decide +kernel
theorem dX11_read_68 : decode cX11_read 68 = .ok (.aload_n 0, 1) := by decide +kernel
theorem dX11_read_69 : decode cX11_read 69 = .ok (.getfield 34, 3) := by decide +kernel
theorem dX11_read_72 : decode cX11_read 72 = .ok (.iload_n 1, 1) := by decide +kernel
theorem dX11_read_73 : decode cX11_read 73 = .ok (.aaload, 1) := by decide +kernel
theorem dX11_read_74 : decode cX11_read 74 = .ok (.getfield 239, 3) := by decide +kernel
theorem dX11_read_77 : decode cX11_read 77 = .ok (.iconst 0, 1) := by decide +kernel
theorem dX11_read_78 : decode cX11_read 78 = .ok (.laload, 1) := by decide +kernel
theorem dX11_read_79 : decode cX11_read 79 = .ok (.aload_n 0, 1) := by decide +kernel
theorem dX11_read_80 : decode cX11_read 80 = .ok (.getfield 18, 3) := by decide +kernel
theorem dX11_read_83 : decode cX11_read 83 = .ok (.getfield 73, 3) := by decide +kernel
theorem dX11_read_86 : decode cX11_read 86 = .ok (.iload_n 2, 1) := by decide +kernel
theorem dX11_read_87 : decode cX11_read 87 = .ok (.aaload, 1) := by decide +kernel
theorem dX11_read_88 : decode cX11_read 88 = .ok (.getfield 82, 3) := by decide +kernel
theorem dX11_read_91 : decode cX11_read 91 = .ok (.i2l, 1) := by decide +kernel
theorem dX11_read_92 : decode cX11_read 92 = .ok (.lcmp, 1) := by decide +kernel
theorem dX11_read_93 : decode cX11_read 93 = .ok (.ifCond .eq 5, 3) := by decide +kernel
theorem dX11_read_96 : decode cX11_read 96 = .ok (.iconst 0, 1) := by decide +kernel
theorem dX11_read_97 : decode cX11_read 97 = .ok (.ireturn, 1) := by decide +kernel
theorem dX11_read_98 : decode cX11_read 98 = .ok (.iconst 0, 1) := by decide +kernel
theorem dX11_read_99 : decode cX11_read 99 = .ok (.istore 4, 2) := by decide +kernel
theorem dX11_read_101 : decode cX11_read 101 = .ok (.iconst 0, 1) := by decide +kernel
theorem dX11_read_102 : decode cX11_read 102 = .ok (.istore 5, 2) := by decide +kernel
theorem dX11_read_104 : decode cX11_read 104 = .ok (.iload 5, 2) := by decide +kernel
theorem dX11_read_106 : decode cX11_read 106 = .ok (.bipush 6, 2) := by decide +kernel
theorem dX11_read_108 : decode cX11_read 108 = .ok (.if_icmp .ge 74, 3) := by decide +kernel
theorem dX11_read_111 : decode cX11_read 111 = .ok (.iconst 0, 1) := by decide +kernel
theorem dX11_read_112 : decode cX11_read 112 = .ok (.istore 6, 2) := by decide +kernel
theorem dX11_read_114 : decode cX11_read 114 = .ok (.iload 6, 2) := by decide +kernel
theorem dX11_read_116 : decode cX11_read 116 = .ok (.bipush 99, 2) := by decide +kernel
theorem dX11_read_118 : decode cX11_read 118 = .ok (.if_icmp .gt 58, 3) := by decide +kernel
theorem dX11_read_121 : decode cX11_read 121 = .ok (.aload_n 0, 1) := by decide +kernel
theorem dX11_read_122 : decode cX11_read 122 = .ok (.invokevirtual 190, 3) := by decide +kernel
theorem dX11_read_125 : decode cX11_read 125 = .ok (.aload_n 0, 1) := by decide +kernel
theorem dX11_read_126 : decode cX11_read 126 = .ok (.getfield 25, 3) := by decide +kernel
theorem dX11_read_129 : decode cX11_read 129 = .ok (.getfield 73, 3) := by decide +kernel
theorem dX11_read_132 : decode cX11_read 132 = .ok (.iload_n 2, 1) := by decide +kernel
theorem dX11_read_133 : decode cX11_read 133 = .ok (.aaload, 1) := by decide +kernel
theorem dX11_read_134 : decode cX11_read 134 = .ok (.iload 5, 2) := by decide +kernel
theorem dX11_read_136 : decode cX11_read 136 = .ok (.putfield 77, 3) := by decide +kernel
theorem dX11_read_139 : decode cX11_read 139 = .ok (.aload_n 0, 1) := by decide +kernel
theorem dX11_read_140 : decode cX11_read 140 = .ok (.getfield 25, 3) := by decide +kernel
theorem dX11_read_143 : decode cX11_read 143 = .ok (.getfield 103, 3) := by decide +kernel
theorem dX11_read_146 : decode cX11_read 146 = .ok (.iload_n 3, 1) := by decide +kernel
theorem dX11_read_147 : decode cX11_read 147 = .ok (.aaload, 1) := by decide +kernel
theorem dX11_read_148 : decode cX11_read 148 = .ok (.iload 6, 2) := by decide +kernel
theorem dX11_read_150 : decode cX11_read 150 = .ok (.putfield 125, 3) := by decide +kernel
theorem dX11_read_153 : decode cX11_read 153 = .ok (.aload_n 0, 1) := by decide +kernel
theorem dX11_read_154 : decode cX11_read 154 = .ok (.aload_n 0, 1) := by decide +kernel
theorem dX11_read_155 : decode cX11_read 155 = .ok (.getfield 34, 3) := by decide +kernel
theorem dX11_read_158 : decode cX11_read 158 = .ok (.iload_n 1, 1) := by decide +kernel
theorem dX11_read_159 : decode cX11_read 159 = .ok (.aaload, 1) := by decide +kernel
theorem dX11_read_160 : decode cX11_read 160 = .ok (.iload_n 2, 1) := by decide +kernel
theorem dX11_read_161 : decode cX11_read 161 = .ok (.invokevirtual 270, 3) := by decide +kernel
theorem dX11_read_164 : decode cX11_read 164 = .ok (.ifCond .eq 6, 3) := by decide +kernel
theorem dX11_read_167 : decode cX11_read 167 = .ok (.iinc 4 1, 3) := by decide +kernel
theorem dX11_read_170 : decode cX11_read 170 = .ok (.iinc 6 1, 3) := by decide +kernel
theorem dX11_read_173 : decode cX11_read 173 = .ok (.goto (-59), 3) := by decide +kernel
theorem dX11_read_176 : decode cX11_read 176 = .ok (.iinc 5 1, 3) := by decide +kernel
theorem dX11_read_179 : decode cX11_read 179 = .ok (.goto (-75), 3) := by decide +kernel
theorem dX11_read_182 : decode cX11_read 182 = .ok (.iload 4, 2) := by decide +kernel
theorem dX11_read_184 : decode cX11_read 184 = .ok (.ireturn, 1) := by decide +kernel
theorem dX11_image_0 : decode cX11_image 0 = .ok (.aload_n 0, 1) := by decide +kernel
theorem dX11_image_1 : decode cX11_image 1 = .ok (.getfield 22, 3) := by decide +kernel
theorem dX11_image_4 : decode cX11_image 4 = .ok (.aload_n 0, 1) := by decide +kernel
theorem dX11_image_5 : decode cX11_image 5 = .ok (.getfield 18, 3) := by decide +kernel
theorem dX11_image_8 : decode cX11_image 8 = .ok (.invokevirtual 221, 3) := by decide +kernel
theorem dX11_image_11 : decode cX11_image 11 = .ok (.aload_n 0, 1) := by decide +kernel
theorem dX11_image_12 : decode cX11_image 12 = .ok (.iconst 1, 1) := by decide +kernel
theorem dX11_image_13 : decode cX11_image 13 = .ok (.putfield 28, 3) := by decide +kernel
theorem dX11_image_16 : decode cX11_image 16 = .ok (.iconst 1, 1) := by decide +kernel
theorem dX11_image_17 : decode cX11_image 17 = .ok (.ireturn, 1) := by decide +kernel
theorem dX11_undo_0 : decode cX11_undo 0 = .ok (.aload_n 0, 1) := by decide +kernel
theorem dX11_undo_1 : decode cX11_undo 1 = .ok (.getfield 28, 3) := by decide +kernel
theorem dX11_undo_4 : decode cX11_undo 4 = .ok (.ifCond .ne 10, 3) := by decide +kernel
theorem dX11_undo_7 : decode cX11_undo 7 = .ok (.aload_n 0, 1) := by decide +kernel
theorem dX11_undo_8 : decode cX11_undo 8 = .ok (.ldc 112, 2) := by decide +kernel
theorem dX11_undo_10 : decode cX11_undo 10 = .ok (.invokevirtual 58, 3) := by decide +kernel
theorem dX11_undo_13 : decode cX11_undo 13 = .ok (.ireturn, 1) := by decide +kernel
theorem dX11_undo_14 : decode cX11_undo 14 = .ok (.aload_n 0, 1) := by decide +kernel
theorem dX11_undo_15 : decode cX11_undo 15 = .ok (.getfield 18, 3) := by decide +kernel
theorem dX11_undo_18 : decode cX11_undo 18 = .ok (.aload_n 0, 1) := by decide +kernel
theorem dX11_undo_19 : decode cX11_undo 19 = .ok (.getfield 22, 3) := by decide +kernel
theorem dX11_undo_22 : decode cX11_undo 22 = .ok (.invokevirtual 221, 3) := by decide +kernel
theorem dX11_undo_25 : decode cX11_undo 25 = .ok (.aload_n 0, 1) := by decide +kernel
theorem dX11_undo_26 : decode cX11_undo 26 = .ok (.getfield 18, 3) := by decide +kernel
theorem dX11_undo_29 : decode cX11_undo 29 = .ok (.getfield 62, 3) := by decide +kernel
theorem dX11_undo_32 : decode cX11_undo 32 = .ok (.ireturn, 1) := by decide +kernel
theorem dX11_tear_0 : decode cX11_tear 0 = .ok (.aload_n 0, 1) := by decide +kernel
theorem dX11_tear_1 : decode cX11_tear 1 = .ok (.getfield 28, 3) := by decide +kernel
theorem dX11_tear_4 : decode cX11_tear 4 = .ok (.ifCond .eq 7, 3) := by decide +kernel
theorem dX11_tear_7 : decode cX11_tear 7 = .ok (.iconst 1, 1) := by decide +kernel
theorem dX11_tear_8 : decode cX11_tear 8 = .ok (.goto 4, 3) := by decide +kernel
theorem dX11_tear_11 : decode cX11_tear 11 = .ok (.iconst 0, 1) := by decide +kernel
theorem dX11_tear_12 : decode cX11_tear 12 = .ok (.istore_n 1, 1) := by decide +kernel
theorem dX11_tear_13 : decode cX11_tear 13 = .ok (.aload_n 0, 1) := by decide +kernel
theorem dX11_tear_14 : decode cX11_tear 14 = .ok (.iconst 0, 1) := by decide +kernel
theorem dX11_tear_15 : decode cX11_tear 15 = .ok (.putfield 28, 3) := by decide +kernel
theorem dX11_tear_18 : decode cX11_tear 18 = .ok (.iload_n 1, 1) := by decide +kernel
theorem dX11_tear_19 : decode cX11_tear 19 = .ok (.ireturn, 1) := by decide +kernel
theorem dX11_count_0 : decode cX11_count 0 = .ok (.iload_n 1, 1) := by decide +kernel
theorem dX11_count_1 : decode cX11_count 1 = .ok (.tableswitch 66 0 3 #[31, 39, 47, 55], 31) := by decide +kernel
theorem dX11_count_32 : decode cX11_count 32 = .ok (.aload_n 0, 1) := by decide +kernel
theorem dX11_count_33 : decode cX11_count 33 = .ok (.getfield 18, 3) := by decide +kernel
theorem dX11_count_36 : decode cX11_count 36 = .ok (.getfield 62, 3) := by decide +kernel
theorem dX11_count_39 : decode cX11_count 39 = .ok (.ireturn, 1) := by decide +kernel
theorem dX11_count_40 : decode cX11_count 40 = .ok (.aload_n 0, 1) := by decide +kernel
theorem dX11_count_41 : decode cX11_count 41 = .ok (.getfield 18, 3) := by decide +kernel
theorem dX11_count_44 : decode cX11_count 44 = .ok (.getfield 146, 3) := by decide +kernel
theorem dX11_count_47 : decode cX11_count 47 = .ok (.ireturn, 1) := by decide +kernel
theorem dX11_count_48 : decode cX11_count 48 = .ok (.aload_n 0, 1) := by decide +kernel
theorem dX11_count_49 : decode cX11_count 49 = .ok (.getfield 42, 3) := by decide +kernel
theorem dX11_count_52 : decode cX11_count 52 = .ok (.getfield 211, 3) := by decide +kernel
theorem dX11_count_55 : decode cX11_count 55 = .ok (.ireturn, 1) := by decide +kernel
theorem dX11_count_56 : decode cX11_count 56 = .ok (.aload_n 0, 1) := by decide +kernel
theorem dX11_count_57 : decode cX11_count 57 = .ok (.getfield 18, 3) := by decide +kernel
theorem dX11_count_60 : decode cX11_count 60 = .ok (.invokevirtual 181, 3) := by decide +kernel
theorem dX11_count_63 : decode cX11_count 63 = .ok (.invokestatic 274, 3) := by decide +kernel
theorem dX11_count_66 : decode cX11_count 66 = .ok (.ireturn, 1) := by decide +kernel
theorem dX11_count_67 : decode cX11_count 67 = .ok (.aload_n 0, 1) := by decide +kernel
theorem dX11_count_68 : decode cX11_count 68 = .ok (.ldc 57, 2) := by decide +kernel
theorem dX11_count_70 : decode cX11_count 70 = .ok (.invokevirtual 58, 3) := by decide +kernel
theorem dX11_count_73 : decode cX11_count 73 = .ok (.ireturn, 1) := by decide +kernel
theorem dX11_status_0 : decode cX11_status 0 = .ok (.iload_n 1, 1) := by decide +kernel
theorem dX11_status_1 : decode cX11_status 1 = .ok (.iconst (-1), 1) := by decide +kernel
theorem dX11_status_2 : decode cX11_status 2 = .ok (.bipush 6, 2) := by decide +kernel
theorem dX11_status_4 : decode cX11_status 4 = .ok (.invokestatic 92, 3) := by decide +kernel
theorem dX11_status_7 : decode cX11_status 7 = .ok (.ifCond .ne 10, 3) := by decide +kernel
theorem dX11_status_10 : decode cX11_status 10 = .ok (.aload_n 0, 1) := by decide +kernel
theorem dX11_status_11 : decode cX11_status 11 = .ok (.ldc 57, 2) := by decide +kernel
theorem dX11_status_13 : decode cX11_status 13 = .ok (.invokevirtual 58, 3) := by decide +kernel
theorem dX11_status_16 : decode cX11_status 16 = .ok (.ireturn, 1) := by decide +kernel
theorem dX11_status_17 : decode cX11_status 17 = .ok (.iload_n 1, 1) := by decide +kernel
theorem dX11_status_18 : decode cX11_status 18 = .ok (.ifCond .lt 10, 3) := by decide +kernel
theorem dX11_status_21 : decode cX11_status 21 = .ok (.aload_n 0, 1) := by decide +kernel
theorem dX11_status_22 : decode cX11_status 22 = .ok (.getfield 46, 3) := by decide +kernel
theorem dX11_status_25 : decode cX11_status 25 = .ok (.iload_n 1, 1) := by decide +kernel
theorem dX11_status_26 : decode cX11_status 26 = .ok (.iaload, 1) := by decide +kernel
theorem dX11_status_27 : decode cX11_status 27 = .ok (.ireturn, 1) := by decide +kernel
theorem dX11_status_28 : decode cX11_status 28 = .ok (.iconst 0, 1) := by decide +kernel
theorem dX11_status_29 : decode cX11_status 29 = .ok (.istore_n 2, 1) := by decide +kernel
theorem dX11_status_30 : decode cX11_status 30 = .ok (.iconst 0, 1) := by decide +kernel
theorem dX11_status_31 : decode cX11_status 31 = .ok (.istore_n 3, 1) := by decide +kernel
theorem dX11_status_32 : decode cX11_status 32 = .ok (.iload_n 3, 1) := by decide +kernel
theorem dX11_status_33 : decode cX11_status 33 = .ok (.bipush 7, 2) := by decide +kernel
theorem dX11_status_35 : decode cX11_status 35 = .ok (.if_icmp .ge 18, 3) := by decide +kernel
theorem dX11_status_38 : decode cX11_status 38 = .ok (.iload_n 2, 1) := by decide +kernel
theorem dX11_status_39 : decode cX11_status 39 = .ok (.aload_n 0, 1) := by decide +kernel
theorem dX11_status_40 : decode cX11_status 40 = .ok (.getfield 46, 3) := by decide +kernel
theorem dX11_status_43 : decode cX11_status 43 = .ok (.iload_n 3, 1) := by decide +kernel
theorem dX11_status_44 : decode cX11_status 44 = .ok (.iaload, 1) := by decide +kernel
theorem dX11_status_45 : decode cX11_status 45 = .ok (.iadd, 1) := by decide +kernel
theorem dX11_status_46 : decode cX11_status 46 = .ok (.istore_n 2, 1) := by decide +kernel
theorem dX11_status_47 : decode cX11_status 47 = .ok (.iinc 3 1, 3) := by decide +kernel
theorem dX11_status_50 : decode cX11_status 50 = .ok (.goto (-18), 3) := by decide +kernel
theorem dX11_status_53 : decode cX11_status 53 = .ok (.iload_n 2, 1) := by decide +kernel
theorem dX11_status_54 : decode cX11_status 54 = .ok (.ireturn, 1) := by decide +kernel
theorem dX11_tell_0 : decode cX11_tell 0 = .ok (.ldc 57, 2) := by decide +kernel
theorem dX11_tell_2 : decode cX11_tell 2 = .ok (.iload_n 1, 1) := by decide +kernel
theorem dX11_tell_3 : decode cX11_tell 3 = .ok (.isub, 1) := by decide +kernel
theorem dX11_tell_4 : decode cX11_tell 4 = .ok (.istore_n 2, 1) := by decide +kernel
theorem dX11_tell_5 : decode cX11_tell 5 = .ok (.iload_n 2, 1) := by decide +kernel
theorem dX11_tell_6 : decode cX11_tell 6 = .ok (.iconst 0, 1) := by decide +kernel
theorem dX11_tell_7 : decode cX11_tell 7 = .ok (.bipush 6, 2) := by decide +kernel
theorem dX11_tell_9 : decode cX11_tell 9 = .ok (.invokestatic 92, 3) := by decide +kernel
theorem dX11_tell_12 : decode cX11_tell 12 = .ok (.ifCond .eq 13, 3) := by decide +kernel
theorem dX11_tell_15 : decode cX11_tell 15 = .ok (.aload_n 0, 1) := by decide +kernel
theorem dX11_tell_16 : decode cX11_tell 16 = .ok (.getfield 46, 3) := by decide +kernel
theorem dX11_tell_19 : decode cX11_tell 19 = .ok (.iload_n 2, 1) := by decide +kernel
theorem dX11_tell_20 : decode cX11_tell 20 = .ok (.dup2, 1) := by decide +kernel
theorem dX11_tell_21 : decode cX11_tell 21 = .ok (.iaload, 1) := by decide +kernel
theorem dX11_tell_22 : decode cX11_tell 22 = .ok (.iconst 1, 1) := by decide +kernel
theorem dX11_tell_23 : decode cX11_tell 23 = .ok (.iadd, 1) := by decide +kernel
theorem dX11_tell_24 : decode cX11_tell 24 = .ok (.iastore, 1) := by decide +kernel
theorem dX11_tell_25 : decode cX11_tell 25 = .ok (.iload_n 1, 1) := by decide +kernel
theorem dX11_tell_26 : decode cX11_tell 26 = .ok (.ireturn, 1) := by decide +kernel
theorem dX11_within_0 : decode cX11_within 0 = .ok (.iload_n 0, 1) := by decide +kernel
theorem dX11_within_1 : decode cX11_within 1 = .ok (.iload_n 1, 1) := by decide +kernel
theorem dX11_within_2 : decode cX11_within 2 = .ok (.if_icmp .lt 12, 3) := by decide +kernel
theorem dX11_within_5 : decode cX11_within 5 = .ok (.iload_n 0, 1) := by decide +kernel
theorem dX11_within_6 : decode cX11_within 6 = .ok (.iload_n 2, 1) := by decide +kernel
theorem dX11_within_7 : decode cX11_within 7 = .ok (.if_icmp .gt 7, 3) := by decide +kernel
theorem dX11_within_10 : decode cX11_within 10 = .ok (.iconst 1, 1) := by decide +kernel
theorem dX11_within_11 : decode cX11_within 11 = .ok (.goto 4, 3) := by decide +kernel
theorem dX11_within_14 : decode cX11_within 14 = .ok (.iconst 0, 1) := by decide +kernel
theorem dX11_within_15 : decode cX11_within 15 = .ok (.ireturn, 1) := by decide +kernel
theorem dX11_isKind_0 : decode cX11_isKind 0 = .ok (.iload_n 0, 1) := by decide +kernel
theorem dX11_isKind_1 : decode cX11_isKind 1 = .ok (.iconst 0, 1) := by decide +kernel
theorem dX11_isKind_2 : decode cX11_isKind 2 = .ok (.iconst 5, 1) := by decide +kernel
theorem dX11_isKind_3 : decode cX11_isKind 3 = .ok (.invokestatic 92, 3) := by decide +kernel
theorem dX11_isKind_6 : decode cX11_isKind 6 = .ok (.ireturn, 1) := by decide +kernel
theorem dX11_isPaper_0 : decode cX11_isPaper 0 = .ok (.iload_n 0, 1) := by decide +kernel
theorem dX11_isPaper_1 : decode cX11_isPaper 1 = .ok (.iconst 0, 1) := by decide +kernel
theorem dX11_isPaper_2 : decode cX11_isPaper 2 = .ok (.iconst 3, 1) := by decide +kernel
theorem dX11_isPaper_3 : decode cX11_isPaper 3 = .ok (.invokestatic 92, 3) := by decide +kernel
theorem dX11_isPaper_6 : decode cX11_isPaper 6 = .ok (.ireturn, 1) := by decide +kernel
theorem dX11_isThing_0 : decode cX11_isThing 0 = .ok (.iload_n 0, 1) := by decide +kernel
theorem dX11_isThing_1 : decode cX11_isThing 1 = .ok (.iconst 0, 1) := by decide +kernel
theorem dX11_isThing_2 : decode cX11_isThing 2 = .ok (.bipush 99, 2) := by decide +kernel
theorem dX11_isThing_4 : decode cX11_isThing 4 = .ok (.invokestatic 92, 3) := by decide +kernel
theorem dX11_isThing_7 : decode cX11_isThing 7 = .ok (.ireturn, 1) := by decide +kernel
theorem dX11_isSheet_0 : decode cX11_isSheet 0 = .ok (.iload_n 0, 1) := by decide +kernel
theorem dX11_isSheet_1 : decode cX11_isSheet 1 = .ok (.iconst 0, 1) := by decide +kernel
theorem dX11_isSheet_2 : decode cX11_isSheet 2 = .ok (.iconst 3, 1) := by decide +kernel
theorem dX11_isSheet_3 : decode cX11_isSheet 3 = .ok (.invokestatic 92, 3) := by decide +kernel
theorem dX11_isSheet_6 : decode cX11_isSheet 6 = .ok (.ireturn, 1) := by decide +kernel
theorem dX11_isPerson_0 : decode cX11_isPerson 0 = .ok (.iload_n 1, 1) := by decide +kernel
theorem dX11_isPerson_1 : decode cX11_isPerson 1 = .ok (.iconst 0, 1) := by decide +kernel
theorem dX11_isPerson_2 : decode cX11_isPerson 2 = .ok (.aload_n 0, 1) := by decide +kernel
theorem dX11_isPerson_3 : decode cX11_isPerson 3 = .ok (.getfield 18, 3) := by decide +kernel
theorem dX11_isPerson_6 : decode cX11_isPerson 6 = .ok (.getfield 62, 3) := by decide +kernel
theorem dX11_isPerson_9 : decode cX11_isPerson 9 = .ok (.iconst 1, 1) := by decide +kernel
theorem dX11_isPerson_10 : decode cX11_isPerson 10 = .ok (.isub, 1) := by decide +kernel
theorem dX11_isPerson_11 : decode cX11_isPerson 11 = .ok (.invokestatic 92, 3) := by decide +kernel
theorem dX11_isPerson_14 : decode cX11_isPerson 14 = .ok (.ireturn, 1) := by decide +kernel
theorem dX11_isPresent_0 : decode cX11_isPresent 0 = .ok (.iload_n 1, 1) := by decide +kernel
theorem dX11_isPresent_1 : decode cX11_isPresent 1 = .ok (.iconst 0, 1) := by decide +kernel
theorem dX11_isPresent_2 : decode cX11_isPresent 2 = .ok (.aload_n 0, 1) := by decide +kernel
theorem dX11_isPresent_3 : decode cX11_isPresent 3 = .ok (.getfield 18, 3) := by decide +kernel
theorem dX11_isPresent_6 : decode cX11_isPresent 6 = .ok (.getfield 146, 3) := by decide +kernel
theorem dX11_isPresent_9 : decode cX11_isPresent 9 = .ok (.iconst 1, 1) := by decide +kernel
theorem dX11_isPresent_10 : decode cX11_isPresent 10 = .ok (.isub, 1) := by decide +kernel
theorem dX11_isPresent_11 : decode cX11_isPresent 11 = .ok (.invokestatic 92, 3) := by decide +kernel
theorem dX11_isPresent_14 : decode cX11_isPresent 14 = .ok (.ireturn, 1) := by decide +kernel
theorem dX11_isOf_0 : decode cX11_isOf 0 = .ok (.iload_n 1, 1) := by decide +kernel
theorem dX11_isOf_1 : decode cX11_isOf 1 = .ok (.tableswitch 57 0 4 #[35, 37, 42, 47, 52], 35) := by decide +kernel
theorem dX11_isOf_36 : decode cX11_isOf 36 = .ok (.iconst 1, 1) := by decide +kernel
theorem dX11_isOf_37 : decode cX11_isOf 37 = .ok (.ireturn, 1) := by decide +kernel
theorem dX11_isOf_38 : decode cX11_isOf 38 = .ok (.aload_n 0, 1) := by decide +kernel
theorem dX11_isOf_39 : decode cX11_isOf 39 = .ok (.instanceof 279, 3) := by decide +kernel
theorem dX11_isOf_42 : decode cX11_isOf 42 = .ok (.ireturn, 1) := by decide +kernel
theorem dX11_isOf_43 : decode cX11_isOf 43 = .ok (.aload_n 0, 1) := by decide +kernel
theorem dX11_isOf_44 : decode cX11_isOf 44 = .ok (.instanceof 281, 3) := by decide +kernel
theorem dX11_isOf_47 : decode cX11_isOf 47 = .ok (.ireturn, 1) := by decide +kernel
theorem dX11_isOf_48 : decode cX11_isOf 48 = .ok (.aload_n 0, 1) := by decide +kernel
theorem dX11_isOf_49 : decode cX11_isOf 49 = .ok (.instanceof 283, 3) := by decide +kernel
theorem dX11_isOf_52 : decode cX11_isOf 52 = .ok (.ireturn, 1) := by decide +kernel
theorem dX11_isOf_53 : decode cX11_isOf 53 = .ok (.aload_n 0, 1) := by decide +kernel
theorem dX11_isOf_54 : decode cX11_isOf 54 = .ok (.instanceof 285, 3) := by decide +kernel
theorem dX11_isOf_57 : decode cX11_isOf 57 = .ok (.ireturn, 1) := by decide +kernel
theorem dX11_isOf_58 : decode cX11_isOf 58 = .ok (.aload_n 0, 1) := by decide +kernel
theorem dX11_isOf_59 : decode cX11_isOf 59 = .ok (.instanceof 287, 3) := by decide +kernel
theorem dX11_isOf_62 : decode cX11_isOf 62 = .ok (.ireturn, 1) := by decide +kernel
theorem dX11_allManners_0 : decode cX11_allManners 0 = .ok (.bipush 6, 2) := by decide +kernel
theorem dX11_allManners_2 : decode cX11_allManners 2 = .ok (.anewarray 121, 3) := by decide +kernel
theorem dX11_allManners_5 : decode cX11_allManners 5 = .ok (.astore_n 0, 1) := by decide +kernel
theorem dX11_allManners_6 : decode cX11_allManners 6 = .ok (.aload_n 0, 1) := by decide +kernel
theorem dX11_allManners_7 : decode cX11_allManners 7 = .ok (.iconst 0, 1) := by decide +kernel
theorem dX11_allManners_8 : decode cX11_allManners 8 = .ok (.new 121, 3) := by decide +kernel
theorem dX11_allManners_11 : decode cX11_allManners 11 = .ok (.dup, 1) := by decide +kernel
theorem dX11_allManners_12 : decode cX11_allManners 12 = .ok (.invokespecial 289, 3) := by decide +kernel
theorem dX11_allManners_15 : decode cX11_allManners 15 = .ok (.aastore, 1) := by decide +kernel
theorem dX11_allManners_16 : decode cX11_allManners 16 = .ok (.aload_n 0, 1) := by decide +kernel
theorem dX11_allManners_17 : decode cX11_allManners 17 = .ok (.iconst 1, 1) := by decide +kernel
theorem dX11_allManners_18 : decode cX11_allManners 18 = .ok (.new 279, 3) := by decide +kernel
theorem dX11_allManners_21 : decode cX11_allManners 21 = .ok (.dup, 1) := by decide +kernel
theorem dX11_allManners_22 : decode cX11_allManners 22 = .ok (.invokespecial 290, 3) := by decide +kernel
theorem dX11_allManners_25 : decode cX11_allManners 25 = .ok (.aastore, 1) := by decide +kernel
theorem dX11_allManners_26 : decode cX11_allManners 26 = .ok (.aload_n 0, 1) := by decide +kernel
theorem dX11_allManners_27 : decode cX11_allManners 27 = .ok (.iconst 2, 1) := by decide +kernel
theorem dX11_allManners_28 : decode cX11_allManners 28 = .ok (.new 281, 3) := by decide +kernel
theorem dX11_allManners_31 : decode cX11_allManners 31 = .ok (.dup, 1) := by decide +kernel
theorem dX11_allManners_32 : decode cX11_allManners 32 = .ok (.invokespecial 291, 3) := by decide +kernel
theorem dX11_allManners_35 : decode cX11_allManners 35 = .ok (.aastore, 1) := by decide +kernel
theorem dX11_allManners_36 : decode cX11_allManners 36 = .ok (.aload_n 0, 1) := by decide +kernel
theorem dX11_allManners_37 : decode cX11_allManners 37 = .ok (.iconst 3, 1) := by decide +kernel
theorem dX11_allManners_38 : decode cX11_allManners 38 = .ok (.new 283, 3) := by decide +kernel
theorem dX11_allManners_41 : decode cX11_allManners 41 = .ok (.dup, 1) := by decide +kernel
theorem dX11_allManners_42 : decode cX11_allManners 42 = .ok (.invokespecial 292, 3) := by decide +kernel
theorem dX11_allManners_45 : decode cX11_allManners 45 = .ok (.aastore, 1) := by decide +kernel
theorem dX11_allManners_46 : decode cX11_allManners 46 = .ok (.aload_n 0, 1) := by decide +kernel
theorem dX11_allManners_47 : decode cX11_allManners 47 = .ok (.iconst 4, 1) := by decide +kernel
theorem dX11_allManners_48 : decode cX11_allManners 48 = .ok (.new 285, 3) := by decide +kernel
theorem dX11_allManners_51 : decode cX11_allManners 51 = .ok (.dup, 1) := by decide +kernel
theorem dX11_allManners_52 : decode cX11_allManners 52 = .ok (.invokespecial 293, 3) := by decide +kernel
theorem dX11_allManners_55 : decode cX11_allManners 55 = .ok (.aastore, 1) := by decide +kernel
theorem dX11_allManners_56 : decode cX11_allManners 56 = .ok (.aload_n 0, 1) := by decide +kernel
theorem dX11_allManners_57 : decode cX11_allManners 57 = .ok (.iconst 5, 1) := by decide +kernel
theorem dX11_allManners_58 : decode cX11_allManners 58 = .ok (.new 287, 3) := by decide +kernel
theorem dX11_allManners_61 : decode cX11_allManners 61 = .ok (.dup, 1) := by decide +kernel
theorem dX11_allManners_62 : decode cX11_allManners 62 = .ok (.invokespecial 294, 3) := by decide +kernel
theorem dX11_allManners_65 : decode cX11_allManners 65 = .ok (.aastore, 1) := by decide +kernel
theorem dX11_allManners_66 : decode cX11_allManners 66 = .ok (.aload_n 0, 1) := by decide +kernel
theorem dX11_allManners_67 : decode cX11_allManners 67 = .ok (.areturn, 1) := by decide +kernel
theorem dX11_startTrial_0 : decode cX11_startTrial 0 = .ok (.aload_n 0, 1) := by decide +kernel
theorem dX11_startTrial_1 : decode cX11_startTrial 1 = .ok (.getfield 25, 3) := by decide +kernel
theorem dX11_startTrial_4 : decode cX11_startTrial 4 = .ok (.aload_n 0, 1) := by decide +kernel
theorem dX11_startTrial_5 : decode cX11_startTrial 5 = .ok (.getfield 18, 3) := by decide +kernel
theorem dX11_startTrial_8 : decode cX11_startTrial 8 = .ok (.invokevirtual 221, 3) := by decide +kernel
theorem dX11_startTrial_11 : decode cX11_startTrial 11 = .ok (.return_, 1) := by decide +kernel
theorem dX11_trialGoesAs_0 : decode cX11_trialGoesAs 0 = .ok (.iconst 0, 1) := by decide +kernel
theorem dX11_trialGoesAs_1 : decode cX11_trialGoesAs 1 = .ok (.istore_n 3, 1) := by decide +kernel
theorem dX11_trialGoesAs_2 : decode cX11_trialGoesAs 2 = .ok (.iload_n 3, 1) := by decide +kernel
theorem dX11_trialGoesAs_3 : decode cX11_trialGoesAs 3 = .ok (.aload_n 1, 1) := by decide +kernel
theorem dX11_trialGoesAs_4 : decode cX11_trialGoesAs 4 = .ok (.getfield 231, 3) := by decide +kernel
theorem dX11_trialGoesAs_7 : decode cX11_trialGoesAs 7 = .ok (.if_icmp .ge 45, 3) := by decide +kernel
theorem dX11_trialGoesAs_10 : decode cX11_trialGoesAs 10 = .ok (.iload_n 3, 1) := by decide +kernel
theorem dX11_trialGoesAs_11 : decode cX11_trialGoesAs 11 = .ok (.ifCond .le 10, 3) := by decide +kernel
theorem dX11_trialGoesAs_14 : decode cX11_trialGoesAs 14 = .ok (.aload_n 0, 1) := by decide +kernel
theorem dX11_trialGoesAs_15 : decode cX11_trialGoesAs 15 = .ok (.getfield 25, 3) := by decide +kernel
theorem dX11_trialGoesAs_18 : decode cX11_trialGoesAs 18 = .ok (.invokevirtual 193, 3) := by decide +kernel
theorem dX11_trialGoesAs_21 : decode cX11_trialGoesAs 21 = .ok (.aload_n 0, 1) := by decide +kernel
theorem dX11_trialGoesAs_22 : decode cX11_trialGoesAs 22 = .ok (.getfield 25, 3) := by decide +kernel
theorem dX11_trialGoesAs_25 : decode cX11_trialGoesAs 25 = .ok (.getfield 73, 3) := by decide +kernel
theorem dX11_trialGoesAs_28 : decode cX11_trialGoesAs 28 = .ok (.iload_n 2, 1) := by decide +kernel
theorem dX11_trialGoesAs_29 : decode cX11_trialGoesAs 29 = .ok (.aaload, 1) := by decide +kernel
theorem dX11_trialGoesAs_30 : decode cX11_trialGoesAs 30 = .ok (.getfield 82, 3) := by decide +kernel
theorem dX11_trialGoesAs_33 : decode cX11_trialGoesAs 33 = .ok (.i2l, 1) := by decide +kernel
theorem dX11_trialGoesAs_34 : decode cX11_trialGoesAs 34 = .ok (.aload_n 1, 1) := by decide +kernel
theorem dX11_trialGoesAs_35 : decode cX11_trialGoesAs 35 = .ok (.getfield 239, 3) := by decide +kernel
theorem dX11_trialGoesAs_38 : decode cX11_trialGoesAs 38 = .ok (.iload_n 3, 1) := by decide +kernel
theorem dX11_trialGoesAs_39 : decode cX11_trialGoesAs 39 = .ok (.laload, 1) := by decide +kernel
theorem dX11_trialGoesAs_40 : decode cX11_trialGoesAs 40 = .ok (.lcmp, 1) := by decide +kernel
theorem dX11_trialGoesAs_41 : decode cX11_trialGoesAs 41 = .ok (.ifCond .eq 5, 3) := by decide +kernel
theorem dX11_trialGoesAs_44 : decode cX11_trialGoesAs 44 = .ok (.iconst 0, 1) := by decide +kernel
theorem dX11_trialGoesAs_45 : decode cX11_trialGoesAs 45 = .ok (.ireturn, 1) := by decide +kernel
theorem dX11_trialGoesAs_46 : decode cX11_trialGoesAs 46 = .ok (.iinc 3 1, 3) := by decide +kernel
theorem dX11_trialGoesAs_49 : decode cX11_trialGoesAs 49 = .ok (.goto (-47), 3) := by decide +kernel
theorem dX11_trialGoesAs_52 : decode cX11_trialGoesAs 52 = .ok (.iconst 1, 1) := by decide +kernel
theorem dX11_trialGoesAs_53 : decode cX11_trialGoesAs 53 = .ok (.ireturn, 1) := by decide +kernel
theorem dX11_startRow_0 : decode cX11_startRow 0 = .ok (.iconst 0, 1) := by decide +kernel
theorem dX11_startRow_1 : decode cX11_startRow 1 = .ok (.istore_n 3, 1) := by decide +kernel
theorem dX11_startRow_2 : decode cX11_startRow 2 = .ok (.iload_n 3, 1) := by decide +kernel
theorem dX11_startRow_3 : decode cX11_startRow 3 = .ok (.iload_n 2, 1) := by decide +kernel
theorem dX11_startRow_4 : decode cX11_startRow 4 = .ok (.if_icmp .ge 71, 3) := by decide +kernel
theorem dX11_startRow_7 : decode cX11_startRow 7 = .ok (.aload_n 0, 1) := by decide +kernel
theorem dX11_startRow_8 : decode cX11_startRow 8 = .ok (.getfield 50, 3) := by decide +kernel
theorem dX11_startRow_11 : decode cX11_startRow 11 = .ok (.iload_n 3, 1) := by decide +kernel
theorem dX11_startRow_12 : decode cX11_startRow 12 = .ok (.aload_n 0, 1) := by decide +kernel
theorem dX11_startRow_13 : decode cX11_startRow 13 = .ok (.getfield 18, 3) := by decide +kernel
theorem dX11_startRow_16 : decode cX11_startRow 16 = .ok (.getfield 103, 3) := by decide +kernel
theorem dX11_startRow_19 : decode cX11_startRow 19 = .ok (.iload_n 1, 1) := by decide +kernel
theorem dX11_startRow_20 : decode cX11_startRow 20 = .ok (.aaload, 1) := by decide +kernel
theorem dX11_startRow_21 : decode cX11_startRow 21 = .ok (.iload_n 3, 1) := by decide +kernel
theorem dX11_startRow_22 : decode cX11_startRow 22 = .ok (.invokevirtual 155, 3) := by decide +kernel
theorem dX11_startRow_25 : decode cX11_startRow 25 = .ok (.iastore, 1) := by decide +kernel
theorem dX11_startRow_26 : decode cX11_startRow 26 = .ok (.iload_n 3, 1) := by decide +kernel
theorem dX11_startRow_27 : decode cX11_startRow 27 = .ok (.istore 4, 2) := by decide +kernel
theorem dX11_startRow_29 : decode cX11_startRow 29 = .ok (.iload 4, 2) := by decide +kernel
theorem dX11_startRow_31 : decode cX11_startRow 31 = .ok (.ifCond .le 38, 3) := by decide +kernel
theorem dX11_startRow_34 : decode cX11_startRow 34 = .ok (.aload_n 0, 1) := by decide +kernel
theorem dX11_startRow_35 : decode cX11_startRow 35 = .ok (.getfield 50, 3) := by decide +kernel
theorem dX11_startRow_38 : decode cX11_startRow 38 = .ok (.iload 4, 2) := by decide +kernel
theorem dX11_startRow_40 : decode cX11_startRow 40 = .ok (.iconst 1, 1) := by decide +kernel
theorem dX11_startRow_41 : decode cX11_startRow 41 = .ok (.isub, 1) := by decide +kernel
theorem dX11_startRow_42 : decode cX11_startRow 42 = .ok (.iaload, 1) := by decide +kernel
theorem dX11_startRow_43 : decode cX11_startRow 43 = .ok (.aload_n 0, 1) := by decide +kernel
theorem dX11_startRow_44 : decode cX11_startRow 44 = .ok (.getfield 50, 3) := by decide +kernel
theorem dX11_startRow_47 : decode cX11_startRow 47 = .ok (.iload 4, 2) := by decide +kernel
theorem dX11_startRow_49 : decode cX11_startRow 49 = .ok (.iaload, 1) := by decide +kernel
theorem dX11_startRow_50 : decode cX11_startRow 50 = .ok (.if_icmp .le 19, 3) := by decide +kernel
theorem dX11_startRow_53 : decode cX11_startRow 53 = .ok (.aload_n 0, 1) := by decide +kernel
theorem dX11_startRow_54 : decode cX11_startRow 54 = .ok (.iload 4, 2) := by decide +kernel
theorem dX11_startRow_56 : decode cX11_startRow 56 = .ok (.iconst 1, 1) := by decide +kernel
theorem dX11_startRow_57 : decode cX11_startRow 57 = .ok (.isub, 1) := by decide +kernel
theorem dX11_startRow_58 : decode cX11_startRow 58 = .ok (.iload 4, 2) := by decide +kernel
theorem dX11_startRow_60 : decode cX11_startRow 60 = .ok (.invokevirtual 295, 3) := by decide +kernel
theorem dX11_startRow_63 : decode cX11_startRow 63 = .ok (.iinc 4 (-1), 3) := by decide +kernel
theorem dX11_startRow_66 : decode cX11_startRow 66 = .ok (.goto (-37), 3) := by decide +kernel
theorem dX11_startRow_69 : decode cX11_startRow 69 = .ok (.iinc 3 1, 3) := by decide +kernel
theorem dX11_startRow_72 : decode cX11_startRow 72 = .ok (.goto (-70), 3) := by decide +kernel
theorem dX11_startRow_75 : decode cX11_startRow 75 = .ok (.return_, 1) := by decide +kernel
theorem dX11_rowAsNumber_0 : decode cX11_rowAsNumber 0 = .ok (.iconst 0, 1) := by decide +kernel
theorem dX11_rowAsNumber_1 : decode cX11_rowAsNumber 1 = .ok (.istore_n 2, 1) := by decide +kernel
theorem dX11_rowAsNumber_2 : decode cX11_rowAsNumber 2 = .ok (.iconst 0, 1) := by decide +kernel
theorem dX11_rowAsNumber_3 : decode cX11_rowAsNumber 3 = .ok (.istore_n 3, 1) := by decide +kernel
theorem dX11_rowAsNumber_4 : decode cX11_rowAsNumber 4 = .ok (.iload_n 3, 1) := by decide +kernel
theorem dX11_rowAsNumber_5 : decode cX11_rowAsNumber 5 = .ok (.iload_n 1, 1) := by decide +kernel
theorem dX11_rowAsNumber_6 : decode cX11_rowAsNumber 6 = .ok (.if_icmp .ge 23, 3) := by decide +kernel
theorem dX11_rowAsNumber_9 : decode cX11_rowAsNumber 9 = .ok (.iload_n 2, 1) := by decide +kernel
theorem dX11_rowAsNumber_10 : decode cX11_rowAsNumber 10 = .ok (.bipush 10, 2) := by decide +kernel
theorem dX11_rowAsNumber_12 : decode cX11_rowAsNumber 12 = .ok (.imul, 1) := by decide +kernel
theorem dX11_rowAsNumber_13 : decode cX11_rowAsNumber 13 = .ok (.aload_n 0, 1) := by decide +kernel
theorem dX11_rowAsNumber_14 : decode cX11_rowAsNumber 14 = .ok (.getfield 50, 3) := by decide +kernel
theorem dX11_rowAsNumber_17 : decode cX11_rowAsNumber 17 = .ok (.iload_n 3, 1) := by decide +kernel
theorem dX11_rowAsNumber_18 : decode cX11_rowAsNumber 18 = .ok (.iaload, 1) := by decide +kernel
theorem dX11_rowAsNumber_19 : decode cX11_rowAsNumber 19 = .ok (.iadd, 1) := by decide +kernel
theorem dX11_rowAsNumber_20 : decode cX11_rowAsNumber 20 = .ok (.iconst 1, 1) := by decide +kernel
theorem dX11_rowAsNumber_21 : decode cX11_rowAsNumber 21 = .ok (.iadd, 1) := by decide +kernel
theorem dX11_rowAsNumber_22 : decode cX11_rowAsNumber 22 = .ok (.istore_n 2, 1) := by decide +kernel
theorem dX11_rowAsNumber_23 : decode cX11_rowAsNumber 23 = .ok (.iinc 3 1, 3) := by decide +kernel
theorem dX11_rowAsNumber_26 : decode cX11_rowAsNumber 26 = .ok (.goto (-22), 3) := by decide +kernel
theorem dX11_rowAsNumber_29 : decode cX11_rowAsNumber 29 = .ok (.iload_n 2, 1) := by decide +kernel
theorem dX11_rowAsNumber_30 : decode cX11_rowAsNumber 30 = .ok (.ireturn, 1) := by decide +kernel
theorem dX11_nextRow_0 : decode cX11_nextRow 0 = .ok (.iload_n 1, 1) := by decide +kernel
theorem dX11_nextRow_1 : decode cX11_nextRow 1 = .ok (.iconst 2, 1) := by decide +kernel
theorem dX11_nextRow_2 : decode cX11_nextRow 2 = .ok (.isub, 1) := by decide +kernel
theorem dX11_nextRow_3 : decode cX11_nextRow 3 = .ok (.istore_n 2, 1) := by decide +kernel
theorem dX11_nextRow_4 : decode cX11_nextRow 4 = .ok (.iload_n 2, 1) := by decide +kernel
theorem dX11_nextRow_5 : decode cX11_nextRow 5 = .ok (.ifCond .lt 26, 3) := by decide +kernel
theorem dX11_nextRow_8 : decode cX11_nextRow 8 = .ok (.aload_n 0, 1) := by decide +kernel
theorem dX11_nextRow_9 : decode cX11_nextRow 9 = .ok (.getfield 50, 3) := by decide +kernel
theorem dX11_nextRow_12 : decode cX11_nextRow 12 = .ok (.iload_n 2, 1) := by decide +kernel
theorem dX11_nextRow_13 : decode cX11_nextRow 13 = .ok (.iaload, 1) := by decide +kernel
theorem dX11_nextRow_14 : decode cX11_nextRow 14 = .ok (.aload_n 0, 1) := by decide +kernel
theorem dX11_nextRow_15 : decode cX11_nextRow 15 = .ok (.getfield 50, 3) := by decide +kernel
theorem dX11_nextRow_18 : decode cX11_nextRow 18 = .ok (.iload_n 2, 1) := by decide +kernel
theorem dX11_nextRow_19 : decode cX11_nextRow 19 = .ok (.iconst 1, 1) := by decide +kernel
theorem dX11_nextRow_20 : decode cX11_nextRow 20 = .ok (.iadd, 1) := by decide +kernel
theorem dX11_nextRow_21 : decode cX11_nextRow 21 = .ok (.iaload, 1) := by decide +kernel
theorem dX11_nextRow_22 : decode cX11_nextRow 22 = .ok (.if_icmp .lt 9, 3) := by decide +kernel
theorem dX11_nextRow_25 : decode cX11_nextRow 25 = .ok (.iinc 2 (-1), 3) := by decide +kernel
theorem dX11_nextRow_28 : decode cX11_nextRow 28 = .ok (.goto (-24), 3) := by decide +kernel
theorem dX11_nextRow_31 : decode cX11_nextRow 31 = .ok (.iload_n 2, 1) := by decide +kernel
theorem dX11_nextRow_32 : decode cX11_nextRow 32 = .ok (.ifCond .ge 5, 3) := by decide +kernel
theorem dX11_nextRow_35 : decode cX11_nextRow 35 = .ok (.iconst 0, 1) := by decide +kernel
theorem dX11_nextRow_36 : decode cX11_nextRow 36 = .ok (.ireturn, 1) := by decide +kernel
theorem dX11_nextRow_37 : decode cX11_nextRow 37 = .ok (.iload_n 1, 1) := by decide +kernel
theorem dX11_nextRow_38 : decode cX11_nextRow 38 = .ok (.iconst 1, 1) := by decide +kernel
theorem dX11_nextRow_39 : decode cX11_nextRow 39 = .ok (.isub, 1) := by decide +kernel
theorem dX11_nextRow_40 : decode cX11_nextRow 40 = .ok (.istore_n 3, 1) := by decide +kernel
theorem dX11_nextRow_41 : decode cX11_nextRow 41 = .ok (.iload_n 3, 1) := by decide +kernel
theorem dX11_nextRow_42 : decode cX11_nextRow 42 = .ok (.iload_n 2, 1) := by decide +kernel
theorem dX11_nextRow_43 : decode cX11_nextRow 43 = .ok (.if_icmp .le 24, 3) := by decide +kernel
theorem dX11_nextRow_46 : decode cX11_nextRow 46 = .ok (.aload_n 0, 1) := by decide +kernel
theorem dX11_nextRow_47 : decode cX11_nextRow 47 = .ok (.getfield 50, 3) := by decide +kernel
theorem dX11_nextRow_50 : decode cX11_nextRow 50 = .ok (.iload_n 3, 1) := by decide +kernel
theorem dX11_nextRow_51 : decode cX11_nextRow 51 = .ok (.iaload, 1) := by decide +kernel
theorem dX11_nextRow_52 : decode cX11_nextRow 52 = .ok (.aload_n 0, 1) := by decide +kernel
theorem dX11_nextRow_53 : decode cX11_nextRow 53 = .ok (.getfield 50, 3) := by decide +kernel
theorem dX11_nextRow_56 : decode cX11_nextRow 56 = .ok (.iload_n 2, 1) := by decide +kernel
theorem dX11_nextRow_57 : decode cX11_nextRow 57 = .ok (.iaload, 1) := by decide +kernel
theorem dX11_nextRow_58 : decode cX11_nextRow 58 = .ok (.if_icmp .gt 9, 3) := by decide +kernel
theorem dX11_nextRow_61 : decode cX11_nextRow 61 = .ok (.iinc 3 (-1), 3) := by decide +kernel
theorem dX11_nextRow_64 : decode cX11_nextRow 64 = .ok (.goto (-23), 3) := by decide +kernel
theorem dX11_nextRow_67 : decode cX11_nextRow 67 = .ok (.aload_n 0, 1) := by decide +kernel
theorem dX11_nextRow_68 : decode cX11_nextRow 68 = .ok (.iload_n 2, 1) := by decide +kernel
theorem dX11_nextRow_69 : decode cX11_nextRow 69 = .ok (.iload_n 3, 1) := by decide +kernel
theorem dX11_nextRow_70 : decode cX11_nextRow 70 = .ok (.invokevirtual 295, 3) := by decide +kernel
theorem dX11_nextRow_73 : decode cX11_nextRow 73 = .ok (.iload_n 2, 1) := by decide +kernel
theorem dX11_nextRow_74 : decode cX11_nextRow 74 = .ok (.iconst 1, 1) := by decide +kernel
theorem dX11_nextRow_75 : decode cX11_nextRow 75 = .ok (.iadd, 1) := by decide +kernel
theorem dX11_nextRow_76 : decode cX11_nextRow 76 = .ok (.istore 4, 2) := by decide +kernel
theorem dX11_nextRow_78 : decode cX11_nextRow 78 = .ok (.iload_n 1, 1) := by decide +kernel
theorem dX11_nextRow_79 : decode cX11_nextRow 79 = .ok (.iconst 1, 1) := by decide +kernel
theorem dX11_nextRow_80 : decode cX11_nextRow 80 = .ok (.isub, 1) := by decide +kernel
theorem dX11_nextRow_81 : decode cX11_nextRow 81 = .ok (.istore 5, 2) := by decide +kernel
theorem dX11_nextRow_83 : decode cX11_nextRow 83 = .ok (.iload 4, 2) := by decide +kernel
theorem dX11_nextRow_85 : decode cX11_nextRow 85 = .ok (.iload 5, 2) := by decide +kernel
theorem dX11_nextRow_87 : decode cX11_nextRow 87 = .ok (.if_icmp .ge 20, 3) := by decide +kernel
theorem dX11_nextRow_90 : decode cX11_nextRow 90 = .ok (.aload_n 0, 1) := by decide +kernel
theorem dX11_nextRow_91 : decode cX11_nextRow 91 = .ok (.iload 4, 2) := by decide +kernel
theorem dX11_nextRow_93 : decode cX11_nextRow 93 = .ok (.iload 5, 2) := by decide +kernel
theorem dX11_nextRow_95 : decode cX11_nextRow 95 = .ok (.invokevirtual 295, 3) := by decide +kernel
theorem dX11_nextRow_98 : decode cX11_nextRow 98 = .ok (.iinc 4 1, 3) := by decide +kernel
theorem dX11_nextRow_101 : decode cX11_nextRow 101 = .ok (.iinc 5 (-1), 3) := by decide +kernel
theorem dX11_nextRow_104 : decode cX11_nextRow 104 = .ok (.goto (-21), 3) := by decide +kernel
theorem dX11_nextRow_107 : decode cX11_nextRow 107 = .ok (.iconst 1, 1) := by decide +kernel
theorem dX11_nextRow_108 : decode cX11_nextRow 108 = .ok (.ireturn, 1) := by decide +kernel
theorem dX11_swapInRow_0 : decode cX11_swapInRow 0 = .ok (.aload_n 0, 1) := by decide +kernel
theorem dX11_swapInRow_1 : decode cX11_swapInRow 1 = .ok (.getfield 50, 3) := by decide +kernel
theorem dX11_swapInRow_4 : decode cX11_swapInRow 4 = .ok (.iload_n 1, 1) := by decide +kernel
theorem dX11_swapInRow_5 : decode cX11_swapInRow 5 = .ok (.iaload, 1) := by decide +kernel
theorem dX11_swapInRow_6 : decode cX11_swapInRow 6 = .ok (.istore_n 3, 1) := by decide +kernel
theorem dX11_swapInRow_7 : decode cX11_swapInRow 7 = .ok (.aload_n 0, 1) := by decide +kernel
theorem dX11_swapInRow_8 : decode cX11_swapInRow 8 = .ok (.getfield 50, 3) := by decide +kernel
theorem dX11_swapInRow_11 : decode cX11_swapInRow 11 = .ok (.iload_n 1, 1) := by decide +kernel
theorem dX11_swapInRow_12 : decode cX11_swapInRow 12 = .ok (.aload_n 0, 1) := by decide +kernel
theorem dX11_swapInRow_13 : decode cX11_swapInRow 13 = .ok (.getfield 50, 3) := by decide +kernel
theorem dX11_swapInRow_16 : decode cX11_swapInRow 16 = .ok (.iload_n 2, 1) := by decide +kernel
theorem dX11_swapInRow_17 : decode cX11_swapInRow 17 = .ok (.iaload, 1) := by decide +kernel
theorem dX11_swapInRow_18 : decode cX11_swapInRow 18 = .ok (.iastore, 1) := by decide +kernel
theorem dX11_swapInRow_19 : decode cX11_swapInRow 19 = .ok (.aload_n 0, 1) := by decide +kernel
theorem dX11_swapInRow_20 : decode cX11_swapInRow 20 = .ok (.getfield 50, 3) := by decide +kernel
theorem dX11_swapInRow_23 : decode cX11_swapInRow 23 = .ok (.iload_n 2, 1) := by decide +kernel
theorem dX11_swapInRow_24 : decode cX11_swapInRow 24 = .ok (.iload_n 3, 1) := by decide +kernel
theorem dX11_swapInRow_25 : decode cX11_swapInRow 25 = .ok (.iastore, 1) := by decide +kernel
theorem dX11_swapInRow_26 : decode cX11_swapInRow 26 = .ok (.return_, 1) := by decide +kernel
theorem dX12_init_0 : decode cX12_init 0 = .ok (.aload_n 0, 1) := by decide +kernel
theorem dX12_init_1 : decode cX12_init 1 = .ok (.invokespecial 1, 3) := by decide +kernel
theorem dX12_init_4 : decode cX12_init 4 = .ok (.aload_n 0, 1) := by decide +kernel
theorem dX12_init_5 : decode cX12_init 5 = .ok (.bipush 96, 2) := by decide +kernel
theorem dX12_init_7 : decode cX12_init 7 = .ok (.newarray .int, 2) := by decide +kernel
theorem dX12_init_9 : decode cX12_init 9 = .ok (.putfield 9, 3) := by decide +kernel
theorem dX12_init_12 : decode cX12_init 12 = .ok (.aload_n 0, 1) := by decide +kernel
theorem dX12_init_13 : decode cX12_init 13 = .ok (.bipush 96, 2) := by decide +kernel
theorem dX12_init_15 : decode cX12_init 15 = .ok (.newarray .int, 2) := by decide +kernel
theorem dX12_init_17 : decode cX12_init 17 = .ok (.putfield 13, 3) := by decide +kernel
theorem dX12_init_20 : decode cX12_init 20 = .ok (.aload_n 0, 1) := by decide +kernel
theorem dX12_init_21 : decode cX12_init 21 = .ok (.bipush 96, 2) := by decide +kernel
theorem dX12_init_23 : decode cX12_init 23 = .ok (.newarray .int, 2) := by decide +kernel
theorem dX12_init_25 : decode cX12_init 25 = .ok (.putfield 16, 3) := by decide +kernel
theorem dX12_init_28 : decode cX12_init 28 = .ok (.aload_n 0, 1) := by decide +kernel
theorem dX12_init_29 : decode cX12_init 29 = .ok (.bipush 7, 2) := by decide +kernel
theorem dX12_init_31 : decode cX12_init 31 = .ok (.newarray .int, 2) := by decide +kernel
theorem dX12_init_33 : decode cX12_init 33 = .ok (.putfield 19, 3) := by decide +kernel
theorem dX12_init_36 : decode cX12_init 36 = .ok (.aload_n 0, 1) := by decide +kernel
theorem dX12_init_37 : decode cX12_init 37 = .ok (.iconst 5, 1) := by decide +kernel
theorem dX12_init_38 : decode cX12_init 38 = .ok (.newarray .int, 2) := by decide +kernel
theorem dX12_init_40 : decode cX12_init 40 = .ok (.putfield 22, 3) := by decide +kernel
theorem dX12_init_43 : decode cX12_init 43 = .ok (.aload_n 0, 1) := by decide +kernel
theorem dX12_init_44 : decode cX12_init 44 = .ok (.bipush 120, 2) := by decide +kernel
theorem dX12_init_46 : decode cX12_init 46 = .ok (.newarray .int, 2) := by decide +kernel
theorem dX12_init_48 : decode cX12_init 48 = .ok (.putfield 25, 3) := by decide +kernel
theorem dX12_init_51 : decode cX12_init 51 = .ok (.aload_n 0, 1) := by decide +kernel
theorem dX12_init_52 : decode cX12_init 52 = .ok (.bipush 48, 2) := by decide +kernel
theorem dX12_init_54 : decode cX12_init 54 = .ok (.newarray .char, 2) := by decide +kernel
theorem dX12_init_56 : decode cX12_init 56 = .ok (.dup, 1) := by decide +kernel
theorem dX12_init_57 : decode cX12_init 57 = .ok (.iconst 0, 1) := by decide +kernel
theorem dX12_init_58 : decode cX12_init 58 = .ok (.bipush 109, 2) := by decide +kernel
theorem dX12_init_60 : decode cX12_init 60 = .ok (.castore, 1) := by decide +kernel
theorem dX12_init_61 : decode cX12_init 61 = .ok (.dup, 1) := by decide +kernel
theorem dX12_init_62 : decode cX12_init 62 = .ok (.iconst 1, 1) := by decide +kernel
theorem dX12_init_63 : decode cX12_init 63 = .ok (.bipush 97, 2) := by decide +kernel
theorem dX12_init_65 : decode cX12_init 65 = .ok (.castore, 1) := by decide +kernel
theorem dX12_init_66 : decode cX12_init 66 = .ok (.dup, 1) := by decide +kernel
theorem dX12_init_67 : decode cX12_init 67 = .ok (.iconst 2, 1) := by decide +kernel
theorem dX12_init_68 : decode cX12_init 68 = .ok (.bipush 110, 2) := by decide +kernel
theorem dX12_init_70 : decode cX12_init 70 = .ok (.castore, 1) := by decide +kernel
theorem dX12_init_71 : decode cX12_init 71 = .ok (.dup, 1) := by decide +kernel
theorem dX12_init_72 : decode cX12_init 72 = .ok (.iconst 3, 1) := by decide +kernel
theorem dX12_init_73 : decode cX12_init 73 = .ok (.bipush 32, 2) := by decide +kernel
theorem dX12_init_75 : decode cX12_init 75 = .ok (.castore, 1) := by decide +kernel
theorem dX12_init_76 : decode cX12_init 76 = .ok (.dup, 1) := by decide +kernel
theorem dX12_init_77 : decode cX12_init 77 = .ok (.iconst 4, 1) := by decide +kernel
theorem dX12_init_78 : decode cX12_init 78 = .ok (.bipush 32, 2) := by decide +kernel
theorem dX12_init_80 : decode cX12_init 80 = .ok (.castore, 1) := by decide +kernel
theorem dX12_init_81 : decode cX12_init 81 = .ok (.dup, 1) := by decide +kernel
theorem dX12_init_82 : decode cX12_init 82 = .ok (.iconst 5, 1) := by decide +kernel
theorem dX12_init_83 : decode cX12_init 83 = .ok (.bipush 32, 2) := by decide +kernel
theorem dX12_init_85 : decode cX12_init 85 = .ok (.castore, 1) := by decide +kernel
theorem dX12_init_86 : decode cX12_init 86 = .ok (.dup, 1) := by decide +kernel
theorem dX12_init_87 : decode cX12_init 87 = .ok (.bipush 6, 2) := by decide +kernel
theorem dX12_init_89 : decode cX12_init 89 = .ok (.bipush 32, 2) := by decide +kernel
theorem dX12_init_91 : decode cX12_init 91 = .ok (.castore, 1) := by decide +kernel
theorem dX12_init_92 : decode cX12_init 92 = .ok (.dup, 1) := by decide +kernel
theorem dX12_init_93 : decode cX12_init 93 = .ok (.bipush 7, 2) := by decide +kernel
theorem dX12_init_95 : decode cX12_init 95 = .ok (.bipush 32, 2) := by decide +kernel
theorem dX12_init_97 : decode cX12_init 97 = .ok (.castore, 1) := by decide +kernel
theorem dX12_init_98 : decode cX12_init 98 = .ok (.dup, 1) := by decide +kernel
theorem dX12_init_99 : decode cX12_init 99 = .ok (.bipush 8, 2) := by decide +kernel
theorem dX12_init_101 : decode cX12_init 101 = .ok (.bipush 97, 2) := by decide +kernel
theorem dX12_init_103 : decode cX12_init 103 = .ok (.castore, 1) := by decide +kernel
theorem dX12_init_104 : decode cX12_init 104 = .ok (.dup, 1) := by decide +kernel
theorem dX12_init_105 : decode cX12_init 105 = .ok (.bipush 9, 2) := by decide +kernel
theorem dX12_init_107 : decode cX12_init 107 = .ok (.bipush 117, 2) := by decide +kernel
theorem dX12_init_109 : decode cX12_init 109 = .ok (.castore, 1) := by decide +kernel
theorem dX12_init_110 : decode cX12_init 110 = .ok (.dup, 1) := by decide +kernel
theorem dX12_init_111 : decode cX12_init 111 = .ok (.bipush 10, 2) := by decide +kernel
theorem dX12_init_113 : decode cX12_init 113 = .ok (.bipush 110, 2) := by decide +kernel
theorem dX12_init_115 : decode cX12_init 115 = .ok (.castore, 1) := by decide +kernel
theorem dX12_init_116 : decode cX12_init 116 = .ok (.dup, 1) := by decide +kernel
theorem dX12_init_117 : decode cX12_init 117 = .ok (.bipush 11, 2) := by decide +kernel
theorem dX12_init_119 : decode cX12_init 119 = .ok (.bipush 116, 2) := by decide +kernel
theorem dX12_init_121 : decode cX12_init 121 = .ok (.castore, 1) := by decide +kernel
theorem dX12_init_122 : decode cX12_init 122 = .ok (.dup, 1) := by decide +kernel
theorem dX12_init_123 : decode cX12_init 123 = .ok (.bipush 12, 2) := by decide +kernel
theorem dX12_init_125 : decode cX12_init 125 = .ok (.bipush 32, 2) := by decide +kernel
theorem dX12_init_127 : decode cX12_init 127 = .ok (.castore, 1) := by decide +kernel
theorem dX12_init_128 : decode cX12_init 128 = .ok (.dup, 1) := by decide +kernel
theorem dX12_init_129 : decode cX12_init 129 = .ok (.bipush 13, 2) := by decide +kernel
theorem dX12_init_131 : decode cX12_init 131 = .ok (.bipush 32, 2) := by decide +kernel
theorem dX12_init_133 : decode cX12_init 133 = .ok (.castore, 1) := by decide +kernel
theorem dX12_init_134 : decode cX12_init 134 = .ok (.dup, 1) := by decide +kernel
theorem dX12_init_135 : decode cX12_init 135 = .ok (.bipush 14, 2) := by decide +kernel
theorem dX12_init_137 : decode cX12_init 137 = .ok (.bipush 32, 2) := by decide +kernel
theorem dX12_init_139 : decode cX12_init 139 = .ok (.castore, 1) := by decide +kernel
theorem dX12_init_140 : decode cX12_init 140 = .ok (.dup, 1) := by decide +kernel
theorem dX12_init_141 : decode cX12_init 141 = .ok (.bipush 15, 2) := by decide +kernel
theorem dX12_init_143 : decode cX12_init 143 = .ok (.bipush 32, 2) := by decide +kernel
theorem dX12_init_145 : decode cX12_init 145 = .ok (.castore, 1) := by decide +kernel
theorem dX12_init_146 : decode cX12_init 146 = .ok (.dup, 1) := by decide +kernel
theorem dX12_init_147 : decode cX12_init 147 = .ok (.bipush 16, 2) := by decide +kernel
theorem dX12_init_149 : decode cX12_init 149 = .ok (.bipush 99, 2) := by decide +kernel
theorem dX12_init_151 : decode cX12_init 151 = .ok (.castore, 1) := by decide +kernel
theorem dX12_init_152 : decode cX12_init 152 = .ok (.dup, 1) := by decide +kernel
theorem dX12_init_153 : decode cX12_init 153 = .ok (.bipush 17, 2) := by decide +kernel
theorem dX12_init_155 : decode cX12_init 155 = .ok (.bipush 104, 2) := by decide +kernel
theorem dX12_init_157 : decode cX12_init 157 = .ok (.castore, 1) := by decide +kernel
theorem dX12_init_158 : decode cX12_init 158 = .ok (.dup, 1) := by decide +kernel
theorem dX12_init_159 : decode cX12_init 159 = .ok (.bipush 18, 2) := by decide +kernel
theorem dX12_init_161 : decode cX12_init 161 = .ok (.bipush 105, 2) := by decide +kernel
theorem dX12_init_163 : decode cX12_init 163 = .ok (.castore, 1) := by decide +kernel
theorem dX12_init_164 : decode cX12_init 164 = .ok (.dup, 1) := by decide +kernel
theorem dX12_init_165 : decode cX12_init 165 = .ok (.bipush 19, 2) := by decide +kernel
theorem dX12_init_167 : decode cX12_init 167 = .ok (.bipush 108, 2) := by decide +kernel
theorem dX12_init_169 : decode cX12_init 169 = .ok (.castore, 1) := by decide +kernel
theorem dX12_init_170 : decode cX12_init 170 = .ok (.dup, 1) := by decide +kernel
theorem dX12_init_171 : decode cX12_init 171 = .ok (.bipush 20, 2) := by decide +kernel
theorem dX12_init_173 : decode cX12_init 173 = .ok (.bipush 100, 2) := by decide +kernel
theorem dX12_init_175 : decode cX12_init 175 = .ok (.castore, 1) := by decide +kernel
theorem dX12_init_176 : decode cX12_init 176 = .ok (.dup, 1) := by decide +kernel
theorem dX12_init_177 : decode cX12_init 177 = .ok (.bipush 21, 2) := by decide +kernel
theorem dX12_init_179 : decode cX12_init 179 = .ok (.bipush 32, 2) := by decide +kernel
theorem dX12_init_181 : decode cX12_init 181 = .ok (.castore, 1) := by decide +kernel
theorem dX12_init_182 : decode cX12_init 182 = .ok (.dup, 1) := by decide +kernel
theorem dX12_init_183 : decode cX12_init 183 = .ok (.bipush 22, 2) := by decide +kernel
theorem dX12_init_185 : decode cX12_init 185 = .ok (.bipush 32, 2) := by decide +kernel
theorem dX12_init_187 : decode cX12_init 187 = .ok (.castore, 1) := by decide +kernel
theorem dX12_init_188 : decode cX12_init 188 = .ok (.dup, 1) := by decide +kernel
theorem dX12_init_189 : decode cX12_init 189 = .ok (.bipush 23, 2) := by decide +kernel
theorem dX12_init_191 : decode cX12_init 191 = .ok (.bipush 32, 2) := by decide +kernel
theorem dX12_init_193 : decode cX12_init 193 = .ok (.castore, 1) := by decide +kernel
theorem dX12_init_194 : decode cX12_init 194 = .ok (.dup, 1) := by decide +kernel
theorem dX12_init_195 : decode cX12_init 195 = .ok (.bipush 24, 2) := by decide +kernel
theorem dX12_init_197 : decode cX12_init 197 = .ok (.bipush 112, 2) := by decide +kernel
theorem dX12_init_199 : decode cX12_init 199 = .ok (.castore, 1) := by decide +kernel
theorem dX12_init_200 : decode cX12_init 200 = .ok (.dup, 1) := by decide +kernel
theorem dX12_init_201 : decode cX12_init 201 = .ok (.bipush 25, 2) := by decide +kernel
theorem dX12_init_203 : decode cX12_init 203 = .ok (.bipush 111, 2) := by decide +kernel
theorem dX12_init_205 : decode cX12_init 205 = .ok (.castore, 1) := by decide +kernel
theorem dX12_init_206 : decode cX12_init 206 = .ok (.dup, 1) := by decide +kernel
theorem dX12_init_207 : decode cX12_init 207 = .ok (.bipush 26, 2) := by decide +kernel
theorem dX12_init_209 : decode cX12_init 209 = .ok (.bipush 111, 2) := by decide +kernel
theorem dX12_init_211 : decode cX12_init 211 = .ok (.castore, 1) := by decide +kernel
theorem dX12_init_212 : decode cX12_init 212 = .ok (.dup, 1) := by decide +kernel
theorem dX12_init_213 : decode cX12_init 213 = .ok (.bipush 27, 2) := by decide +kernel
theorem dX12_init_215 : decode cX12_init 215 = .ok (.bipush 114, 2) := by decide +kernel
theorem dX12_init_217 : decode cX12_init 217 = .ok (.castore, 1) := by decide +kernel
theorem dX12_init_218 : decode cX12_init 218 = .ok (.dup, 1) := by decide +kernel
theorem dX12_init_219 : decode cX12_init 219 = .ok (.bipush 28, 2) := by decide +kernel
theorem dX12_init_221 : decode cX12_init 221 = .ok (.bipush 32, 2) := by decide +kernel
theorem dX12_init_223 : decode cX12_init 223 = .ok (.castore, 1) := by decide +kernel
theorem dX12_init_224 : decode cX12_init 224 = .ok (.dup, 1) := by decide +kernel
theorem dX12_init_225 : decode cX12_init 225 = .ok (.bipush 29, 2) := by decide +kernel
theorem dX12_init_227 : decode cX12_init 227 = .ok (.bipush 32, 2) := by decide +kernel
theorem dX12_init_229 : decode cX12_init 229 = .ok (.castore, 1) := by decide +kernel
theorem dX12_init_230 : decode cX12_init 230 = .ok (.dup, 1) := by decide +kernel
theorem dX12_init_231 : decode cX12_init 231 = .ok (.bipush 30, 2) := by decide +kernel
theorem dX12_init_233 : decode cX12_init 233 = .ok (.bipush 32, 2) := by decide +kernel
theorem dX12_init_235 : decode cX12_init 235 = .ok (.castore, 1) := by decide +kernel
theorem dX12_init_236 : decode cX12_init 236 = .ok (.dup, 1) := by decide +kernel
theorem dX12_init_237 : decode cX12_init 237 = .ok (.bipush 31, 2) := by decide +kernel
theorem dX12_init_239 : decode cX12_init 239 = .ok (.bipush 32, 2) := by decide +kernel
theorem dX12_init_241 : decode cX12_init 241 = .ok (.castore, 1) := by decide +kernel
theorem dX12_init_242 : decode cX12_init 242 = .ok (.dup, 1) := by decide +kernel
theorem dX12_init_243 : decode cX12_init 243 = .ok (.bipush 32, 2) := by decide +kernel
theorem dX12_init_245 : decode cX12_init 245 = .ok (.bipush 103, 2) := by decide +kernel
theorem dX12_init_247 : decode cX12_init 247 = .ok (.castore, 1) := by decide +kernel
theorem dX12_init_248 : decode cX12_init 248 = .ok (.dup, 1) := by decide +kernel
theorem dX12_init_249 : decode cX12_init 249 = .ok (.bipush 33, 2) := by decide +kernel
theorem dX12_init_251 : decode cX12_init 251 = .ok (.bipush 105, 2) := by decide +kernel
theorem dX12_init_253 : decode cX12_init 253 = .ok (.castore, 1) := by decide +kernel
theorem dX12_init_254 : decode cX12_init 254 = .ok (.dup, 1) := by decide +kernel
theorem dX12_init_255 : decode cX12_init 255 = .ok (.bipush 34, 2) := by decide +kernel
theorem dX12_init_257 : decode cX12_init 257 = .ok (.bipush 114, 2) := by decide +kernel
theorem dX12_init_259 : decode cX12_init 259 = .ok (.castore, 1) := by decide +kernel
theorem dX12_init_260 : decode cX12_init 260 = .ok (.dup, 1) := by decide +kernel
theorem dX12_init_261 : decode cX12_init 261 = .ok (.bipush 35, 2) := by decide +kernel
theorem dX12_init_263 : decode cX12_init 263 = .ok (.bipush 108, 2) := by decide +kernel
theorem dX12_init_265 : decode cX12_init 265 = .ok (.castore, 1) := by decide +kernel
theorem dX12_init_266 : decode cX12_init 266 = .ok (.dup, 1) := by decide +kernel
theorem dX12_init_267 : decode cX12_init 267 = .ok (.bipush 36, 2) := by decide +kernel
theorem dX12_init_269 : decode cX12_init 269 = .ok (.bipush 32, 2) := by decide +kernel
theorem dX12_init_271 : decode cX12_init 271 = .ok (.castore, 1) := by decide +kernel
theorem dX12_init_272 : decode cX12_init 272 = .ok (.dup, 1) := by decide +kernel
theorem dX12_init_273 : decode cX12_init 273 = .ok (.bipush 37, 2) := by decide +kernel
theorem dX12_init_275 : decode cX12_init 275 = .ok (.bipush 32, 2) := by decide +kernel
theorem dX12_init_277 : decode cX12_init 277 = .ok (.castore, 1) := by decide +kernel
theorem dX12_init_278 : decode cX12_init 278 = .ok (.dup, 1) := by decide +kernel
theorem dX12_init_279 : decode cX12_init 279 = .ok (.bipush 38, 2) := by decide +kernel
theorem dX12_init_281 : decode cX12_init 281 = .ok (.bipush 32, 2) := by decide +kernel
theorem dX12_init_283 : decode cX12_init 283 = .ok (.castore, 1) := by decide +kernel
theorem dX12_init_284 : decode cX12_init 284 = .ok (.dup, 1) := by decide +kernel
theorem dX12_init_285 : decode cX12_init 285 = .ok (.bipush 39, 2) := by decide +kernel
theorem dX12_init_287 : decode cX12_init 287 = .ok (.bipush 32, 2) := by decide +kernel
theorem dX12_init_289 : decode cX12_init 289 = .ok (.castore, 1) := by decide +kernel
theorem dX12_init_290 : decode cX12_init 290 = .ok (.dup, 1) := by decide +kernel
theorem dX12_init_291 : decode cX12_init 291 = .ok (.bipush 40, 2) := by decide +kernel
theorem dX12_init_293 : decode cX12_init 293 = .ok (.bipush 99, 2) := by decide +kernel
theorem dX12_init_295 : decode cX12_init 295 = .ok (.castore, 1) := by decide +kernel
theorem dX12_init_296 : decode cX12_init 296 = .ok (.dup, 1) := by decide +kernel
theorem dX12_init_297 : decode cX12_init 297 = .ok (.bipush 41, 2) := by decide +kernel
theorem dX12_init_299 : decode cX12_init 299 = .ok (.bipush 108, 2) := by decide +kernel
theorem dX12_init_301 : decode cX12_init 301 = .ok (.castore, 1) := by decide +kernel
theorem dX12_init_302 : decode cX12_init 302 = .ok (.dup, 1) := by decide +kernel
theorem dX12_init_303 : decode cX12_init 303 = .ok (.bipush 42, 2) := by decide +kernel
theorem dX12_init_305 : decode cX12_init 305 = .ok (.bipush 101, 2) := by decide +kernel
theorem dX12_init_307 : decode cX12_init 307 = .ok (.castore, 1) := by decide +kernel
theorem dX12_init_308 : decode cX12_init 308 = .ok (.dup, 1) := by decide +kernel
theorem dX12_init_309 : decode cX12_init 309 = .ok (.bipush 43, 2) := by decide +kernel
theorem dX12_init_311 : decode cX12_init 311 = .ok (.bipush 114, 2) := by decide +kernel
theorem dX12_init_313 : decode cX12_init 313 = .ok (.castore, 1) := by decide +kernel
theorem dX12_init_314 : decode cX12_init 314 = .ok (.dup, 1) := by decide +kernel
theorem dX12_init_315 : decode cX12_init 315 = .ok (.bipush 44, 2) := by decide +kernel
theorem dX12_init_317 : decode cX12_init 317 = .ok (.bipush 107, 2) := by decide +kernel
theorem dX12_init_319 : decode cX12_init 319 = .ok (.castore, 1) := by decide +kernel
theorem dX12_init_320 : decode cX12_init 320 = .ok (.dup, 1) := by decide +kernel
theorem dX12_init_321 : decode cX12_init 321 = .ok (.bipush 45, 2) := by decide +kernel
theorem dX12_init_323 : decode cX12_init 323 = .ok (.bipush 32, 2) := by decide +kernel
theorem dX12_init_325 : decode cX12_init 325 = .ok (.castore, 1) := by decide +kernel
theorem dX12_init_326 : decode cX12_init 326 = .ok (.dup, 1) := by decide +kernel
theorem dX12_init_327 : decode cX12_init 327 = .ok (.bipush 46, 2) := by decide +kernel
theorem dX12_init_329 : decode cX12_init 329 = .ok (.bipush 32, 2) := by decide +kernel
theorem dX12_init_331 : decode cX12_init 331 = .ok (.castore, 1) := by decide +kernel
theorem dX12_init_332 : decode cX12_init 332 = .ok (.dup, 1) := by decide +kernel
theorem dX12_init_333 : decode cX12_init 333 = .ok (.bipush 47, 2) := by decide +kernel
theorem dX12_init_335 : decode cX12_init 335 = .ok (.bipush 32, 2) := by decide +kernel
theorem dX12_init_337 : decode cX12_init 337 = .ok (.castore, 1) := by decide +kernel
theorem dX12_init_338 : decode cX12_init 338 = .ok (.putfield 28, 3) := by decide +kernel
theorem dX12_init_341 : decode cX12_init 341 = .ok (.aload_n 0, 1) := by decide +kernel
theorem dX12_init_342 : decode cX12_init 342 = .ok (.bipush 16, 2) := by decide +kernel
theorem dX12_init_344 : decode cX12_init 344 = .ok (.newarray .char, 2) := by decide +kernel
theorem dX12_init_346 : decode cX12_init 346 = .ok (.dup, 1) := by decide +kernel
theorem dX12_init_347 : decode cX12_init 347 = .ok (.iconst 0, 1) := by decide +kernel
theorem dX12_init_348 : decode cX12_init 348 = .ok (.bipush 112, 2) := by decide +kernel
theorem dX12_init_350 : decode cX12_init 350 = .ok (.castore, 1) := by decide +kernel
theorem dX12_init_351 : decode cX12_init 351 = .ok (.dup, 1) := by decide +kernel
theorem dX12_init_352 : decode cX12_init 352 = .ok (.iconst 1, 1) := by decide +kernel
theorem dX12_init_353 : decode cX12_init 353 = .ok (.bipush 114, 2) := by decide +kernel
theorem dX12_init_355 : decode cX12_init 355 = .ok (.castore, 1) := by decide +kernel
theorem dX12_init_356 : decode cX12_init 356 = .ok (.dup, 1) := by decide +kernel
theorem dX12_init_357 : decode cX12_init 357 = .ok (.iconst 2, 1) := by decide +kernel
theorem dX12_init_358 : decode cX12_init 358 = .ok (.bipush 101, 2) := by decide +kernel
theorem dX12_init_360 : decode cX12_init 360 = .ok (.castore, 1) := by decide +kernel
theorem dX12_init_361 : decode cX12_init 361 = .ok (.dup, 1) := by decide +kernel
theorem dX12_init_362 : decode cX12_init 362 = .ok (.iconst 3, 1) := by decide +kernel
theorem dX12_init_363 : decode cX12_init 363 = .ok (.bipush 115, 2) := by decide +kernel
theorem dX12_init_365 : decode cX12_init 365 = .ok (.castore, 1) := by decide +kernel
theorem dX12_init_366 : decode cX12_init 366 = .ok (.dup, 1) := by decide +kernel
theorem dX12_init_367 : decode cX12_init 367 = .ok (.iconst 4, 1) := by decide +kernel
theorem dX12_init_368 : decode cX12_init 368 = .ok (.bipush 101, 2) := by decide +kernel
theorem dX12_init_370 : decode cX12_init 370 = .ok (.castore, 1) := by decide +kernel
theorem dX12_init_371 : decode cX12_init 371 = .ok (.dup, 1) := by decide +kernel
theorem dX12_init_372 : decode cX12_init 372 = .ok (.iconst 5, 1) := by decide +kernel
theorem dX12_init_373 : decode cX12_init 373 = .ok (.bipush 110, 2) := by decide +kernel
theorem dX12_init_375 : decode cX12_init 375 = .ok (.castore, 1) := by decide +kernel
theorem dX12_init_376 : decode cX12_init 376 = .ok (.dup, 1) := by decide +kernel
theorem dX12_init_377 : decode cX12_init 377 = .ok (.bipush 6, 2) := by decide +kernel
theorem dX12_init_379 : decode cX12_init 379 = .ok (.bipush 116, 2) := by decide +kernel
theorem dX12_init_381 : decode cX12_init 381 = .ok (.castore, 1) := by decide +kernel
theorem dX12_init_382 : decode cX12_init 382 = .ok (.dup, 1) := by decide +kernel
theorem dX12_init_383 : decode cX12_init 383 = .ok (.bipush 7, 2) := by decide +kernel
theorem dX12_init_385 : decode cX12_init 385 = .ok (.bipush 32, 2) := by decide +kernel
theorem dX12_init_387 : decode cX12_init 387 = .ok (.castore, 1) := by decide +kernel
theorem dX12_init_388 : decode cX12_init 388 = .ok (.dup, 1) := by decide +kernel
theorem dX12_init_389 : decode cX12_init 389 = .ok (.bipush 8, 2) := by decide +kernel
theorem dX12_init_391 : decode cX12_init 391 = .ok (.bipush 116, 2) := by decide +kernel
theorem dX12_init_393 : decode cX12_init 393 = .ok (.castore, 1) := by decide +kernel
theorem dX12_init_394 : decode cX12_init 394 = .ok (.dup, 1) := by decide +kernel
theorem dX12_init_395 : decode cX12_init 395 = .ok (.bipush 9, 2) := by decide +kernel
theorem dX12_init_397 : decode cX12_init 397 = .ok (.bipush 104, 2) := by decide +kernel
theorem dX12_init_399 : decode cX12_init 399 = .ok (.castore, 1) := by decide +kernel
theorem dX12_init_400 : decode cX12_init 400 = .ok (.dup, 1) := by decide +kernel
theorem dX12_init_401 : decode cX12_init 401 = .ok (.bipush 10, 2) := by decide +kernel
theorem dX12_init_403 : decode cX12_init 403 = .ok (.bipush 105, 2) := by decide +kernel
theorem dX12_init_405 : decode cX12_init 405 = .ok (.castore, 1) := by decide +kernel
theorem dX12_init_406 : decode cX12_init 406 = .ok (.dup, 1) := by decide +kernel
theorem dX12_init_407 : decode cX12_init 407 = .ok (.bipush 11, 2) := by decide +kernel
theorem dX12_init_409 : decode cX12_init 409 = .ok (.bipush 110, 2) := by decide +kernel
theorem dX12_init_411 : decode cX12_init 411 = .ok (.castore, 1) := by decide +kernel
theorem dX12_init_412 : decode cX12_init 412 = .ok (.dup, 1) := by decide +kernel
theorem dX12_init_413 : decode cX12_init 413 = .ok (.bipush 12, 2) := by decide +kernel
theorem dX12_init_415 : decode cX12_init 415 = .ok (.bipush 103, 2) := by decide +kernel
theorem dX12_init_417 : decode cX12_init 417 = .ok (.castore, 1) := by decide +kernel
theorem dX12_init_418 : decode cX12_init 418 = .ok (.dup, 1) := by decide +kernel
theorem dX12_init_419 : decode cX12_init 419 = .ok (.bipush 13, 2) := by decide +kernel
theorem dX12_init_421 : decode cX12_init 421 = .ok (.bipush 32, 2) := by decide +kernel
theorem dX12_init_423 : decode cX12_init 423 = .ok (.castore, 1) := by decide +kernel
theorem dX12_init_424 : decode cX12_init 424 = .ok (.dup, 1) := by decide +kernel
theorem dX12_init_425 : decode cX12_init 425 = .ok (.bipush 14, 2) := by decide +kernel
theorem dX12_init_427 : decode cX12_init 427 = .ok (.bipush 32, 2) := by decide +kernel
theorem dX12_init_429 : decode cX12_init 429 = .ok (.castore, 1) := by decide +kernel
theorem dX12_init_430 : decode cX12_init 430 = .ok (.dup, 1) := by decide +kernel
theorem dX12_init_431 : decode cX12_init 431 = .ok (.bipush 15, 2) := by decide +kernel
theorem dX12_init_433 : decode cX12_init 433 = .ok (.bipush 32, 2) := by decide +kernel
theorem dX12_init_435 : decode cX12_init 435 = .ok (.castore, 1) := by decide +kernel
theorem dX12_init_436 : decode cX12_init 436 = .ok (.putfield 32, 3) := by decide +kernel
theorem dX12_init_439 : decode cX12_init 439 = .ok (.aload_n 0, 1) := by decide +kernel
theorem dX12_init_440 : decode cX12_init 440 = .ok (.bipush 32, 2) := by decide +kernel
theorem dX12_init_442 : decode cX12_init 442 = .ok (.newarray .char, 2) := by decide +kernel
theorem dX12_init_444 : decode cX12_init 444 = .ok (.dup, 1) := by decide +kernel
theorem dX12_init_445 : decode cX12_init 445 = .ok (.iconst 0, 1) := by decide +kernel
theorem dX12_init_446 : decode cX12_init 446 = .ok (.bipush 110, 2) := by decide +kernel
theorem dX12_init_448 : decode cX12_init 448 = .ok (.castore, 1) := by decide +kernel
theorem dX12_init_449 : decode cX12_init 449 = .ok (.dup, 1) := by decide +kernel
theorem dX12_init_450 : decode cX12_init 450 = .ok (.iconst 1, 1) := by decide +kernel
theorem dX12_init_451 : decode cX12_init 451 = .ok (.bipush 101, 2) := by decide +kernel
theorem dX12_init_453 : decode cX12_init 453 = .ok (.castore, 1) := by decide +kernel
theorem dX12_init_454 : decode cX12_init 454 = .ok (.dup, 1) := by decide +kernel
theorem dX12_init_455 : decode cX12_init 455 = .ok (.iconst 2, 1) := by decide +kernel
theorem dX12_init_456 : decode cX12_init 456 = .ok (.bipush 119, 2) := by decide +kernel
theorem dX12_init_458 : decode cX12_init 458 = .ok (.castore, 1) := by decide +kernel
theorem dX12_init_459 : decode cX12_init 459 = .ok (.dup, 1) := by decide +kernel
theorem dX12_init_460 : decode cX12_init 460 = .ok (.iconst 3, 1) := by decide +kernel
theorem dX12_init_461 : decode cX12_init 461 = .ok (.bipush 115, 2) := by decide +kernel
theorem dX12_init_463 : decode cX12_init 463 = .ok (.castore, 1) := by decide +kernel
theorem dX12_init_464 : decode cX12_init 464 = .ok (.dup, 1) := by decide +kernel
theorem dX12_init_465 : decode cX12_init 465 = .ok (.iconst 4, 1) := by decide +kernel
theorem dX12_init_466 : decode cX12_init 466 = .ok (.bipush 32, 2) := by decide +kernel
theorem dX12_init_468 : decode cX12_init 468 = .ok (.castore, 1) := by decide +kernel
theorem dX12_init_469 : decode cX12_init 469 = .ok (.dup, 1) := by decide +kernel
theorem dX12_init_470 : decode cX12_init 470 = .ok (.iconst 5, 1) := by decide +kernel
theorem dX12_init_471 : decode cX12_init 471 = .ok (.bipush 32, 2) := by decide +kernel
theorem dX12_init_473 : decode cX12_init 473 = .ok (.castore, 1) := by decide +kernel
theorem dX12_init_474 : decode cX12_init 474 = .ok (.dup, 1) := by decide +kernel
theorem dX12_init_475 : decode cX12_init 475 = .ok (.bipush 6, 2) := by decide +kernel
theorem dX12_init_477 : decode cX12_init 477 = .ok (.bipush 32, 2) := by decide +kernel
theorem dX12_init_479 : decode cX12_init 479 = .ok (.castore, 1) := by decide +kernel
theorem dX12_init_480 : decode cX12_init 480 = .ok (.dup, 1) := by decide +kernel
theorem dX12_init_481 : decode cX12_init 481 = .ok (.bipush 7, 2) := by decide +kernel
theorem dX12_init_483 : decode cX12_init 483 = .ok (.bipush 32, 2) := by decide +kernel
theorem dX12_init_485 : decode cX12_init 485 = .ok (.castore, 1) := by decide +kernel
theorem dX12_init_486 : decode cX12_init 486 = .ok (.dup, 1) := by decide +kernel
theorem dX12_init_487 : decode cX12_init 487 = .ok (.bipush 8, 2) := by decide +kernel
theorem dX12_init_489 : decode cX12_init 489 = .ok (.bipush 98, 2) := by decide +kernel
theorem dX12_init_491 : decode cX12_init 491 = .ok (.castore, 1) := by decide +kernel
theorem dX12_init_492 : decode cX12_init 492 = .ok (.dup, 1) := by decide +kernel
theorem dX12_init_493 : decode cX12_init 493 = .ok (.bipush 9, 2) := by decide +kernel
theorem dX12_init_495 : decode cX12_init 495 = .ok (.bipush 114, 2) := by decide +kernel
theorem dX12_init_497 : decode cX12_init 497 = .ok (.castore, 1) := by decide +kernel
theorem dX12_init_498 : decode cX12_init 498 = .ok (.dup, 1) := by decide +kernel
theorem dX12_init_499 : decode cX12_init 499 = .ok (.bipush 10, 2) := by decide +kernel
theorem dX12_init_501 : decode cX12_init 501 = .ok (.bipush 111, 2) := by decide +kernel
theorem dX12_init_503 : decode cX12_init 503 = .ok (.castore, 1) := by decide +kernel
theorem dX12_init_504 : decode cX12_init 504 = .ok (.dup, 1) := by decide +kernel
theorem dX12_init_505 : decode cX12_init 505 = .ok (.bipush 11, 2) := by decide +kernel
theorem dX12_init_507 : decode cX12_init 507 = .ok (.bipush 119, 2) := by decide +kernel
theorem dX12_init_509 : decode cX12_init 509 = .ok (.castore, 1) := by decide +kernel
theorem dX12_init_510 : decode cX12_init 510 = .ok (.dup, 1) := by decide +kernel
theorem dX12_init_511 : decode cX12_init 511 = .ok (.bipush 12, 2) := by decide +kernel
theorem dX12_init_513 : decode cX12_init 513 = .ok (.bipush 110, 2) := by decide +kernel
theorem dX12_init_515 : decode cX12_init 515 = .ok (.castore, 1) := by decide +kernel
theorem dX12_init_516 : decode cX12_init 516 = .ok (.dup, 1) := by decide +kernel
theorem dX12_init_517 : decode cX12_init 517 = .ok (.bipush 13, 2) := by decide +kernel
theorem dX12_init_519 : decode cX12_init 519 = .ok (.bipush 32, 2) := by decide +kernel
theorem dX12_init_521 : decode cX12_init 521 = .ok (.castore, 1) := by decide +kernel
theorem dX12_init_522 : decode cX12_init 522 = .ok (.dup, 1) := by decide +kernel
theorem dX12_init_523 : decode cX12_init 523 = .ok (.bipush 14, 2) := by decide +kernel
theorem dX12_init_525 : decode cX12_init 525 = .ok (.bipush 32, 2) := by decide +kernel
theorem dX12_init_527 : decode cX12_init 527 = .ok (.castore, 1) := by decide +kernel
theorem dX12_init_528 : decode cX12_init 528 = .ok (.dup, 1) := by decide +kernel
theorem dX12_init_529 : decode cX12_init 529 = .ok (.bipush 15, 2) := by decide +kernel
theorem dX12_init_531 : decode cX12_init 531 = .ok (.bipush 32, 2) := by decide +kernel
theorem dX12_init_533 : decode cX12_init 533 = .ok (.castore, 1) := by decide +kernel
theorem dX12_init_534 : decode cX12_init 534 = .ok (.dup, 1) := by decide +kernel
theorem dX12_init_535 : decode cX12_init 535 = .ok (.bipush 16, 2) := by decide +kernel
theorem dX12_init_537 : decode cX12_init 537 = .ok (.bipush 116, 2) := by decide +kernel
theorem dX12_init_539 : decode cX12_init 539 = .ok (.castore, 1) := by decide +kernel
theorem dX12_init_540 : decode cX12_init 540 = .ok (.dup, 1) := by decide +kernel
theorem dX12_init_541 : decode cX12_init 541 = .ok (.bipush 17, 2) := by decide +kernel
theorem dX12_init_543 : decode cX12_init 543 = .ok (.bipush 105, 2) := by decide +kernel
theorem dX12_init_545 : decode cX12_init 545 = .ok (.castore, 1) := by decide +kernel
theorem dX12_init_546 : decode cX12_init 546 = .ok (.dup, 1) := by decide +kernel
theorem dX12_init_547 : decode cX12_init 547 = .ok (.bipush 18, 2) := by decide +kernel
theorem dX12_init_549 : decode cX12_init 549 = .ok (.bipush 115, 2) := by decide +kernel
theorem dX12_init_551 : decode cX12_init 551 = .ok (.castore, 1) := by decide +kernel
theorem dX12_init_552 : decode cX12_init 552 = .ok (.dup, 1) := by decide +kernel
theorem dX12_init_553 : decode cX12_init 553 = .ok (.bipush 19, 2) := by decide +kernel
theorem dX12_init_555 : decode cX12_init 555 = .ok (.bipush 115, 2) := by decide +kernel
theorem dX12_init_557 : decode cX12_init 557 = .ok (.castore, 1) := by decide +kernel
theorem dX12_init_558 : decode cX12_init 558 = .ok (.dup, 1) := by decide +kernel
theorem dX12_init_559 : decode cX12_init 559 = .ok (.bipush 20, 2) := by decide +kernel
theorem dX12_init_561 : decode cX12_init 561 = .ok (.bipush 117, 2) := by decide +kernel
theorem dX12_init_563 : decode cX12_init 563 = .ok (.castore, 1) := by decide +kernel
theorem dX12_init_564 : decode cX12_init 564 = .ok (.dup, 1) := by decide +kernel
theorem dX12_init_565 : decode cX12_init 565 = .ok (.bipush 21, 2) := by decide +kernel
theorem dX12_init_567 : decode cX12_init 567 = .ok (.bipush 101, 2) := by decide +kernel
theorem dX12_init_569 : decode cX12_init 569 = .ok (.castore, 1) := by decide +kernel
theorem dX12_init_570 : decode cX12_init 570 = .ok (.dup, 1) := by decide +kernel
theorem dX12_init_571 : decode cX12_init 571 = .ok (.bipush 22, 2) := by decide +kernel
theorem dX12_init_573 : decode cX12_init 573 = .ok (.bipush 32, 2) := by decide +kernel
theorem dX12_init_575 : decode cX12_init 575 = .ok (.castore, 1) := by decide +kernel
theorem dX12_init_576 : decode cX12_init 576 = .ok (.dup, 1) := by decide +kernel
theorem dX12_init_577 : decode cX12_init 577 = .ok (.bipush 23, 2) := by decide +kernel
theorem dX12_init_579 : decode cX12_init 579 = .ok (.bipush 32, 2) := by decide +kernel
theorem dX12_init_581 : decode cX12_init 581 = .ok (.castore, 1) := by decide +kernel
theorem dX12_init_582 : decode cX12_init 582 = .ok (.dup, 1) := by decide +kernel
theorem dX12_init_583 : decode cX12_init 583 = .ok (.bipush 24, 2) := by decide +kernel
theorem dX12_init_585 : decode cX12_init 585 = .ok (.bipush 109, 2) := by decide +kernel
theorem dX12_init_587 : decode cX12_init 587 = .ok (.castore, 1) := by decide +kernel
theorem dX12_init_588 : decode cX12_init 588 = .ok (.dup, 1) := by decide +kernel
theorem dX12_init_589 : decode cX12_init 589 = .ok (.bipush 25, 2) := by decide +kernel
theorem dX12_init_591 : decode cX12_init 591 = .ok (.bipush 97, 2) := by decide +kernel
theorem dX12_init_593 : decode cX12_init 593 = .ok (.castore, 1) := by decide +kernel
theorem dX12_init_594 : decode cX12_init 594 = .ok (.dup, 1) := by decide +kernel
theorem dX12_init_595 : decode cX12_init 595 = .ok (.bipush 26, 2) := by decide +kernel
theorem dX12_init_597 : decode cX12_init 597 = .ok (.bipush 114, 2) := by decide +kernel
theorem dX12_init_599 : decode cX12_init 599 = .ok (.castore, 1) := by decide +kernel
theorem dX12_init_600 : decode cX12_init 600 = .ok (.dup, 1) := by decide +kernel
theorem dX12_init_601 : decode cX12_init 601 = .ok (.bipush 27, 2) := by decide +kernel
theorem dX12_init_603 : decode cX12_init 603 = .ok (.bipush 98, 2) := by decide +kernel
theorem dX12_init_605 : decode cX12_init 605 = .ok (.castore, 1) := by decide +kernel
theorem dX12_init_606 : decode cX12_init 606 = .ok (.dup, 1) := by decide +kernel
theorem dX12_init_607 : decode cX12_init 607 = .ok (.bipush 28, 2) := by decide +kernel
theorem dX12_init_609 : decode cX12_init 609 = .ok (.bipush 108, 2) := by decide +kernel
theorem dX12_init_611 : decode cX12_init 611 = .ok (.castore, 1) := by decide +kernel
theorem dX12_init_612 : decode cX12_init 612 = .ok (.dup, 1) := by decide +kernel
theorem dX12_init_613 : decode cX12_init 613 = .ok (.bipush 29, 2) := by decide +kernel
theorem dX12_init_615 : decode cX12_init 615 = .ok (.bipush 101, 2) := by decide +kernel
theorem dX12_init_617 : decode cX12_init 617 = .ok (.castore, 1) := by decide +kernel
theorem dX12_init_618 : decode cX12_init 618 = .ok (.dup, 1) := by decide +kernel
theorem dX12_init_619 : decode cX12_init 619 = .ok (.bipush 30, 2) := by decide +kernel
theorem dX12_init_621 : decode cX12_init 621 = .ok (.bipush 100, 2) := by decide +kernel
theorem dX12_init_623 : decode cX12_init 623 = .ok (.castore, 1) := by decide +kernel
theorem dX12_init_624 : decode cX12_init 624 = .ok (.dup, 1) := by decide +kernel
theorem dX12_init_625 : decode cX12_init 625 = .ok (.bipush 31, 2) := by decide +kernel
theorem dX12_init_627 : decode cX12_init 627 = .ok (.bipush 32, 2) := by decide +kernel
theorem dX12_init_629 : decode cX12_init 629 = .ok (.castore, 1) := by decide +kernel
theorem dX12_init_630 : decode cX12_init 630 = .ok (.putfield 35, 3) := by decide +kernel
theorem dX12_init_633 : decode cX12_init 633 = .ok (.aload_n 0, 1) := by decide +kernel
theorem dX12_init_634 : decode cX12_init 634 = .ok (.iconst 4, 1) := by decide +kernel
theorem dX12_init_635 : decode cX12_init 635 = .ok (.newarray .int, 2) := by decide +kernel
theorem dX12_init_637 : decode cX12_init 637 = .ok (.putfield 38, 3) := by decide +kernel
theorem dX12_init_640 : decode cX12_init 640 = .ok (.aload_n 0, 1) := by decide +kernel
theorem dX12_init_641 : decode cX12_init 641 = .ok (.iconst 4, 1) := by decide +kernel
theorem dX12_init_642 : decode cX12_init 642 = .ok (.newarray .int, 2) := by decide +kernel
theorem dX12_init_644 : decode cX12_init 644 = .ok (.putfield 41, 3) := by decide +kernel
theorem dX12_init_647 : decode cX12_init 647 = .ok (.aload_n 0, 1) := by decide +kernel
theorem dX12_init_648 : decode cX12_init 648 = .ok (.sipush 160, 3) := by decide +kernel
theorem dX12_init_651 : decode cX12_init 651 = .ok (.newarray .long, 2) := by decide +kernel
theorem dX12_init_653 : decode cX12_init 653 = .ok (.putfield 44, 3) := by decide +kernel
theorem dX12_init_656 : decode cX12_init 656 = .ok (.aload_n 0, 1) := by decide +kernel
theorem dX12_init_657 : decode cX12_init 657 = .ok (.bipush 40, 2) := by decide +kernel
theorem dX12_init_659 : decode cX12_init 659 = .ok (.newarray .long, 2) := by decide +kernel
theorem dX12_init_661 : decode cX12_init 661 = .ok (.putfield 48, 3) := by decide +kernel
theorem dX12_init_664 : decode cX12_init 664 = .ok (.return_, 1) := by decide +kernel
theorem dX12_no_0 : decode cX12_no 0 = .ok (.aload_n 0, 1) := by decide +kernel
theorem dX12_no_1 : decode cX12_no 1 = .ok (.getfield 19, 3) := by decide +kernel
theorem dX12_no_4 : decode cX12_no 4 = .ok (.iload_n 1, 1) := by decide +kernel
theorem dX12_no_5 : decode cX12_no 5 = .ok (.dup2, 1) := by decide +kernel
theorem dX12_no_6 : decode cX12_no 6 = .ok (.iaload, 1) := by decide +kernel
theorem dX12_no_7 : decode cX12_no 7 = .ok (.iconst 1, 1) := by decide +kernel
theorem dX12_no_8 : decode cX12_no 8 = .ok (.iadd, 1) := by decide +kernel
theorem dX12_no_9 : decode cX12_no 9 = .ok (.iastore, 1) := by decide +kernel
theorem dX12_no_10 : decode cX12_no 10 = .ok (.ldc 51, 2) := by decide +kernel
theorem dX12_no_12 : decode cX12_no 12 = .ok (.iload_n 1, 1) := by decide +kernel
theorem dX12_no_13 : decode cX12_no 13 = .ok (.isub, 1) := by decide +kernel
theorem dX12_no_14 : decode cX12_no 14 = .ok (.ireturn, 1) := by decide +kernel
theorem dX12_in1_0 : decode cX12_in1 0 = .ok (.iload_n 0, 1) := by decide +kernel
theorem dX12_in1_1 : decode cX12_in1 1 = .ok (.iload_n 1, 1) := by decide +kernel
theorem dX12_in1_2 : decode cX12_in1 2 = .ok (.if_icmp .lt 12, 3) := by decide +kernel
theorem dX12_in1_5 : decode cX12_in1 5 = .ok (.iload_n 0, 1) := by decide +kernel
theorem dX12_in1_6 : decode cX12_in1 6 = .ok (.iload_n 2, 1) := by decide +kernel
theorem dX12_in1_7 : decode cX12_in1 7 = .ok (.if_icmp .gt 7, 3) := by decide +kernel
theorem dX12_in1_10 : decode cX12_in1 10 = .ok (.iconst 1, 1) := by decide +kernel
theorem dX12_in1_11 : decode cX12_in1 11 = .ok (.goto 4, 3) := by decide +kernel
theorem dX12_in1_14 : decode cX12_in1 14 = .ok (.iconst 0, 1) := by decide +kernel
theorem dX12_in1_15 : decode cX12_in1 15 = .ok (.ireturn, 1) := by decide +kernel
theorem dX12_less_0 : decode cX12_less 0 = .ok (.iload_n 0, 1) := by decide +kernel
theorem dX12_less_1 : decode cX12_less 1 = .ok (.iload_n 1, 1) := by decide +kernel
theorem dX12_less_2 : decode cX12_less 2 = .ok (.if_icmp .ge 7, 3) := by decide +kernel
theorem dX12_less_5 : decode cX12_less 5 = .ok (.iload_n 0, 1) := by decide +kernel
theorem dX12_less_6 : decode cX12_less 6 = .ok (.goto 4, 3) := by decide +kernel
theorem dX12_less_9 : decode cX12_less 9 = .ok (.iload_n 1, 1) := by decide +kernel
theorem dX12_less_10 : decode cX12_less 10 = .ok (.ireturn, 1) := by decide +kernel
theorem dX12_bits_0 : decode cX12_bits 0 = .ok (.iconst 0, 1) := by decide +kernel
theorem dX12_bits_1 : decode cX12_bits 1 = .ok (.istore_n 1, 1) := by decide +kernel
theorem dX12_bits_2 : decode cX12_bits 2 = .ok (.iload_n 0, 1) := by decide +kernel
theorem dX12_bits_3 : decode cX12_bits 3 = .ok (.istore_n 2, 1) := by decide +kernel
theorem dX12_bits_4 : decode cX12_bits 4 = .ok (.iload_n 2, 1) := by decide +kernel
theorem dX12_bits_5 : decode cX12_bits 5 = .ok (.ifCond .eq 15, 3) := by decide +kernel
theorem dX12_bits_8 : decode cX12_bits 8 = .ok (.iinc 1 1, 3) := by decide +kernel
theorem dX12_bits_11 : decode cX12_bits 11 = .ok (.iload_n 2, 1) := by decide +kernel
theorem dX12_bits_12 : decode cX12_bits 12 = .ok (.iload_n 2, 1) := by decide +kernel
theorem dX12_bits_13 : decode cX12_bits 13 = .ok (.iconst 1, 1) := by decide +kernel
theorem dX12_bits_14 : decode cX12_bits 14 = .ok (.isub, 1) := by decide +kernel
theorem dX12_bits_15 : decode cX12_bits 15 = .ok (.iand, 1) := by decide +kernel
theorem dX12_bits_16 : decode cX12_bits 16 = .ok (.istore_n 2, 1) := by decide +kernel
theorem dX12_bits_17 : decode cX12_bits 17 = .ok (.goto (-13), 3) := by decide +kernel
theorem dX12_bits_20 : decode cX12_bits 20 = .ok (.iload_n 1, 1) := by decide +kernel
theorem dX12_bits_21 : decode cX12_bits 21 = .ok (.ireturn, 1) := by decide +kernel
theorem dX12_isPerson_0 : decode cX12_isPerson 0 = .ok (.iload_n 1, 1) := by decide +kernel
theorem dX12_isPerson_1 : decode cX12_isPerson 1 = .ok (.iconst 0, 1) := by decide +kernel
theorem dX12_isPerson_2 : decode cX12_isPerson 2 = .ok (.aload_n 0, 1) := by decide +kernel
theorem dX12_isPerson_3 : decode cX12_isPerson 3 = .ok (.getfield 9, 3) := by decide +kernel
theorem dX12_isPerson_6 : decode cX12_isPerson 6 = .ok (.iconst 1, 1) := by decide +kernel
theorem dX12_isPerson_7 : decode cX12_isPerson 7 = .ok (.iaload, 1) := by decide +kernel
theorem dX12_isPerson_8 : decode cX12_isPerson 8 = .ok (.iconst 1, 1) := by decide +kernel
theorem dX12_isPerson_9 : decode cX12_isPerson 9 = .ok (.isub, 1) := by decide +kernel
theorem dX12_isPerson_10 : decode cX12_isPerson 10 = .ok (.invokestatic 52, 3) := by decide +kernel
theorem dX12_isPerson_13 : decode cX12_isPerson 13 = .ok (.ireturn, 1) := by decide +kernel
theorem dX12_isPresent_0 : decode cX12_isPresent 0 = .ok (.iload_n 1, 1) := by decide +kernel
theorem dX12_isPresent_1 : decode cX12_isPresent 1 = .ok (.iconst 0, 1) := by decide +kernel
theorem dX12_isPresent_2 : decode cX12_isPresent 2 = .ok (.aload_n 0, 1) := by decide +kernel
theorem dX12_isPresent_3 : decode cX12_isPresent 3 = .ok (.getfield 9, 3) := by decide +kernel
theorem dX12_isPresent_6 : decode cX12_isPresent 6 = .ok (.iconst 2, 1) := by decide +kernel
theorem dX12_isPresent_7 : decode cX12_isPresent 7 = .ok (.iaload, 1) := by decide +kernel
theorem dX12_isPresent_8 : decode cX12_isPresent 8 = .ok (.iconst 1, 1) := by decide +kernel
theorem dX12_isPresent_9 : decode cX12_isPresent 9 = .ok (.isub, 1) := by decide +kernel
theorem dX12_isPresent_10 : decode cX12_isPresent 10 = .ok (.invokestatic 52, 3) := by decide +kernel
theorem dX12_isPresent_13 : decode cX12_isPresent 13 = .ok (.ireturn, 1) := by decide +kernel
theorem dX12_get_0 : decode cX12_get 0 = .ok (.aload_n 0, 1) := by decide +kernel
theorem dX12_get_1 : decode cX12_get 1 = .ok (.getfield 9, 3) := by decide +kernel
theorem dX12_get_4 : decode cX12_get 4 = .ok (.iconst 4, 1) := by decide +kernel
theorem dX12_get_5 : decode cX12_get 5 = .ok (.iconst 2, 1) := by decide +kernel
theorem dX12_get_6 : decode cX12_get 6 = .ok (.iload_n 1, 1) := by decide +kernel
theorem dX12_get_7 : decode cX12_get 7 = .ok (.imul, 1) := by decide +kernel
theorem dX12_get_8 : decode cX12_get 8 = .ok (.iadd, 1) := by decide +kernel
theorem dX12_get_9 : decode cX12_get 9 = .ok (.iload_n 2, 1) := by decide +kernel
theorem dX12_get_10 : decode cX12_get 10 = .ok (.iadd, 1) := by decide +kernel
theorem dX12_get_11 : decode cX12_get 11 = .ok (.iaload, 1) := by decide +kernel
theorem dX12_get_12 : decode cX12_get 12 = .ok (.ireturn, 1) := by decide +kernel
theorem dX12_puts_0 : decode cX12_puts 0 = .ok (.aload_n 0, 1) := by decide +kernel
theorem dX12_puts_1 : decode cX12_puts 1 = .ok (.getfield 9, 3) := by decide +kernel
theorem dX12_puts_4 : decode cX12_puts 4 = .ok (.iconst 4, 1) := by decide +kernel
theorem dX12_puts_5 : decode cX12_puts 5 = .ok (.iconst 2, 1) := by decide +kernel
theorem dX12_puts_6 : decode cX12_puts 6 = .ok (.iload_n 1, 1) := by decide +kernel
theorem dX12_puts_7 : decode cX12_puts 7 = .ok (.imul, 1) := by decide +kernel
theorem dX12_puts_8 : decode cX12_puts 8 = .ok (.iadd, 1) := by decide +kernel
theorem dX12_puts_9 : decode cX12_puts 9 = .ok (.iload_n 2, 1) := by decide +kernel
theorem dX12_puts_10 : decode cX12_puts 10 = .ok (.iadd, 1) := by decide +kernel
theorem dX12_puts_11 : decode cX12_puts 11 = .ok (.iload_n 3, 1) := by decide +kernel
theorem dX12_puts_12 : decode cX12_puts 12 = .ok (.iastore, 1) := by decide +kernel
theorem dX12_puts_13 : decode cX12_puts 13 = .ok (.return_, 1) := by decide +kernel
theorem dX12_of1_0 : decode cX12_of1 0 = .ok (.aload_n 0, 1) := by decide +kernel
theorem dX12_of1_1 : decode cX12_of1 1 = .ok (.getfield 9, 3) := by decide +kernel
theorem dX12_of1_4 : decode cX12_of1 4 = .ok (.bipush 16, 2) := by decide +kernel
theorem dX12_of1_6 : decode cX12_of1 6 = .ok (.bipush 10, 2) := by decide +kernel
theorem dX12_of1_8 : decode cX12_of1 8 = .ok (.iload_n 1, 1) := by decide +kernel
theorem dX12_of1_9 : decode cX12_of1 9 = .ok (.imul, 1) := by decide +kernel
theorem dX12_of1_10 : decode cX12_of1 10 = .ok (.iadd, 1) := by decide +kernel
theorem dX12_of1_11 : decode cX12_of1 11 = .ok (.iload_n 2, 1) := by decide +kernel
theorem dX12_of1_12 : decode cX12_of1 12 = .ok (.iadd, 1) := by decide +kernel
theorem dX12_of1_13 : decode cX12_of1 13 = .ok (.iaload, 1) := by decide +kernel
theorem dX12_of1_14 : decode cX12_of1 14 = .ok (.ireturn, 1) := by decide +kernel
theorem dX12_lays1_0 : decode cX12_lays1 0 = .ok (.aload_n 0, 1) := by decide +kernel
theorem dX12_lays1_1 : decode cX12_lays1 1 = .ok (.getfield 9, 3) := by decide +kernel
theorem dX12_lays1_4 : decode cX12_lays1 4 = .ok (.bipush 16, 2) := by decide +kernel
theorem dX12_lays1_6 : decode cX12_lays1 6 = .ok (.bipush 10, 2) := by decide +kernel
theorem dX12_lays1_8 : decode cX12_lays1 8 = .ok (.iload_n 1, 1) := by decide +kernel
theorem dX12_lays1_9 : decode cX12_lays1 9 = .ok (.imul, 1) := by decide +kernel
theorem dX12_lays1_10 : decode cX12_lays1 10 = .ok (.iadd, 1) := by decide +kernel
theorem dX12_lays1_11 : decode cX12_lays1 11 = .ok (.iload_n 2, 1) := by decide +kernel
theorem dX12_lays1_12 : decode cX12_lays1 12 = .ok (.iadd, 1) := by decide +kernel
theorem dX12_lays1_13 : decode cX12_lays1 13 = .ok (.iload_n 3, 1) := by decide +kernel
theorem dX12_lays1_14 : decode cX12_lays1 14 = .ok (.iastore, 1) := by decide +kernel
theorem dX12_lays1_15 : decode cX12_lays1 15 = .ok (.return_, 1) := by decide +kernel
theorem dX12_setsAside_0 : decode cX12_setsAside 0 = .ok (.iconst 0, 1) := by decide +kernel
theorem dX12_setsAside_1 : decode cX12_setsAside 1 = .ok (.istore_n 1, 1) := by decide +kernel
theorem dX12_setsAside_2 : decode cX12_setsAside 2 = .ok (.iload_n 1, 1) := by decide +kernel
theorem dX12_setsAside_3 : decode cX12_setsAside 3 = .ok (.bipush 96, 2) := by decide +kernel
theorem dX12_setsAside_5 : decode cX12_setsAside 5 = .ok (.if_icmp .ge 21, 3) := by decide +kernel
theorem dX12_setsAside_8 : decode cX12_setsAside 8 = .ok (.aload_n 0, 1) := by decide +kernel
theorem dX12_setsAside_9 : decode cX12_setsAside 9 = .ok (.getfield 16, 3) := by decide +kernel
theorem dX12_setsAside_12 : decode cX12_setsAside 12 = .ok (.iload_n 1, 1) := by decide +kernel
theorem dX12_setsAside_13 : decode cX12_setsAside 13 = .ok (.aload_n 0, 1) := by decide +kernel
theorem dX12_setsAside_14 : decode cX12_setsAside 14 = .ok (.getfield 9, 3) := by decide +kernel
theorem dX12_setsAside_17 : decode cX12_setsAside 17 = .ok (.iload_n 1, 1) := by decide +kernel
theorem dX12_setsAside_18 : decode cX12_setsAside 18 = .ok (.iaload, 1) := by decide +kernel
theorem dX12_setsAside_19 : decode cX12_setsAside 19 = .ok (.iastore, 1) := by decide +kernel
theorem dX12_setsAside_20 : decode cX12_setsAside 20 = .ok (.iinc 1 1, 3) := by decide +kernel
theorem dX12_setsAside_23 : decode cX12_setsAside 23 = .ok (.goto (-21), 3) := by decide +kernel
theorem dX12_setsAside_26 : decode cX12_setsAside 26 = .ok (.return_, 1) := by decide +kernel
theorem dX12_laysBack_0 : decode cX12_laysBack 0 = .ok (.iconst 0, 1) := by decide +kernel
theorem dX12_laysBack_1 : decode cX12_laysBack 1 = .ok (.istore_n 1, 1) := by decide +kernel
theorem dX12_laysBack_2 : decode cX12_laysBack 2 = .ok (.iload_n 1, 1) := by decide +kernel
theorem dX12_laysBack_3 : decode cX12_laysBack 3 = .ok (.bipush 96, 2) := by decide +kernel
theorem dX12_laysBack_5 : decode cX12_laysBack 5 = .ok (.if_icmp .ge 21, 3) := by decide +kernel
theorem dX12_laysBack_8 : decode cX12_laysBack 8 = .ok (.aload_n 0, 1) := by decide +kernel
theorem dX12_laysBack_9 : decode cX12_laysBack 9 = .ok (.getfield 9, 3) := by decide +kernel
theorem dX12_laysBack_12 : decode cX12_laysBack 12 = .ok (.iload_n 1, 1) := by decide +kernel
theorem dX12_laysBack_13 : decode cX12_laysBack 13 = .ok (.aload_n 0, 1) := by decide +kernel
theorem dX12_laysBack_14 : decode cX12_laysBack 14 = .ok (.getfield 16, 3) := by decide +kernel
theorem dX12_laysBack_17 : decode cX12_laysBack 17 = .ok (.iload_n 1, 1) := by decide +kernel
theorem dX12_laysBack_18 : decode cX12_laysBack 18 = .ok (.iaload, 1) := by decide +kernel
theorem dX12_laysBack_19 : decode cX12_laysBack 19 = .ok (.iastore, 1) := by decide +kernel
theorem dX12_laysBack_20 : decode cX12_laysBack 20 = .ok (.iinc 1 1, 3) := by decide +kernel
theorem dX12_laysBack_23 : decode cX12_laysBack 23 = .ok (.goto (-21), 3) := by decide +kernel
theorem dX12_laysBack_26 : decode cX12_laysBack 26 = .ok (.return_, 1) := by decide +kernel
theorem dX12_addsLayer_0 : decode cX12_addsLayer 0 = .ok (.aload_n 0, 1) := by decide +kernel
theorem dX12_addsLayer_1 : decode cX12_addsLayer 1 = .ok (.iload_n 1, 1) := by decide +kernel
theorem dX12_addsLayer_2 : decode cX12_addsLayer 2 = .ok (.iconst 0, 1) := by decide +kernel
theorem dX12_addsLayer_3 : decode cX12_addsLayer 3 = .ok (.invokevirtual 56, 3) := by decide +kernel
theorem dX12_addsLayer_6 : decode cX12_addsLayer 6 = .ok (.istore_n 3, 1) := by decide +kernel
theorem dX12_addsLayer_7 : decode cX12_addsLayer 7 = .ok (.iload_n 3, 1) := by decide +kernel
theorem dX12_addsLayer_8 : decode cX12_addsLayer 8 = .ok (.ifCond .le 27, 3) := by decide +kernel
theorem dX12_addsLayer_11 : decode cX12_addsLayer 11 = .ok (.aload_n 0, 1) := by decide +kernel
theorem dX12_addsLayer_12 : decode cX12_addsLayer 12 = .ok (.iload_n 1, 1) := by decide +kernel
theorem dX12_addsLayer_13 : decode cX12_addsLayer 13 = .ok (.iconst 4, 1) := by decide +kernel
theorem dX12_addsLayer_14 : decode cX12_addsLayer 14 = .ok (.iload_n 3, 1) := by decide +kernel
theorem dX12_addsLayer_15 : decode cX12_addsLayer 15 = .ok (.iadd, 1) := by decide +kernel
theorem dX12_addsLayer_16 : decode cX12_addsLayer 16 = .ok (.aload_n 0, 1) := by decide +kernel
theorem dX12_addsLayer_17 : decode cX12_addsLayer 17 = .ok (.iload_n 1, 1) := by decide +kernel
theorem dX12_addsLayer_18 : decode cX12_addsLayer 18 = .ok (.iconst 4, 1) := by decide +kernel
theorem dX12_addsLayer_19 : decode cX12_addsLayer 19 = .ok (.iload_n 3, 1) := by decide +kernel
theorem dX12_addsLayer_20 : decode cX12_addsLayer 20 = .ok (.iadd, 1) := by decide +kernel
theorem dX12_addsLayer_21 : decode cX12_addsLayer 21 = .ok (.iconst 1, 1) := by decide +kernel
theorem dX12_addsLayer_22 : decode cX12_addsLayer 22 = .ok (.isub, 1) := by decide +kernel
theorem dX12_addsLayer_23 : decode cX12_addsLayer 23 = .ok (.invokevirtual 56, 3) := by decide +kernel
theorem dX12_addsLayer_26 : decode cX12_addsLayer 26 = .ok (.invokevirtual 60, 3) := by decide +kernel
theorem dX12_addsLayer_29 : decode cX12_addsLayer 29 = .ok (.iinc 3 (-1), 3) := by decide +kernel
theorem dX12_addsLayer_32 : decode cX12_addsLayer 32 = .ok (.goto (-25), 3) := by decide +kernel
theorem dX12_addsLayer_35 : decode cX12_addsLayer 35 = .ok (.aload_n 0, 1) := by decide +kernel
theorem dX12_addsLayer_36 : decode cX12_addsLayer 36 = .ok (.iload_n 1, 1) := by decide +kernel
theorem dX12_addsLayer_37 : decode cX12_addsLayer 37 = .ok (.iconst 4, 1) := by decide +kernel
theorem dX12_addsLayer_38 : decode cX12_addsLayer 38 = .ok (.iload_n 2, 1) := by decide +kernel
theorem dX12_addsLayer_39 : decode cX12_addsLayer 39 = .ok (.invokevirtual 60, 3) := by decide +kernel
theorem dX12_addsLayer_42 : decode cX12_addsLayer 42 = .ok (.aload_n 0, 1) := by decide +kernel
theorem dX12_addsLayer_43 : decode cX12_addsLayer 43 = .ok (.iload_n 1, 1) := by decide +kernel
theorem dX12_addsLayer_44 : decode cX12_addsLayer 44 = .ok (.iconst 0, 1) := by decide +kernel
theorem dX12_addsLayer_45 : decode cX12_addsLayer 45 = .ok (.aload_n 0, 1) := by decide +kernel
theorem dX12_addsLayer_46 : decode cX12_addsLayer 46 = .ok (.iload_n 1, 1) := by decide +kernel
theorem dX12_addsLayer_47 : decode cX12_addsLayer 47 = .ok (.iconst 0, 1) := by decide +kernel
theorem dX12_addsLayer_48 : decode cX12_addsLayer 48 = .ok (.invokevirtual 56, 3) := by decide +kernel
theorem dX12_addsLayer_51 : decode cX12_addsLayer 51 = .ok (.iconst 1, 1) := by decide +kernel
theorem dX12_addsLayer_52 : decode cX12_addsLayer 52 = .ok (.iadd, 1) := by decide +kernel
theorem dX12_addsLayer_53 : decode cX12_addsLayer 53 = .ok (.invokevirtual 60, 3) := by decide +kernel
theorem dX12_addsLayer_56 : decode cX12_addsLayer 56 = .ok (.return_, 1) := by decide +kernel
theorem dX12_takesLayer_0 : decode cX12_takesLayer 0 = .ok (.aload_n 0, 1) := by decide +kernel
theorem dX12_takesLayer_1 : decode cX12_takesLayer 1 = .ok (.iload_n 1, 1) := by decide +kernel
theorem dX12_takesLayer_2 : decode cX12_takesLayer 2 = .ok (.iconst 4, 1) := by decide +kernel
theorem dX12_takesLayer_3 : decode cX12_takesLayer 3 = .ok (.invokevirtual 56, 3) := by decide +kernel
theorem dX12_takesLayer_6 : decode cX12_takesLayer 6 = .ok (.istore_n 2, 1) := by decide +kernel
theorem dX12_takesLayer_7 : decode cX12_takesLayer 7 = .ok (.aload_n 0, 1) := by decide +kernel
theorem dX12_takesLayer_8 : decode cX12_takesLayer 8 = .ok (.iload_n 1, 1) := by decide +kernel
theorem dX12_takesLayer_9 : decode cX12_takesLayer 9 = .ok (.iconst 0, 1) := by decide +kernel
theorem dX12_takesLayer_10 : decode cX12_takesLayer 10 = .ok (.aload_n 0, 1) := by decide +kernel
theorem dX12_takesLayer_11 : decode cX12_takesLayer 11 = .ok (.iload_n 1, 1) := by decide +kernel
theorem dX12_takesLayer_12 : decode cX12_takesLayer 12 = .ok (.iconst 0, 1) := by decide +kernel
theorem dX12_takesLayer_13 : decode cX12_takesLayer 13 = .ok (.invokevirtual 56, 3) := by decide +kernel
theorem dX12_takesLayer_16 : decode cX12_takesLayer 16 = .ok (.iconst 1, 1) := by decide +kernel
theorem dX12_takesLayer_17 : decode cX12_takesLayer 17 = .ok (.isub, 1) := by decide +kernel
theorem dX12_takesLayer_18 : decode cX12_takesLayer 18 = .ok (.invokevirtual 60, 3) := by decide +kernel
theorem dX12_takesLayer_21 : decode cX12_takesLayer 21 = .ok (.iconst 0, 1) := by decide +kernel
theorem dX12_takesLayer_22 : decode cX12_takesLayer 22 = .ok (.istore_n 3, 1) := by decide +kernel
theorem dX12_takesLayer_23 : decode cX12_takesLayer 23 = .ok (.iload_n 3, 1) := by decide +kernel
theorem dX12_takesLayer_24 : decode cX12_takesLayer 24 = .ok (.aload_n 0, 1) := by decide +kernel
theorem dX12_takesLayer_25 : decode cX12_takesLayer 25 = .ok (.iload_n 1, 1) := by decide +kernel
theorem dX12_takesLayer_26 : decode cX12_takesLayer 26 = .ok (.iconst 0, 1) := by decide +kernel
theorem dX12_takesLayer_27 : decode cX12_takesLayer 27 = .ok (.invokevirtual 56, 3) := by decide +kernel
theorem dX12_takesLayer_30 : decode cX12_takesLayer 30 = .ok (.if_icmp .ge 27, 3) := by decide +kernel
theorem dX12_takesLayer_33 : decode cX12_takesLayer 33 = .ok (.aload_n 0, 1) := by decide +kernel
theorem dX12_takesLayer_34 : decode cX12_takesLayer 34 = .ok (.iload_n 1, 1) := by decide +kernel
theorem dX12_takesLayer_35 : decode cX12_takesLayer 35 = .ok (.iconst 4, 1) := by decide +kernel
theorem dX12_takesLayer_36 : decode cX12_takesLayer 36 = .ok (.iload_n 3, 1) := by decide +kernel
theorem dX12_takesLayer_37 : decode cX12_takesLayer 37 = .ok (.iadd, 1) := by decide +kernel
theorem dX12_takesLayer_38 : decode cX12_takesLayer 38 = .ok (.aload_n 0, 1) := by decide +kernel
theorem dX12_takesLayer_39 : decode cX12_takesLayer 39 = .ok (.iload_n 1, 1) := by decide +kernel
theorem dX12_takesLayer_40 : decode cX12_takesLayer 40 = .ok (.iconst 4, 1) := by decide +kernel
theorem dX12_takesLayer_41 : decode cX12_takesLayer 41 = .ok (.iload_n 3, 1) := by decide +kernel
theorem dX12_takesLayer_42 : decode cX12_takesLayer 42 = .ok (.iadd, 1) := by decide +kernel
theorem dX12_takesLayer_43 : decode cX12_takesLayer 43 = .ok (.iconst 1, 1) := by decide +kernel
theorem dX12_takesLayer_44 : decode cX12_takesLayer 44 = .ok (.iadd, 1) := by decide +kernel
theorem dX12_takesLayer_45 : decode cX12_takesLayer 45 = .ok (.invokevirtual 56, 3) := by decide +kernel
theorem dX12_takesLayer_48 : decode cX12_takesLayer 48 = .ok (.invokevirtual 60, 3) := by decide +kernel
theorem dX12_takesLayer_51 : decode cX12_takesLayer 51 = .ok (.iinc 3 1, 3) := by decide +kernel
theorem dX12_takesLayer_54 : decode cX12_takesLayer 54 = .ok (.goto (-31), 3) := by decide +kernel
theorem dX12_takesLayer_57 : decode cX12_takesLayer 57 = .ok (.iload_n 2, 1) := by decide +kernel
theorem dX12_takesLayer_58 : decode cX12_takesLayer 58 = .ok (.ireturn, 1) := by decide +kernel
theorem dX12_opensOf_0 : decode cX12_opensOf 0 = .ok (.aload_n 0, 1) := by decide +kernel
theorem dX12_opensOf_1 : decode cX12_opensOf 1 = .ok (.iload_n 2, 1) := by decide +kernel
theorem dX12_opensOf_2 : decode cX12_opensOf 2 = .ok (.iconst 0, 1) := by decide +kernel
theorem dX12_opensOf_3 : decode cX12_opensOf 3 = .ok (.invokevirtual 56, 3) := by decide +kernel
theorem dX12_opensOf_6 : decode cX12_opensOf 6 = .ok (.istore_n 3, 1) := by decide +kernel
theorem dX12_opensOf_7 : decode cX12_opensOf 7 = .ok (.aload_n 0, 1) := by decide +kernel
theorem dX12_opensOf_8 : decode cX12_opensOf 8 = .ok (.iload_n 1, 1) := by decide +kernel
theorem dX12_opensOf_9 : decode cX12_opensOf 9 = .ok (.iconst 0, 1) := by decide +kernel
theorem dX12_opensOf_10 : decode cX12_opensOf 10 = .ok (.invokevirtual 64, 3) := by decide +kernel
theorem dX12_opensOf_13 : decode cX12_opensOf 13 = .ok (.tableswitch 86 1 5 #[35, 37, 43, 63, 65], 35) := by decide +kernel
theorem dX12_opensOf_48 : decode cX12_opensOf 48 = .ok (.iconst 0, 1) := by decide +kernel
theorem dX12_opensOf_49 : decode cX12_opensOf 49 = .ok (.ireturn, 1) := by decide +kernel
theorem dX12_opensOf_50 : decode cX12_opensOf 50 = .ok (.iconst 2, 1) := by decide +kernel
theorem dX12_opensOf_51 : decode cX12_opensOf 51 = .ok (.iload_n 3, 1) := by decide +kernel
theorem dX12_opensOf_52 : decode cX12_opensOf 52 = .ok (.invokestatic 67, 3) := by decide +kernel
theorem dX12_opensOf_55 : decode cX12_opensOf 55 = .ok (.ireturn, 1) := by decide +kernel
theorem dX12_opensOf_56 : decode cX12_opensOf 56 = .ok (.iload_n 3, 1) := by decide +kernel
theorem dX12_opensOf_57 : decode cX12_opensOf 57 = .ok (.ifCond .eq 13, 3) := by decide +kernel
theorem dX12_opensOf_60 : decode cX12_opensOf 60 = .ok (.aload_n 0, 1) := by decide +kernel
theorem dX12_opensOf_61 : decode cX12_opensOf 61 = .ok (.iload_n 2, 1) := by decide +kernel
theorem dX12_opensOf_62 : decode cX12_opensOf 62 = .ok (.iconst 4, 1) := by decide +kernel
theorem dX12_opensOf_63 : decode cX12_opensOf 63 = .ok (.invokevirtual 56, 3) := by decide +kernel
theorem dX12_opensOf_66 : decode cX12_opensOf 66 = .ok (.iconst 3, 1) := by decide +kernel
theorem dX12_opensOf_67 : decode cX12_opensOf 67 = .ok (.if_icmp .ne 7, 3) := by decide +kernel
theorem dX12_opensOf_70 : decode cX12_opensOf 70 = .ok (.iconst 0, 1) := by decide +kernel
theorem dX12_opensOf_71 : decode cX12_opensOf 71 = .ok (.goto 4, 3) := by decide +kernel
theorem dX12_opensOf_74 : decode cX12_opensOf 74 = .ok (.iconst 1, 1) := by decide +kernel
theorem dX12_opensOf_75 : decode cX12_opensOf 75 = .ok (.ireturn, 1) := by decide +kernel
theorem dX12_opensOf_76 : decode cX12_opensOf 76 = .ok (.iload_n 3, 1) := by decide +kernel
theorem dX12_opensOf_77 : decode cX12_opensOf 77 = .ok (.ireturn, 1) := by decide +kernel
theorem dX12_opensOf_78 : decode cX12_opensOf 78 = .ok (.aload_n 0, 1) := by decide +kernel
theorem dX12_opensOf_79 : decode cX12_opensOf 79 = .ok (.getfield 9, 3) := by decide +kernel
theorem dX12_opensOf_82 : decode cX12_opensOf 82 = .ok (.iconst 0, 1) := by decide +kernel
theorem dX12_opensOf_83 : decode cX12_opensOf 83 = .ok (.iaload, 1) := by decide +kernel
theorem dX12_opensOf_84 : decode cX12_opensOf 84 = .ok (.iconst 5, 1) := by decide +kernel
theorem dX12_opensOf_85 : decode cX12_opensOf 85 = .ok (.irem, 1) := by decide +kernel
theorem dX12_opensOf_86 : decode cX12_opensOf 86 = .ok (.ifCond .ne 11, 3) := by decide +kernel
theorem dX12_opensOf_89 : decode cX12_opensOf 89 = .ok (.iconst 1, 1) := by decide +kernel
theorem dX12_opensOf_90 : decode cX12_opensOf 90 = .ok (.iload_n 3, 1) := by decide +kernel
theorem dX12_opensOf_91 : decode cX12_opensOf 91 = .ok (.invokestatic 67, 3) := by decide +kernel
theorem dX12_opensOf_94 : decode cX12_opensOf 94 = .ok (.goto 4, 3) := by decide +kernel
theorem dX12_opensOf_97 : decode cX12_opensOf 97 = .ok (.iconst 0, 1) := by decide +kernel
theorem dX12_opensOf_98 : decode cX12_opensOf 98 = .ok (.ireturn, 1) := by decide +kernel
theorem dX12_opensOf_99 : decode cX12_opensOf 99 = .ok (.iconst 1, 1) := by decide +kernel
theorem dX12_opensOf_100 : decode cX12_opensOf 100 = .ok (.iload_n 3, 1) := by decide +kernel
theorem dX12_opensOf_101 : decode cX12_opensOf 101 = .ok (.invokestatic 67, 3) := by decide +kernel
theorem dX12_opensOf_104 : decode cX12_opensOf 104 = .ok (.ireturn, 1) := by decide +kernel
theorem dX12_enjoysOf_0 : decode cX12_enjoysOf 0 = .ok (.aload_n 0, 1) := by decide +kernel
theorem dX12_enjoysOf_1 : decode cX12_enjoysOf 1 = .ok (.iload_n 1, 1) := by decide +kernel
theorem dX12_enjoysOf_2 : decode cX12_enjoysOf 2 = .ok (.iconst 0, 1) := by decide +kernel
theorem dX12_enjoysOf_3 : decode cX12_enjoysOf 3 = .ok (.invokevirtual 64, 3) := by decide +kernel
theorem dX12_enjoysOf_6 : decode cX12_enjoysOf 6 = .ok (.tableswitch 63 1 5 #[34, 40, 42, 55, 57], 34) := by decide +kernel
theorem dX12_enjoysOf_40 : decode cX12_enjoysOf 40 = .ok (.iconst 2, 1) := by decide +kernel
theorem dX12_enjoysOf_41 : decode cX12_enjoysOf 41 = .ok (.iload_n 2, 1) := by decide +kernel
theorem dX12_enjoysOf_42 : decode cX12_enjoysOf 42 = .ok (.imul, 1) := by decide +kernel
theorem dX12_enjoysOf_43 : decode cX12_enjoysOf 43 = .ok (.iconst 2, 1) := by decide +kernel
theorem dX12_enjoysOf_44 : decode cX12_enjoysOf 44 = .ok (.iadd, 1) := by decide +kernel
theorem dX12_enjoysOf_45 : decode cX12_enjoysOf 45 = .ok (.ireturn, 1) := by decide +kernel
theorem dX12_enjoysOf_46 : decode cX12_enjoysOf 46 = .ok (.iload_n 2, 1) := by decide +kernel
theorem dX12_enjoysOf_47 : decode cX12_enjoysOf 47 = .ok (.ireturn, 1) := by decide +kernel
theorem dX12_enjoysOf_48 : decode cX12_enjoysOf 48 = .ok (.iload_n 2, 1) := by decide +kernel
theorem dX12_enjoysOf_49 : decode cX12_enjoysOf 49 = .ok (.ifCond .ne 8, 3) := by decide +kernel
