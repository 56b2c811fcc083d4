theorem dX0_init_0 : decode cX0_init 0 = .ok (.aload_n 0, 1) := by decide +kernel
theorem dX0_init_1 : decode cX0_init 1 = .ok (.invokespecial 1, 3) := by decide +kernel
theorem dX0_init_4 : decode cX0_init 4 = .ok (.return_, 1) := by decide +kernel
theorem dX0_opens_0 : decode cX0_opens 0 = .ok (.iconst 0, 1) := by decide +kernel
theorem dX0_opens_1 : decode cX0_opens 1 = .ok (.ireturn, 1) := by decide +kernel
theorem dX0_enjoys_0 : decode cX0_enjoys 0 = .ok (.iconst 2, 1) := by decide +kernel
theorem dX0_enjoys_1 : decode cX0_enjoys 1 = .ok (.aload_n 0, 1) := by decide +kernel
theorem dX0_enjoys_2 : decode cX0_enjoys 2 = .ok (.iload_n 1, 1) := by decide +kernel
theorem dX0_enjoys_3 : decode cX0_enjoys 3 = .ok (.invokespecial 7, 3) := by decide +kernel
theorem dX0_enjoys_6 : decode cX0_enjoys 6 = .ok (.imul, 1) := by decide +kernel
theorem dX0_enjoys_7 : decode cX0_enjoys 7 = .ok (.ireturn, 1) := by decide +kernel
theorem dX0_isStruck_0 : decode cX0_isStruck 0 = .ok (.iload_n 1, 1) := by decide +kernel
theorem dX0_isStruck_1 : decode cX0_isStruck 1 = .ok (.ifCond .le 7, 3) := by decide +kernel
theorem dX0_isStruck_4 : decode cX0_isStruck 4 = .ok (.iconst 0, 1) := by decide +kernel
theorem dX0_isStruck_5 : decode cX0_isStruck 5 = .ok (.goto 4, 3) := by decide +kernel
theorem dX0_isStruck_8 : decode cX0_isStruck 8 = .ok (.iconst 5, 1) := by decide +kernel
theorem dX0_isStruck_9 : decode cX0_isStruck 9 = .ok (.ireturn, 1) := by decide +kernel
theorem dX0_passesOn_0 : decode cX0_passesOn 0 = .ok (.iload_n 1, 1) := by decide +kernel
theorem dX0_passesOn_1 : decode cX0_passesOn 1 = .ok (.bipush 6, 2) := by decide +kernel
theorem dX0_passesOn_3 : decode cX0_passesOn 3 = .ok (.if_icmp .ne 12, 3) := by decide +kernel
theorem dX0_passesOn_6 : decode cX0_passesOn 6 = .ok (.aload_n 0, 1) := by decide +kernel
theorem dX0_passesOn_7 : decode cX0_passesOn 7 = .ok (.iload_n 1, 1) := by decide +kernel
theorem dX0_passesOn_8 : decode cX0_passesOn 8 = .ok (.iload_n 2, 1) := by decide +kernel
theorem dX0_passesOn_9 : decode cX0_passesOn 9 = .ok (.invokespecial 11, 3) := by decide +kernel
theorem dX0_passesOn_12 : decode cX0_passesOn 12 = .ok (.goto 4, 3) := by decide +kernel
theorem dX0_passesOn_15 : decode cX0_passesOn 15 = .ok (.iconst (-1), 1) := by decide +kernel
theorem dX0_passesOn_16 : decode cX0_passesOn 16 = .ok (.ireturn, 1) := by decide +kernel
theorem dX1_init_0 : decode cX1_init 0 = .ok (.aload_n 0, 1) := by decide +kernel
theorem dX1_init_1 : decode cX1_init 1 = .ok (.invokespecial 1, 3) := by decide +kernel
theorem dX1_init_4 : decode cX1_init 4 = .ok (.return_, 1) := by decide +kernel
theorem dX1_opens_0 : decode cX1_opens 0 = .ok (.iconst 2, 1) := by decide +kernel
theorem dX1_opens_1 : decode cX1_opens 1 = .ok (.aload_n 0, 1) := by decide +kernel
theorem dX1_opens_2 : decode cX1_opens 2 = .ok (.iload_n 1, 1) := by decide +kernel
theorem dX1_opens_3 : decode cX1_opens 3 = .ok (.iload_n 2, 1) := by decide +kernel
theorem dX1_opens_4 : decode cX1_opens 4 = .ok (.iload_n 3, 1) := by decide +kernel
theorem dX1_opens_5 : decode cX1_opens 5 = .ok (.invokespecial 7, 3) := by decide +kernel
theorem dX1_opens_8 : decode cX1_opens 8 = .ok (.imul, 1) := by decide +kernel
theorem dX1_opens_9 : decode cX1_opens 9 = .ok (.ireturn, 1) := by decide +kernel
theorem dX1_enjoys_0 : decode cX1_enjoys 0 = .ok (.aload_n 0, 1) := by decide +kernel
theorem dX1_enjoys_1 : decode cX1_enjoys 1 = .ok (.iload_n 1, 1) := by decide +kernel
theorem dX1_enjoys_2 : decode cX1_enjoys 2 = .ok (.invokespecial 11, 3) := by decide +kernel
theorem dX1_enjoys_5 : decode cX1_enjoys 5 = .ok (.iconst 1, 1) := by decide +kernel
theorem dX1_enjoys_6 : decode cX1_enjoys 6 = .ok (.isub, 1) := by decide +kernel
theorem dX1_enjoys_7 : decode cX1_enjoys 7 = .ok (.ireturn, 1) := by decide +kernel
theorem dX1_isStruck_0 : decode cX1_isStruck 0 = .ok (.iload_n 1, 1) := by decide +kernel
theorem dX1_isStruck_1 : decode cX1_isStruck 1 = .ok (.ifCond .ne 7, 3) := by decide +kernel
theorem dX1_isStruck_4 : decode cX1_isStruck 4 = .ok (.iconst 0, 1) := by decide +kernel
theorem dX1_isStruck_5 : decode cX1_isStruck 5 = .ok (.goto 10, 3) := by decide +kernel
theorem dX1_isStruck_8 : decode cX1_isStruck 8 = .ok (.iconst 2, 1) := by decide +kernel
theorem dX1_isStruck_9 : decode cX1_isStruck 9 = .ok (.aload_n 0, 1) := by decide +kernel
theorem dX1_isStruck_10 : decode cX1_isStruck 10 = .ok (.iload_n 1, 1) := by decide +kernel
theorem dX1_isStruck_11 : decode cX1_isStruck 11 = .ok (.invokespecial 15, 3) := by decide +kernel
theorem dX1_isStruck_14 : decode cX1_isStruck 14 = .ok (.imul, 1) := by decide +kernel
theorem dX1_isStruck_15 : decode cX1_isStruck 15 = .ok (.ireturn, 1) := by decide +kernel
theorem dX1_passesOn_0 : decode cX1_passesOn 0 = .ok (.iconst (-1), 1) := by decide +kernel
theorem dX1_passesOn_1 : decode cX1_passesOn 1 = .ok (.ireturn, 1) := by decide +kernel
theorem dX2_init_0 : decode cX2_init 0 = .ok (.aload_n 0, 1) := by decide +kernel
theorem dX2_init_1 : decode cX2_init 1 = .ok (.invokespecial 1, 3) := by decide +kernel
theorem dX2_init_4 : decode cX2_init 4 = .ok (.return_, 1) := by decide +kernel
theorem dX2_opens_0 : decode cX2_opens 0 = .ok (.iload_n 1, 1) := by decide +kernel
theorem dX2_opens_1 : decode cX2_opens 1 = .ok (.iconst 5, 1) := by decide +kernel
theorem dX2_opens_2 : decode cX2_opens 2 = .ok (.irem, 1) := by decide +kernel
theorem dX2_opens_3 : decode cX2_opens 3 = .ok (.ifCond .ne 7, 3) := by decide +kernel
theorem dX2_opens_6 : decode cX2_opens 6 = .ok (.iconst 1, 1) := by decide +kernel
theorem dX2_opens_7 : decode cX2_opens 7 = .ok (.goto 10, 3) := by decide +kernel
theorem dX2_opens_10 : decode cX2_opens 10 = .ok (.aload_n 0, 1) := by decide +kernel
theorem dX2_opens_11 : decode cX2_opens 11 = .ok (.iload_n 1, 1) := by decide +kernel
theorem dX2_opens_12 : decode cX2_opens 12 = .ok (.iload_n 2, 1) := by decide +kernel
theorem dX2_opens_13 : decode cX2_opens 13 = .ok (.iload_n 3, 1) := by decide +kernel
theorem dX2_opens_14 : decode cX2_opens 14 = .ok (.invokespecial 7, 3) := by decide +kernel
theorem dX2_opens_17 : decode cX2_opens 17 = .ok (.ireturn, 1) := by decide +kernel
theorem dX2_enjoys_0 : decode cX2_enjoys 0 = .ok (.aload_n 0, 1) := by decide +kernel
theorem dX2_enjoys_1 : decode cX2_enjoys 1 = .ok (.iload_n 1, 1) := by decide +kernel
theorem dX2_enjoys_2 : decode cX2_enjoys 2 = .ok (.invokespecial 11, 3) := by decide +kernel
theorem dX2_enjoys_5 : decode cX2_enjoys 5 = .ok (.iconst 1, 1) := by decide +kernel
theorem dX2_enjoys_6 : decode cX2_enjoys 6 = .ok (.isub, 1) := by decide +kernel
theorem dX2_enjoys_7 : decode cX2_enjoys 7 = .ok (.ireturn, 1) := by decide +kernel
theorem dX2_isStruck_0 : decode cX2_isStruck 0 = .ok (.aload_n 0, 1) := by decide +kernel
theorem dX2_isStruck_1 : decode cX2_isStruck 1 = .ok (.iload_n 1, 1) := by decide +kernel
theorem dX2_isStruck_2 : decode cX2_isStruck 2 = .ok (.invokespecial 15, 3) := by decide +kernel
theorem dX2_isStruck_5 : decode cX2_isStruck 5 = .ok (.iload_n 1, 1) := by decide +kernel
theorem dX2_isStruck_6 : decode cX2_isStruck 6 = .ok (.iconst 2, 1) := by decide +kernel
theorem dX2_isStruck_7 : decode cX2_isStruck 7 = .ok (.idiv, 1) := by decide +kernel
theorem dX2_isStruck_8 : decode cX2_isStruck 8 = .ok (.iadd, 1) := by decide +kernel
theorem dX2_isStruck_9 : decode cX2_isStruck 9 = .ok (.ireturn, 1) := by decide +kernel
theorem dX2_passesOn_0 : decode cX2_passesOn 0 = .ok (.iload_n 1, 1) := by decide +kernel
theorem dX2_passesOn_1 : decode cX2_passesOn 1 = .ok (.iconst 2, 1) := by decide +kernel
theorem dX2_passesOn_2 : decode cX2_passesOn 2 = .ok (.if_icmp .lt 7, 3) := by decide +kernel
theorem dX2_passesOn_5 : decode cX2_passesOn 5 = .ok (.iload_n 2, 1) := by decide +kernel
theorem dX2_passesOn_6 : decode cX2_passesOn 6 = .ok (.goto 4, 3) := by decide +kernel
theorem dX2_passesOn_9 : decode cX2_passesOn 9 = .ok (.iconst (-1), 1) := by decide +kernel
theorem dX2_passesOn_10 : decode cX2_passesOn 10 = .ok (.ireturn, 1) := by decide +kernel
theorem dX3_init_0 : decode cX3_init 0 = .ok (.aload_n 0, 1) := by decide +kernel
theorem dX3_init_1 : decode cX3_init 1 = .ok (.invokespecial 1, 3) := by decide +kernel
theorem dX3_init_4 : decode cX3_init 4 = .ok (.return_, 1) := by decide +kernel
theorem dX3_opens_0 : decode cX3_opens 0 = .ok (.iload_n 2, 1) := by decide +kernel
theorem dX3_opens_1 : decode cX3_opens 1 = .ok (.ireturn, 1) := by decide +kernel
theorem dX3_enjoys_0 : decode cX3_enjoys 0 = .ok (.iconst 0, 1) := by decide +kernel
theorem dX3_enjoys_1 : decode cX3_enjoys 1 = .ok (.ireturn, 1) := by decide +kernel
theorem dX3_isStruck_0 : decode cX3_isStruck 0 = .ok (.aload_n 0, 1) := by decide +kernel
theorem dX3_isStruck_1 : decode cX3_isStruck 1 = .ok (.iload_n 1, 1) := by decide +kernel
theorem dX3_isStruck_2 : decode cX3_isStruck 2 = .ok (.invokespecial 7, 3) := by decide +kernel
theorem dX3_isStruck_5 : decode cX3_isStruck 5 = .ok (.bipush 10, 2) := by decide +kernel
theorem dX3_isStruck_7 : decode cX3_isStruck 7 = .ok (.iadd, 1) := by decide +kernel
theorem dX3_isStruck_8 : decode cX3_isStruck 8 = .ok (.ireturn, 1) := by decide +kernel
theorem dX4_init_0 : decode cX4_init 0 = .ok (.aload_n 0, 1) := by decide +kernel
theorem dX4_init_1 : decode cX4_init 1 = .ok (.invokespecial 1, 3) := by decide +kernel
theorem dX4_init_4 : decode cX4_init 4 = .ok (.return_, 1) := by decide +kernel
theorem dX4_opens_0 : decode cX4_opens 0 = .ok (.iconst 1, 1) := by decide +kernel
theorem dX4_opens_1 : decode cX4_opens 1 = .ok (.ireturn, 1) := by decide +kernel
theorem dX4_enjoys_0 : decode cX4_enjoys 0 = .ok (.iload_n 1, 1) := by decide +kernel
theorem dX4_enjoys_1 : decode cX4_enjoys 1 = .ok (.iconst 1, 1) := by decide +kernel
theorem dX4_enjoys_2 : decode cX4_enjoys 2 = .ok (.iadd, 1) := by decide +kernel
theorem dX4_enjoys_3 : decode cX4_enjoys 3 = .ok (.ireturn, 1) := by decide +kernel
theorem dX4_isStruck_0 : decode cX4_isStruck 0 = .ok (.iload_n 1, 1) := by decide +kernel
theorem dX4_isStruck_1 : decode cX4_isStruck 1 = .ok (.ireturn, 1) := by decide +kernel
theorem dX4_passesOn_0 : decode cX4_passesOn 0 = .ok (.iload_n 1, 1) := by decide +kernel
theorem dX4_passesOn_1 : decode cX4_passesOn 1 = .ok (.iconst 4, 1) := by decide +kernel
theorem dX4_passesOn_2 : decode cX4_passesOn 2 = .ok (.if_icmp .lt 7, 3) := by decide +kernel
theorem dX4_passesOn_5 : decode cX4_passesOn 5 = .ok (.iload_n 2, 1) := by decide +kernel
theorem dX4_passesOn_6 : decode cX4_passesOn 6 = .ok (.goto 4, 3) := by decide +kernel
theorem dX4_passesOn_9 : decode cX4_passesOn 9 = .ok (.iconst (-1), 1) := by decide +kernel
theorem dX4_passesOn_10 : decode cX4_passesOn 10 = .ok (.ireturn, 1) := by decide +kernel
theorem dX5_init_0 : decode cX5_init 0 = .ok (.aload_n 0, 1) := by decide +kernel
theorem dX5_init_1 : decode cX5_init 1 = .ok (.invokespecial 3, 3) := by decide +kernel
theorem dX5_init_4 : decode cX5_init 4 = .ok (.return_, 1) := by decide +kernel
theorem dX5_become_0 : decode cX5_become 0 = .ok (.aload_n 0, 1) := by decide +kernel
theorem dX5_become_1 : decode cX5_become 1 = .ok (.aload_n 1, 1) := by decide +kernel
theorem dX5_become_2 : decode cX5_become 2 = .ok (.getfield 9, 3) := by decide +kernel
theorem dX5_become_5 : decode cX5_become 5 = .ok (.putfield 9, 3) := by decide +kernel
theorem dX5_become_8 : decode cX5_become 8 = .ok (.aload_n 0, 1) := by decide +kernel
theorem dX5_become_9 : decode cX5_become 9 = .ok (.aload_n 1, 1) := by decide +kernel
theorem dX5_become_10 : decode cX5_become 10 = .ok (.getfield 15, 3) := by decide +kernel
theorem dX5_become_13 : decode cX5_become 13 = .ok (.putfield 15, 3) := by decide +kernel
theorem dX5_become_16 : decode cX5_become 16 = .ok (.return_, 1) := by decide +kernel
theorem dX5_pleaseBy_0 : decode cX5_pleaseBy 0 = .ok (.aload_n 0, 1) := by decide +kernel
theorem dX5_pleaseBy_1 : decode cX5_pleaseBy 1 = .ok (.sipush 9999, 3) := by decide +kernel
theorem dX5_pleaseBy_4 : decode cX5_pleaseBy 4 = .ok (.aload_n 0, 1) := by decide +kernel
theorem dX5_pleaseBy_5 : decode cX5_pleaseBy 5 = .ok (.getfield 15, 3) := by decide +kernel
theorem dX5_pleaseBy_8 : decode cX5_pleaseBy 8 = .ok (.iload_n 1, 1) := by decide +kernel
theorem dX5_pleaseBy_9 : decode cX5_pleaseBy 9 = .ok (.iadd, 1) := by decide +kernel
theorem dX5_pleaseBy_10 : decode cX5_pleaseBy 10 = .ok (.invokestatic 18, 3) := by decide +kernel
theorem dX5_pleaseBy_13 : decode cX5_pleaseBy 13 = .ok (.putfield 15, 3) := by decide +kernel
theorem dX5_pleaseBy_16 : decode cX5_pleaseBy 16 = .ok (.return_, 1) := by decide +kernel
theorem dX6_init_0 : decode cX6_init 0 = .ok (.aload_n 0, 1) := by decide +kernel
theorem dX6_init_1 : decode cX6_init 1 = .ok (.invokespecial 3, 3) := by decide +kernel
theorem dX6_init_4 : decode cX6_init 4 = .ok (.return_, 1) := by decide +kernel
theorem dX6_opens_0 : decode cX6_opens 0 = .ok (.iload_n 3, 1) := by decide +kernel
theorem dX6_opens_1 : decode cX6_opens 1 = .ok (.iconst 3, 1) := by decide +kernel
theorem dX6_opens_2 : decode cX6_opens 2 = .ok (.if_icmp .ne 7, 3) := by decide +kernel
theorem dX6_opens_5 : decode cX6_opens 5 = .ok (.iconst 0, 1) := by decide +kernel
theorem dX6_opens_6 : decode cX6_opens 6 = .ok (.goto 10, 3) := by decide +kernel
theorem dX6_opens_9 : decode cX6_opens 9 = .ok (.aload_n 0, 1) := by decide +kernel
theorem dX6_opens_10 : decode cX6_opens 10 = .ok (.iload_n 1, 1) := by decide +kernel
theorem dX6_opens_11 : decode cX6_opens 11 = .ok (.iload_n 2, 1) := by decide +kernel
theorem dX6_opens_12 : decode cX6_opens 12 = .ok (.iload_n 3, 1) := by decide +kernel
theorem dX6_opens_13 : decode cX6_opens 13 = .ok (.invokespecial 9, 3) := by decide +kernel
theorem dX6_opens_16 : decode cX6_opens 16 = .ok (.ireturn, 1) := by decide +kernel
theorem dX6_enjoys_0 : decode cX6_enjoys 0 = .ok (.iload_n 1, 1) := by decide +kernel
theorem dX6_enjoys_1 : decode cX6_enjoys 1 = .ok (.ifCond .ne 8, 3) := by decide +kernel
theorem dX6_enjoys_4 : decode cX6_enjoys 4 = .ok (.bipush 6, 2) := by decide +kernel
theorem dX6_enjoys_6 : decode cX6_enjoys 6 = .ok (.goto 8, 3) := by decide +kernel
theorem dX6_enjoys_9 : decode cX6_enjoys 9 = .ok (.aload_n 0, 1) := by decide +kernel
theorem dX6_enjoys_10 : decode cX6_enjoys 10 = .ok (.iload_n 1, 1) := by decide +kernel
theorem dX6_enjoys_11 : decode cX6_enjoys 11 = .ok (.invokespecial 13, 3) := by decide +kernel
theorem dX6_enjoys_14 : decode cX6_enjoys 14 = .ok (.ireturn, 1) := by decide +kernel
theorem dX6_passesOn_0 : decode cX6_passesOn 0 = .ok (.iload_n 1, 1) := by decide +kernel
theorem dX6_passesOn_1 : decode cX6_passesOn 1 = .ok (.iconst 1, 1) := by decide +kernel
theorem dX6_passesOn_2 : decode cX6_passesOn 2 = .ok (.if_icmp .lt 12, 3) := by decide +kernel
theorem dX6_passesOn_5 : decode cX6_passesOn 5 = .ok (.iload_n 1, 1) := by decide +kernel
theorem dX6_passesOn_6 : decode cX6_passesOn 6 = .ok (.iconst 3, 1) := by decide +kernel
theorem dX6_passesOn_7 : decode cX6_passesOn 7 = .ok (.if_icmp .gt 7, 3) := by decide +kernel
theorem dX6_passesOn_10 : decode cX6_passesOn 10 = .ok (.iconst 0, 1) := by decide +kernel
theorem dX6_passesOn_11 : decode cX6_passesOn 11 = .ok (.goto 4, 3) := by decide +kernel
theorem dX6_passesOn_14 : decode cX6_passesOn 14 = .ok (.iconst (-1), 1) := by decide +kernel
theorem dX6_passesOn_15 : decode cX6_passesOn 15 = .ok (.ireturn, 1) := by decide +kernel
theorem dX7_init_0 : decode cX7_init 0 = .ok (.aload_n 0, 1) := by decide +kernel
theorem dX7_init_1 : decode cX7_init 1 = .ok (.invokespecial 3, 3) := by decide +kernel
theorem dX7_init_4 : decode cX7_init 4 = .ok (.aload_n 0, 1) := by decide +kernel
theorem dX7_init_5 : decode cX7_init 5 = .ok (.bipush 6, 2) := by decide +kernel
theorem dX7_init_7 : decode cX7_init 7 = .ok (.newarray .int, 2) := by decide +kernel
theorem dX7_init_9 : decode cX7_init 9 = .ok (.putfield 9, 3) := by decide +kernel
theorem dX7_init_12 : decode cX7_init 12 = .ok (.return_, 1) := by decide +kernel
theorem dX7_begin_0 : decode cX7_begin 0 = .ok (.aload_n 0, 1) := by decide +kernel
theorem dX7_begin_1 : decode cX7_begin 1 = .ok (.iconst 0, 1) := by decide +kernel
theorem dX7_begin_2 : decode cX7_begin 2 = .ok (.putfield 15, 3) := by decide +kernel
theorem dX7_begin_5 : decode cX7_begin 5 = .ok (.aload_n 0, 1) := by decide +kernel
theorem dX7_begin_6 : decode cX7_begin 6 = .ok (.iload_n 2, 1) := by decide +kernel
theorem dX7_begin_7 : decode cX7_begin 7 = .ok (.putfield 19, 3) := by decide +kernel
theorem dX7_begin_10 : decode cX7_begin 10 = .ok (.aload_n 0, 1) := by decide +kernel
theorem dX7_begin_11 : decode cX7_begin 11 = .ok (.iload_n 1, 1) := by decide +kernel
theorem dX7_begin_12 : decode cX7_begin 12 = .ok (.putfield 22, 3) := by decide +kernel
theorem dX7_begin_15 : decode cX7_begin 15 = .ok (.aload_n 0, 1) := by decide +kernel
theorem dX7_begin_16 : decode cX7_begin 16 = .ok (.iconst 0, 1) := by decide +kernel
theorem dX7_begin_17 : decode cX7_begin 17 = .ok (.putfield 25, 3) := by decide +kernel
theorem dX7_begin_20 : decode cX7_begin 20 = .ok (.return_, 1) := by decide +kernel
theorem dX7_become_0 : decode cX7_become 0 = .ok (.iconst 0, 1) := by decide +kernel
theorem dX7_become_1 : decode cX7_become 1 = .ok (.istore_n 2, 1) := by decide +kernel
theorem dX7_become_2 : decode cX7_become 2 = .ok (.iload_n 2, 1) := by decide +kernel
theorem dX7_become_3 : decode cX7_become 3 = .ok (.aload_n 1, 1) := by decide +kernel
theorem dX7_become_4 : decode cX7_become 4 = .ok (.getfield 15, 3) := by decide +kernel
theorem dX7_become_7 : decode cX7_become 7 = .ok (.if_icmp .ge 21, 3) := by decide +kernel
theorem dX7_become_10 : decode cX7_become 10 = .ok (.aload_n 0, 1) := by decide +kernel
theorem dX7_become_11 : decode cX7_become 11 = .ok (.getfield 9, 3) := by decide +kernel
theorem dX7_become_14 : decode cX7_become 14 = .ok (.iload_n 2, 1) := by decide +kernel
theorem dX7_become_15 : decode cX7_become 15 = .ok (.aload_n 1, 1) := by decide +kernel
theorem dX7_become_16 : decode cX7_become 16 = .ok (.getfield 9, 3) := by decide +kernel
theorem dX7_become_19 : decode cX7_become 19 = .ok (.iload_n 2, 1) := by decide +kernel
theorem dX7_become_20 : decode cX7_become 20 = .ok (.iaload, 1) := by decide +kernel
theorem dX7_become_21 : decode cX7_become 21 = .ok (.iastore, 1) := by decide +kernel
theorem dX7_become_22 : decode cX7_become 22 = .ok (.iinc 2 1, 3) := by decide +kernel
theorem dX7_become_25 : decode cX7_become 25 = .ok (.goto (-23), 3) := by decide +kernel
theorem dX7_become_28 : decode cX7_become 28 = .ok (.aload_n 0, 1) := by decide +kernel
theorem dX7_become_29 : decode cX7_become 29 = .ok (.aload_n 1, 1) := by decide +kernel
theorem dX7_become_30 : decode cX7_become 30 = .ok (.getfield 15, 3) := by decide +kernel
theorem dX7_become_33 : decode cX7_become 33 = .ok (.putfield 15, 3) := by decide +kernel
theorem dX7_become_36 : decode cX7_become 36 = .ok (.aload_n 0, 1) := by decide +kernel
theorem dX7_become_37 : decode cX7_become 37 = .ok (.aload_n 1, 1) := by decide +kernel
theorem dX7_become_38 : decode cX7_become 38 = .ok (.getfield 19, 3) := by decide +kernel
theorem dX7_become_41 : decode cX7_become 41 = .ok (.putfield 19, 3) := by decide +kernel
theorem dX7_become_44 : decode cX7_become 44 = .ok (.aload_n 0, 1) := by decide +kernel
theorem dX7_become_45 : decode cX7_become 45 = .ok (.aload_n 1, 1) := by decide +kernel
theorem dX7_become_46 : decode cX7_become 46 = .ok (.getfield 22, 3) := by decide +kernel
theorem dX7_become_49 : decode cX7_become 49 = .ok (.putfield 22, 3) := by decide +kernel
theorem dX7_become_52 : decode cX7_become 52 = .ok (.aload_n 0, 1) := by decide +kernel
theorem dX7_become_53 : decode cX7_become 53 = .ok (.aload_n 1, 1) := by decide +kernel
theorem dX7_become_54 : decode cX7_become 54 = .ok (.getfield 25, 3) := by decide +kernel
theorem dX7_become_57 : decode cX7_become 57 = .ok (.putfield 25, 3) := by decide +kernel
theorem dX7_become_60 : decode cX7_become 60 = .ok (.return_, 1) := by decide +kernel
theorem dX7_tells_0 : decode cX7_tells 0 = .ok (.iload_n 1, 1) := by decide +kernel
theorem dX7_tells_1 : decode cX7_tells 1 = .ok (.tableswitch 42 0 2 #[27, 32, 37], 27) := by decide +kernel
theorem dX7_tells_28 : decode cX7_tells 28 = .ok (.aload_n 0, 1) := by decide +kernel
theorem dX7_tells_29 : decode cX7_tells 29 = .ok (.getfield 15, 3) := by decide +kernel
theorem dX7_tells_32 : decode cX7_tells 32 = .ok (.ireturn, 1) := by decide +kernel
theorem dX7_tells_33 : decode cX7_tells 33 = .ok (.aload_n 0, 1) := by decide +kernel
theorem dX7_tells_34 : decode cX7_tells 34 = .ok (.getfield 19, 3) := by decide +kernel
theorem dX7_tells_37 : decode cX7_tells 37 = .ok (.ireturn, 1) := by decide +kernel
theorem dX7_tells_38 : decode cX7_tells 38 = .ok (.aload_n 0, 1) := by decide +kernel
theorem dX7_tells_39 : decode cX7_tells 39 = .ok (.getfield 22, 3) := by decide +kernel
theorem dX7_tells_42 : decode cX7_tells 42 = .ok (.ireturn, 1) := by decide +kernel
theorem dX7_tells_43 : decode cX7_tells 43 = .ok (.aload_n 0, 1) := by decide +kernel
theorem dX7_tells_44 : decode cX7_tells 44 = .ok (.getfield 25, 3) := by decide +kernel
theorem dX7_tells_47 : decode cX7_tells 47 = .ok (.ifCond .eq 7, 3) := by decide +kernel
theorem dX7_tells_50 : decode cX7_tells 50 = .ok (.iconst 1, 1) := by decide +kernel
theorem dX7_tells_51 : decode cX7_tells 51 = .ok (.goto 4, 3) := by decide +kernel
theorem dX7_tells_54 : decode cX7_tells 54 = .ok (.iconst 0, 1) := by decide +kernel
theorem dX7_tells_55 : decode cX7_tells 55 = .ok (.ireturn, 1) := by decide +kernel
theorem dX7_paperAt_0 : decode cX7_paperAt 0 = .ok (.iload_n 1, 1) := by decide +kernel
theorem dX7_paperAt_1 : decode cX7_paperAt 1 = .ok (.ifCond .lt 27, 3) := by decide +kernel
theorem dX7_paperAt_4 : decode cX7_paperAt 4 = .ok (.iload_n 1, 1) := by decide +kernel
theorem dX7_paperAt_5 : decode cX7_paperAt 5 = .ok (.aload_n 0, 1) := by decide +kernel
theorem dX7_paperAt_6 : decode cX7_paperAt 6 = .ok (.getfield 15, 3) := by decide +kernel
theorem dX7_paperAt_9 : decode cX7_paperAt 9 = .ok (.if_icmp .ge 19, 3) := by decide +kernel
theorem dX7_paperAt_12 : decode cX7_paperAt 12 = .ok (.aload_n 0, 1) := by decide +kernel
theorem dX7_paperAt_13 : decode cX7_paperAt 13 = .ok (.getfield 9, 3) := by decide +kernel
theorem dX7_paperAt_16 : decode cX7_paperAt 16 = .ok (.aload_n 0, 1) := by decide +kernel
theorem dX7_paperAt_17 : decode cX7_paperAt 17 = .ok (.getfield 15, 3) := by decide +kernel
theorem dX7_paperAt_20 : decode cX7_paperAt 20 = .ok (.iconst 1, 1) := by decide +kernel
theorem dX7_paperAt_21 : decode cX7_paperAt 21 = .ok (.isub, 1) := by decide +kernel
theorem dX7_paperAt_22 : decode cX7_paperAt 22 = .ok (.iload_n 1, 1) := by decide +kernel
theorem dX7_paperAt_23 : decode cX7_paperAt 23 = .ok (.isub, 1) := by decide +kernel
theorem dX7_paperAt_24 : decode cX7_paperAt 24 = .ok (.iaload, 1) := by decide +kernel
theorem dX7_paperAt_25 : decode cX7_paperAt 25 = .ok (.goto 4, 3) := by decide +kernel
theorem dX7_paperAt_28 : decode cX7_paperAt 28 = .ok (.iconst (-1), 1) := by decide +kernel
theorem dX7_paperAt_29 : decode cX7_paperAt 29 = .ok (.ireturn, 1) := by decide +kernel
theorem dX7_outermost_0 : decode cX7_outermost 0 = .ok (.aload_n 0, 1) := by decide +kernel
theorem dX7_outermost_1 : decode cX7_outermost 1 = .ok (.iconst 0, 1) := by decide +kernel
theorem dX7_outermost_2 : decode cX7_outermost 2 = .ok (.invokevirtual 29, 3) := by decide +kernel
theorem dX7_outermost_5 : decode cX7_outermost 5 = .ok (.ireturn, 1) := by decide +kernel
theorem dX7_layAbout_0 : decode cX7_layAbout 0 = .ok (.aload_n 0, 1) := by decide +kernel
theorem dX7_layAbout_1 : decode cX7_layAbout 1 = .ok (.getfield 15, 3) := by decide +kernel
theorem dX7_layAbout_4 : decode cX7_layAbout 4 = .ok (.bipush 6, 2) := by decide +kernel
theorem dX7_layAbout_6 : decode cX7_layAbout 6 = .ok (.if_icmp .ge 23, 3) := by decide +kernel
theorem dX7_layAbout_9 : decode cX7_layAbout 9 = .ok (.aload_n 0, 1) := by decide +kernel
theorem dX7_layAbout_10 : decode cX7_layAbout 10 = .ok (.getfield 9, 3) := by decide +kernel
theorem dX7_layAbout_13 : decode cX7_layAbout 13 = .ok (.aload_n 0, 1) := by decide +kernel
theorem dX7_layAbout_14 : decode cX7_layAbout 14 = .ok (.getfield 15, 3) := by decide +kernel
theorem dX7_layAbout_17 : decode cX7_layAbout 17 = .ok (.iload_n 1, 1) := by decide +kernel
theorem dX7_layAbout_18 : decode cX7_layAbout 18 = .ok (.iastore, 1) := by decide +kernel
theorem dX7_layAbout_19 : decode cX7_layAbout 19 = .ok (.aload_n 0, 1) := by decide +kernel
theorem dX7_layAbout_20 : decode cX7_layAbout 20 = .ok (.dup, 1) := by decide +kernel
theorem dX7_layAbout_21 : decode cX7_layAbout 21 = .ok (.getfield 15, 3) := by decide +kernel
theorem dX7_layAbout_24 : decode cX7_layAbout 24 = .ok (.iconst 1, 1) := by decide +kernel
theorem dX7_layAbout_25 : decode cX7_layAbout 25 = .ok (.iadd, 1) := by decide +kernel
theorem dX7_layAbout_26 : decode cX7_layAbout 26 = .ok (.putfield 15, 3) := by decide +kernel
theorem dX7_layAbout_29 : decode cX7_layAbout 29 = .ok (.return_, 1) := by decide +kernel
theorem dX7_layInnermost_0 : decode cX7_layInnermost 0 = .ok (.aload_n 0, 1) := by decide +kernel
theorem dX7_layInnermost_1 : decode cX7_layInnermost 1 = .ok (.getfield 15, 3) := by decide +kernel
theorem dX7_layInnermost_4 : decode cX7_layInnermost 4 = .ok (.bipush 6, 2) := by decide +kernel
theorem dX7_layInnermost_6 : decode cX7_layInnermost 6 = .ok (.if_icmp .ge 49, 3) := by decide +kernel
theorem dX7_layInnermost_9 : decode cX7_layInnermost 9 = .ok (.aload_n 0, 1) := by decide +kernel
theorem dX7_layInnermost_10 : decode cX7_layInnermost 10 = .ok (.getfield 15, 3) := by decide +kernel
theorem dX7_layInnermost_13 : decode cX7_layInnermost 13 = .ok (.istore_n 2, 1) := by decide +kernel
theorem dX7_layInnermost_14 : decode cX7_layInnermost 14 = .ok (.iload_n 2, 1) := by decide +kernel
theorem dX7_layInnermost_15 : decode cX7_layInnermost 15 = .ok (.ifCond .le 23, 3) := by decide +kernel
theorem dX7_layInnermost_18 : decode cX7_layInnermost 18 = .ok (.aload_n 0, 1) := by decide +kernel
theorem dX7_layInnermost_19 : decode cX7_layInnermost 19 = .ok (.getfield 9, 3) := by decide +kernel
theorem dX7_layInnermost_22 : decode cX7_layInnermost 22 = .ok (.iload_n 2, 1) := by decide +kernel
theorem dX7_layInnermost_23 : decode cX7_layInnermost 23 = .ok (.aload_n 0, 1) := by decide +kernel
theorem dX7_layInnermost_24 : decode cX7_layInnermost 24 = .ok (.getfield 9, 3) := by decide +kernel
theorem dX7_layInnermost_27 : decode cX7_layInnermost 27 = .ok (.iload_n 2, 1) := by decide +kernel
theorem dX7_layInnermost_28 : decode cX7_layInnermost 28 = .ok (.iconst 1, 1) := by decide +kernel
theorem dX7_layInnermost_29 : decode cX7_layInnermost 29 = .ok (.isub, 1) := by decide +kernel
theorem dX7_layInnermost_30 : decode cX7_layInnermost 30 = .ok (.iaload, 1) := by decide +kernel
theorem dX7_layInnermost_31 : decode cX7_layInnermost 31 = .ok (.iastore, 1) := by decide +kernel
theorem dX7_layInnermost_32 : decode cX7_layInnermost 32 = .ok (.iinc 2 (-1), 3) := by decide +kernel
theorem dX7_layInnermost_35 : decode cX7_layInnermost 35 = .ok (.goto (-21), 3) := by decide +kernel
theorem dX7_layInnermost_38 : decode cX7_layInnermost 38 = .ok (.aload_n 0, 1) := by decide +kernel
theorem dX7_layInnermost_39 : decode cX7_layInnermost 39 = .ok (.getfield 9, 3) := by decide +kernel
theorem dX7_layInnermost_42 : decode cX7_layInnermost 42 = .ok (.iconst 0, 1) := by decide +kernel
theorem dX7_layInnermost_43 : decode cX7_layInnermost 43 = .ok (.iload_n 1, 1) := by decide +kernel
theorem dX7_layInnermost_44 : decode cX7_layInnermost 44 = .ok (.iastore, 1) := by decide +kernel
theorem dX7_layInnermost_45 : decode cX7_layInnermost 45 = .ok (.aload_n 0, 1) := by decide +kernel
theorem dX7_layInnermost_46 : decode cX7_layInnermost 46 = .ok (.dup, 1) := by decide +kernel
theorem dX7_layInnermost_47 : decode cX7_layInnermost 47 = .ok (.getfield 15, 3) := by decide +kernel
theorem dX7_layInnermost_50 : decode cX7_layInnermost 50 = .ok (.iconst 1, 1) := by decide +kernel
theorem dX7_layInnermost_51 : decode cX7_layInnermost 51 = .ok (.iadd, 1) := by decide +kernel
theorem dX7_layInnermost_52 : decode cX7_layInnermost 52 = .ok (.putfield 15, 3) := by decide +kernel
theorem dX7_layInnermost_55 : decode cX7_layInnermost 55 = .ok (.return_, 1) := by decide +kernel
theorem dX7_layAnew_0 : decode cX7_layAnew 0 = .ok (.aload_n 0, 1) := by decide +kernel
theorem dX7_layAnew_1 : decode cX7_layAnew 1 = .ok (.iconst 0, 1) := by decide +kernel
theorem dX7_layAnew_2 : decode cX7_layAnew 2 = .ok (.putfield 15, 3) := by decide +kernel
theorem dX7_layAnew_5 : decode cX7_layAnew 5 = .ok (.iconst 0, 1) := by decide +kernel
theorem dX7_layAnew_6 : decode cX7_layAnew 6 = .ok (.istore_n 3, 1) := by decide +kernel
theorem dX7_layAnew_7 : decode cX7_layAnew 7 = .ok (.iload_n 3, 1) := by decide +kernel
theorem dX7_layAnew_8 : decode cX7_layAnew 8 = .ok (.iload_n 2, 1) := by decide +kernel
theorem dX7_layAnew_9 : decode cX7_layAnew 9 = .ok (.if_icmp .ge 22, 3) := by decide +kernel
theorem dX7_layAnew_12 : decode cX7_layAnew 12 = .ok (.iload_n 3, 1) := by decide +kernel
theorem dX7_layAnew_13 : decode cX7_layAnew 13 = .ok (.aload_n 1, 1) := by decide +kernel
theorem dX7_layAnew_14 : decode cX7_layAnew 14 = .ok (.arraylength, 1) := by decide +kernel
theorem dX7_layAnew_15 : decode cX7_layAnew 15 = .ok (.if_icmp .ge 16, 3) := by decide +kernel
theorem dX7_layAnew_18 : decode cX7_layAnew 18 = .ok (.aload_n 0, 1) := by decide +kernel
theorem dX7_layAnew_19 : decode cX7_layAnew 19 = .ok (.aload_n 1, 1) := by decide +kernel
theorem dX7_layAnew_20 : decode cX7_layAnew 20 = .ok (.iload_n 3, 1) := by decide +kernel
theorem dX7_layAnew_21 : decode cX7_layAnew 21 = .ok (.iaload, 1) := by decide +kernel
theorem dX7_layAnew_22 : decode cX7_layAnew 22 = .ok (.invokevirtual 33, 3) := by decide +kernel
theorem dX7_layAnew_25 : decode cX7_layAnew 25 = .ok (.iinc 3 1, 3) := by decide +kernel
theorem dX7_layAnew_28 : decode cX7_layAnew 28 = .ok (.goto (-21), 3) := by decide +kernel
theorem dX7_layAnew_31 : decode cX7_layAnew 31 = .ok (.return_, 1) := by decide +kernel
theorem dX7_takeOff_0 : decode cX7_takeOff 0 = .ok (.aload_n 0, 1) := by decide +kernel
theorem dX7_takeOff_1 : decode cX7_takeOff 1 = .ok (.invokevirtual 37, 3) := by decide +kernel
theorem dX7_takeOff_4 : decode cX7_takeOff 4 = .ok (.istore_n 1, 1) := by decide +kernel
theorem dX7_takeOff_5 : decode cX7_takeOff 5 = .ok (.aload_n 0, 1) := by decide +kernel
theorem dX7_takeOff_6 : decode cX7_takeOff 6 = .ok (.getfield 15, 3) := by decide +kernel
theorem dX7_takeOff_9 : decode cX7_takeOff 9 = .ok (.ifCond .le 13, 3) := by decide +kernel
theorem dX7_takeOff_12 : decode cX7_takeOff 12 = .ok (.aload_n 0, 1) := by decide +kernel
theorem dX7_takeOff_13 : decode cX7_takeOff 13 = .ok (.dup, 1) := by decide +kernel
theorem dX7_takeOff_14 : decode cX7_takeOff 14 = .ok (.getfield 15, 3) := by decide +kernel
theorem dX7_takeOff_17 : decode cX7_takeOff 17 = .ok (.iconst 1, 1) := by decide +kernel
theorem dX7_takeOff_18 : decode cX7_takeOff 18 = .ok (.isub, 1) := by decide +kernel
theorem dX7_takeOff_19 : decode cX7_takeOff 19 = .ok (.putfield 15, 3) := by decide +kernel
theorem dX7_takeOff_22 : decode cX7_takeOff 22 = .ok (.iload_n 1, 1) := by decide +kernel
theorem dX7_takeOff_23 : decode cX7_takeOff 23 = .ok (.ireturn, 1) := by decide +kernel
theorem dX8_init_0 : decode cX8_init 0 = .ok (.aload_n 0, 1) := by decide +kernel
theorem dX8_init_1 : decode cX8_init 1 = .ok (.invokespecial 3, 3) := by decide +kernel
theorem dX8_init_4 : decode cX8_init 4 = .ok (.aload_n 0, 1) := by decide +kernel
theorem dX8_init_5 : decode cX8_init 5 = .ok (.bipush 40, 2) := by decide +kernel
theorem dX8_init_7 : decode cX8_init 7 = .ok (.newarray .long, 2) := by decide +kernel
theorem dX8_init_9 : decode cX8_init 9 = .ok (.putfield 9, 3) := by decide +kernel
theorem dX8_init_12 : decode cX8_init 12 = .ok (.return_, 1) := by decide +kernel
theorem dX8_begin_0 : decode cX8_begin 0 = .ok (.aload_n 0, 1) := by decide +kernel
theorem dX8_begin_1 : decode cX8_begin 1 = .ok (.iload_n 1, 1) := by decide +kernel
theorem dX8_begin_2 : decode cX8_begin 2 = .ok (.putfield 15, 3) := by decide +kernel
theorem dX8_begin_5 : decode cX8_begin 5 = .ok (.aload_n 0, 1) := by decide +kernel
theorem dX8_begin_6 : decode cX8_begin 6 = .ok (.iload_n 2, 1) := by decide +kernel
theorem dX8_begin_7 : decode cX8_begin 7 = .ok (.putfield 19, 3) := by decide +kernel
theorem dX8_begin_10 : decode cX8_begin 10 = .ok (.iconst 0, 1) := by decide +kernel
theorem dX8_begin_11 : decode cX8_begin 11 = .ok (.istore_n 3, 1) := by decide +kernel
theorem dX8_begin_12 : decode cX8_begin 12 = .ok (.iload_n 3, 1) := by decide +kernel
theorem dX8_begin_13 : decode cX8_begin 13 = .ok (.bipush 40, 2) := by decide +kernel
theorem dX8_begin_15 : decode cX8_begin 15 = .ok (.if_icmp .ge 16, 3) := by decide +kernel
theorem dX8_begin_18 : decode cX8_begin 18 = .ok (.aload_n 0, 1) := by decide +kernel
theorem dX8_begin_19 : decode cX8_begin 19 = .ok (.getfield 9, 3) := by decide +kernel
theorem dX8_begin_22 : decode cX8_begin 22 = .ok (.iload_n 3, 1) := by decide +kernel
theorem dX8_begin_23 : decode cX8_begin 23 = .ok (.lconst 0, 1) := by decide +kernel
theorem dX8_begin_24 : decode cX8_begin 24 = .ok (.lastore, 1) := by decide +kernel
theorem dX8_begin_25 : decode cX8_begin 25 = .ok (.iinc 3 1, 3) := by decide +kernel
theorem dX8_begin_28 : decode cX8_begin 28 = .ok (.goto (-16), 3) := by decide +kernel
theorem dX8_begin_31 : decode cX8_begin 31 = .ok (.return_, 1) := by decide +kernel
theorem dX8_isMissing_0 : decode cX8_isMissing 0 = .ok (.aload_n 0, 1) := by decide +kernel
theorem dX8_isMissing_1 : decode cX8_isMissing 1 = .ok (.getfield 15, 3) := by decide +kernel
theorem dX8_isMissing_4 : decode cX8_isMissing 4 = .ok (.ifCond .ne 7, 3) := by decide +kernel
theorem dX8_isMissing_7 : decode cX8_isMissing 7 = .ok (.iconst 1, 1) := by decide +kernel
theorem dX8_isMissing_8 : decode cX8_isMissing 8 = .ok (.goto 4, 3) := by decide +kernel
theorem dX8_isMissing_11 : decode cX8_isMissing 11 = .ok (.iconst 0, 1) := by decide +kernel
theorem dX8_isMissing_12 : decode cX8_isMissing 12 = .ok (.ireturn, 1) := by decide +kernel
theorem dX8_holds_0 : decode cX8_holds 0 = .ok (.iload_n 1, 1) := by decide +kernel
theorem dX8_holds_1 : decode cX8_holds 1 = .ok (.ifCond .lt 29, 3) := by decide +kernel
theorem dX8_holds_4 : decode cX8_holds 4 = .ok (.iload_n 2, 1) := by decide +kernel
theorem dX8_holds_5 : decode cX8_holds 5 = .ok (.ifCond .lt 25, 3) := by decide +kernel
theorem dX8_holds_8 : decode cX8_holds 8 = .ok (.iload_n 2, 1) := by decide +kernel
theorem dX8_holds_9 : decode cX8_holds 9 = .ok (.aload_n 0, 1) := by decide +kernel
theorem dX8_holds_10 : decode cX8_holds 10 = .ok (.getfield 19, 3) := by decide +kernel
theorem dX8_holds_13 : decode cX8_holds 13 = .ok (.if_icmp .gt 17, 3) := by decide +kernel
theorem dX8_holds_16 : decode cX8_holds 16 = .ok (.iload_n 1, 1) := by decide +kernel
theorem dX8_holds_17 : decode cX8_holds 17 = .ok (.aload_n 0, 1) := by decide +kernel
theorem dX8_holds_18 : decode cX8_holds 18 = .ok (.getfield 19, 3) := by decide +kernel
theorem dX8_holds_21 : decode cX8_holds 21 = .ok (.iload_n 2, 1) := by decide +kernel
theorem dX8_holds_22 : decode cX8_holds 22 = .ok (.isub, 1) := by decide +kernel
theorem dX8_holds_23 : decode cX8_holds 23 = .ok (.if_icmp .gt 7, 3) := by decide +kernel
theorem dX8_holds_26 : decode cX8_holds 26 = .ok (.iconst 1, 1) := by decide +kernel
theorem dX8_holds_27 : decode cX8_holds 27 = .ok (.goto 4, 3) := by decide +kernel
theorem dX8_holds_30 : decode cX8_holds 30 = .ok (.iconst 0, 1) := by decide +kernel
theorem dX8_holds_31 : decode cX8_holds 31 = .ok (.ireturn, 1) := by decide +kernel
theorem dX8_put_0 : decode cX8_put 0 = .ok (.iload_n 1, 1) := by decide +kernel
theorem dX8_put_1 : decode cX8_put 1 = .ok (.ifCond .lt 11, 3) := by decide +kernel
theorem dX8_put_4 : decode cX8_put 4 = .ok (.iload_n 1, 1) := by decide +kernel
theorem dX8_put_5 : decode cX8_put 5 = .ok (.aload_n 0, 1) := by decide +kernel
theorem dX8_put_6 : decode cX8_put 6 = .ok (.getfield 19, 3) := by decide +kernel
theorem dX8_put_9 : decode cX8_put 9 = .ok (.if_icmp .lt 4, 3) := by decide +kernel
theorem dX8_put_12 : decode cX8_put 12 = .ok (.return_, 1) := by decide +kernel
theorem dX8_put_13 : decode cX8_put 13 = .ok (.aload_n 0, 1) := by decide +kernel
theorem dX8_put_14 : decode cX8_put 14 = .ok (.getfield 15, 3) := by decide +kernel
theorem dX8_put_17 : decode cX8_put 17 = .ok (.bipush 8, 2) := by decide +kernel
theorem dX8_put_19 : decode cX8_put 19 = .ok (.if_icmp .ne 16, 3) := by decide +kernel
theorem dX8_put_22 : decode cX8_put 22 = .ok (.aload_n 0, 1) := by decide +kernel
theorem dX8_put_23 : decode cX8_put 23 = .ok (.getfield 9, 3) := by decide +kernel
theorem dX8_put_26 : decode cX8_put 26 = .ok (.iload_n 1, 1) := by decide +kernel
theorem dX8_put_27 : decode cX8_put 27 = .ok (.lload_n 2, 1) := by decide +kernel
theorem dX8_put_28 : decode cX8_put 28 = .ok (.l2i, 1) := by decide +kernel
theorem dX8_put_29 : decode cX8_put 29 = .ok (.i2b, 1) := by decide +kernel
theorem dX8_put_30 : decode cX8_put 30 = .ok (.i2l, 1) := by decide +kernel
theorem dX8_put_31 : decode cX8_put 31 = .ok (.lastore, 1) := by decide +kernel
theorem dX8_put_32 : decode cX8_put 32 = .ok (.goto 32, 3) := by decide +kernel
theorem dX8_put_35 : decode cX8_put 35 = .ok (.aload_n 0, 1) := by decide +kernel
theorem dX8_put_36 : decode cX8_put 36 = .ok (.getfield 15, 3) := by decide +kernel
theorem dX8_put_39 : decode cX8_put 39 = .ok (.bipush 16, 2) := by decide +kernel
theorem dX8_put_41 : decode cX8_put 41 = .ok (.if_icmp .ne 16, 3) := by decide +kernel
theorem dX8_put_44 : decode cX8_put 44 = .ok (.aload_n 0, 1) := by decide +kernel
theorem dX8_put_45 : decode cX8_put 45 = .ok (.getfield 9, 3) := by decide +kernel
theorem dX8_put_48 : decode cX8_put 48 = .ok (.iload_n 1, 1) := by decide +kernel
theorem dX8_put_49 : decode cX8_put 49 = .ok (.lload_n 2, 1) := by decide +kernel
theorem dX8_put_50 : decode cX8_put 50 = .ok (.l2i, 1) := by decide +kernel
theorem dX8_put_51 : decode cX8_put 51 = .ok (.i2s, 1) := by decide +kernel
theorem dX8_put_52 : decode cX8_put 52 = .ok (.i2l, 1) := by decide +kernel
theorem dX8_put_53 : decode cX8_put 53 = .ok (.lastore, 1) := by decide +kernel
theorem dX8_put_54 : decode cX8_put 54 = .ok (.goto 10, 3) := by decide +kernel
theorem dX8_put_57 : decode cX8_put 57 = .ok (.aload_n 0, 1) := by decide +kernel
theorem dX8_put_58 : decode cX8_put 58 = .ok (.getfield 9, 3) := by decide +kernel
theorem dX8_put_61 : decode cX8_put 61 = .ok (.iload_n 1, 1) := by decide +kernel
theorem dX8_put_62 : decode cX8_put 62 = .ok (.lload_n 2, 1) := by decide +kernel
theorem dX8_put_63 : decode cX8_put 63 = .ok (.lastore, 1) := by decide +kernel
theorem dX8_put_64 : decode cX8_put 64 = .ok (.return_, 1) := by decide +kernel
theorem dX9_init_0 : decode cX9_init 0 = .ok (.aload_n 0, 1) := by decide +kernel
theorem dX9_init_1 : decode cX9_init 1 = .ok (.invokespecial 3, 3) := by decide +kernel
theorem dX9_init_4 : decode cX9_init 4 = .ok (.aload_n 0, 1) := by decide +kernel
theorem dX9_init_5 : decode cX9_init 5 = .ok (.bipush 120, 2) := by decide +kernel
theorem dX9_init_7 : decode cX9_init 7 = .ok (.newarray .int, 2) := by decide +kernel
theorem dX9_init_9 : decode cX9_init 9 = .ok (.putfield 9, 3) := by decide +kernel
theorem dX9_init_12 : decode cX9_init 12 = .ok (.return_, 1) := by decide +kernel
theorem dX9_add_0 : decode cX9_add 0 = .ok (.aload_n 0, 1) := by decide +kernel
theorem dX9_add_1 : decode cX9_add 1 = .ok (.getfield 15, 3) := by decide +kernel
theorem dX9_add_4 : decode cX9_add 4 = .ok (.bipush 120, 2) := by decide +kernel
theorem dX9_add_6 : decode cX9_add 6 = .ok (.if_icmp .ge 23, 3) := by decide +kernel
theorem dX9_add_9 : decode cX9_add 9 = .ok (.aload_n 0, 1) := by decide +kernel
theorem dX9_add_10 : decode cX9_add 10 = .ok (.getfield 9, 3) := by decide +kernel
theorem dX9_add_13 : decode cX9_add 13 = .ok (.aload_n 0, 1) := by decide +kernel
theorem dX9_add_14 : decode cX9_add 14 = .ok (.getfield 15, 3) := by decide +kernel
theorem dX9_add_17 : decode cX9_add 17 = .ok (.iload_n 1, 1) := by decide +kernel
theorem dX9_add_18 : decode cX9_add 18 = .ok (.iastore, 1) := by decide +kernel
theorem dX9_add_19 : decode cX9_add 19 = .ok (.aload_n 0, 1) := by decide +kernel
theorem dX9_add_20 : decode cX9_add 20 = .ok (.dup, 1) := by decide +kernel
theorem dX9_add_21 : decode cX9_add 21 = .ok (.getfield 15, 3) := by decide +kernel
theorem dX9_add_24 : decode cX9_add 24 = .ok (.iconst 1, 1) := by decide +kernel
theorem dX9_add_25 : decode cX9_add 25 = .ok (.iadd, 1) := by decide +kernel
theorem dX9_add_26 : decode cX9_add 26 = .ok (.putfield 15, 3) := by decide +kernel
theorem dX9_add_29 : decode cX9_add 29 = .ok (.return_, 1) := by decide +kernel
theorem dX9_readTown_0 : decode cX9_readTown 0 = .ok (.aload_n 0, 1) := by decide +kernel
theorem dX9_readTown_1 : decode cX9_readTown 1 = .ok (.iconst 0, 1) := by decide +kernel
theorem dX9_readTown_2 : decode cX9_readTown 2 = .ok (.putfield 19, 3) := by decide +kernel
theorem dX9_readTown_5 : decode cX9_readTown 5 = .ok (.aload_n 0, 1) := by decide +kernel
theorem dX9_readTown_6 : decode cX9_readTown 6 = .ok (.invokevirtual 22, 3) := by decide +kernel
theorem dX9_readTown_9 : decode cX9_readTown 9 = .ok (.iconst 1, 1) := by decide +kernel
theorem dX9_readTown_10 : decode cX9_readTown 10 = .ok (.istore_n 2, 1) := by decide +kernel
theorem dX9_readTown_11 : decode cX9_readTown 11 = .ok (.iload_n 2, 1) := by decide +kernel
theorem dX9_readTown_12 : decode cX9_readTown 12 = .ok (.bipush 120, 2) := by decide +kernel
theorem dX9_readTown_14 : decode cX9_readTown 14 = .ok (.if_icmp .gt 47, 3) := by decide +kernel
theorem dX9_readTown_17 : decode cX9_readTown 17 = .ok (.aload_n 0, 1) := by decide +kernel
theorem dX9_readTown_18 : decode cX9_readTown 18 = .ok (.aload_n 1, 1) := by decide +kernel
theorem dX9_readTown_19 : decode cX9_readTown 19 = .ok (.invokevirtual 25, 3) := by decide +kernel
theorem dX9_readTown_22 : decode cX9_readTown 22 = .ok (.ifCond .ne 6, 3) := by decide +kernel
theorem dX9_readTown_25 : decode cX9_readTown 25 = .ok (.goto 36, 3) := by decide +kernel
theorem dX9_readTown_28 : decode cX9_readTown 28 = .ok (.aload_n 0, 1) := by decide +kernel
theorem dX9_readTown_29 : decode cX9_readTown 29 = .ok (.getfield 29, 3) := by decide +kernel
theorem dX9_readTown_32 : decode cX9_readTown 32 = .ok (.bipush 14, 2) := by decide +kernel
theorem dX9_readTown_34 : decode cX9_readTown 34 = .ok (.if_icmp .ne 5, 3) := by decide +kernel
theorem dX9_readTown_37 : decode cX9_readTown 37 = .ok (.iload_n 2, 1) := by decide +kernel
theorem dX9_readTown_38 : decode cX9_readTown 38 = .ok (.ireturn, 1) := by decide +kernel
theorem dX9_readTown_39 : decode cX9_readTown 39 = .ok (.aload_n 0, 1) := by decide +kernel
theorem dX9_readTown_40 : decode cX9_readTown 40 = .ok (.getfield 29, 3) := by decide +kernel
theorem dX9_readTown_43 : decode cX9_readTown 43 = .ok (.bipush 12, 2) := by decide +kernel
theorem dX9_readTown_45 : decode cX9_readTown 45 = .ok (.if_icmp .eq 6, 3) := by decide +kernel
theorem dX9_readTown_48 : decode cX9_readTown 48 = .ok (.goto 13, 3) := by decide +kernel
theorem dX9_readTown_51 : decode cX9_readTown 51 = .ok (.aload_n 0, 1) := by decide +kernel
theorem dX9_readTown_52 : decode cX9_readTown 52 = .ok (.invokevirtual 22, 3) := by decide +kernel
theorem dX9_readTown_55 : decode cX9_readTown 55 = .ok (.iinc 2 1, 3) := by decide +kernel
theorem dX9_readTown_58 : decode cX9_readTown 58 = .ok (.goto (-47), 3) := by decide +kernel
theorem dX9_readTown_61 : decode cX9_readTown 61 = .ok (.iconst (-1), 1) := by decide +kernel
theorem dX9_readTown_62 : decode cX9_readTown 62 = .ok (.aload_n 0, 1) := by decide +kernel
theorem dX9_readTown_63 : decode cX9_readTown 63 = .ok (.getfield 32, 3) := by decide +kernel
theorem dX9_readTown_66 : decode cX9_readTown 66 = .ok (.isub, 1) := by decide +kernel
theorem dX9_readTown_67 : decode cX9_readTown 67 = .ok (.ireturn, 1) := by decide +kernel
theorem dX9_readItem_0 : decode cX9_readItem 0 = .ok (.aload_n 0, 1) := by decide +kernel
theorem dX9_readItem_1 : decode cX9_readItem 1 = .ok (.getfield 29, 3) := by decide +kernel
theorem dX9_readItem_4 : decode cX9_readItem 4 = .ok (.bipush 6, 2) := by decide +kernel
theorem dX9_readItem_6 : decode cX9_readItem 6 = .ok (.if_icmp .ge 22, 3) := by decide +kernel
theorem dX9_readItem_9 : decode cX9_readItem 9 = .ok (.aload_n 1, 1) := by decide +kernel
theorem dX9_readItem_10 : decode cX9_readItem 10 = .ok (.aload_n 0, 1) := by decide +kernel
theorem dX9_readItem_11 : decode cX9_readItem 11 = .ok (.getfield 29, 3) := by decide +kernel
theorem dX9_readItem_14 : decode cX9_readItem 14 = .ok (.invokevirtual 35, 3) := by decide +kernel
theorem dX9_readItem_17 : decode cX9_readItem 17 = .ok (.ifCond .ge 5, 3) := by decide +kernel
theorem dX9_readItem_20 : decode cX9_readItem 20 = .ok (.iconst 0, 1) := by decide +kernel
theorem dX9_readItem_21 : decode cX9_readItem 21 = .ok (.ireturn, 1) := by decide +kernel
theorem dX9_readItem_22 : decode cX9_readItem 22 = .ok (.aload_n 0, 1) := by decide +kernel
theorem dX9_readItem_23 : decode cX9_readItem 23 = .ok (.invokevirtual 22, 3) := by decide +kernel
theorem dX9_readItem_26 : decode cX9_readItem 26 = .ok (.iconst 1, 1) := by decide +kernel
theorem dX9_readItem_27 : decode cX9_readItem 27 = .ok (.ireturn, 1) := by decide +kernel
theorem dX9_readItem_28 : decode cX9_readItem 28 = .ok (.aload_n 0, 1) := by decide +kernel
theorem dX9_readItem_29 : decode cX9_readItem 29 = .ok (.getfield 29, 3) := by decide +kernel
theorem dX9_readItem_32 : decode cX9_readItem 32 = .ok (.bipush 10, 2) := by decide +kernel
theorem dX9_readItem_34 : decode cX9_readItem 34 = .ok (.if_icmp .ne 12, 3) := by decide +kernel
theorem dX9_readItem_37 : decode cX9_readItem 37 = .ok (.aload_n 1, 1) := by decide +kernel
theorem dX9_readItem_38 : decode cX9_readItem 38 = .ok (.getfield 41, 3) := by decide +kernel
theorem dX9_readItem_41 : decode cX9_readItem 41 = .ok (.bipush 8, 2) := by decide +kernel
theorem dX9_readItem_43 : decode cX9_readItem 43 = .ok (.if_icmp .lt 5, 3) := by decide +kernel
theorem dX9_readItem_46 : decode cX9_readItem 46 = .ok (.iconst 0, 1) := by decide +kernel
theorem dX9_readItem_47 : decode cX9_readItem 47 = .ok (.ireturn, 1) := by decide +kernel
theorem dX9_readItem_48 : decode cX9_readItem 48 = .ok (.aload_n 0, 1) := by decide +kernel
theorem dX9_readItem_49 : decode cX9_readItem 49 = .ok (.invokevirtual 22, 3) := by decide +kernel
theorem dX9_readItem_52 : decode cX9_readItem 52 = .ok (.aload_n 0, 1) := by decide +kernel
theorem dX9_readItem_53 : decode cX9_readItem 53 = .ok (.aload_n 1, 1) := by decide +kernel
theorem dX9_readItem_54 : decode cX9_readItem 54 = .ok (.invokevirtual 44, 3) := by decide +kernel
theorem dX9_readItem_57 : decode cX9_readItem 57 = .ok (.ireturn, 1) := by decide +kernel
theorem dX9_readPresent_0 : decode cX9_readPresent 0 = .ok (.aload_n 0, 1) := by decide +kernel
theorem dX9_readPresent_1 : decode cX9_readPresent 1 = .ok (.getfield 29, 3) := by decide +kernel
theorem dX9_readPresent_4 : decode cX9_readPresent 4 = .ok (.bipush 13, 2) := by decide +kernel
theorem dX9_readPresent_6 : decode cX9_readPresent 6 = .ok (.if_icmp .ne 14, 3) := by decide +kernel
theorem dX9_readPresent_9 : decode cX9_readPresent 9 = .ok (.aload_n 0, 1) := by decide +kernel
theorem dX9_readPresent_10 : decode cX9_readPresent 10 = .ok (.getfield 47, 3) := by decide +kernel
theorem dX9_readPresent_13 : decode cX9_readPresent 13 = .ok (.aload_n 1, 1) := by decide +kernel
theorem dX9_readPresent_14 : decode cX9_readPresent 14 = .ok (.getfield 50, 3) := by decide +kernel
theorem dX9_readPresent_17 : decode cX9_readPresent 17 = .ok (.if_icmp .lt 5, 3) := by decide +kernel
theorem dX9_readPresent_20 : decode cX9_readPresent 20 = .ok (.iconst 0, 1) := by decide +kernel
theorem dX9_readPresent_21 : decode cX9_readPresent 21 = .ok (.ireturn, 1) := by decide +kernel
theorem dX9_readPresent_22 : decode cX9_readPresent 22 = .ok (.aload_n 0, 1) := by decide +kernel
theorem dX9_readPresent_23 : decode cX9_readPresent 23 = .ok (.getfield 47, 3) := by decide +kernel
theorem dX9_readPresent_26 : decode cX9_readPresent 26 = .ok (.istore_n 2, 1) := by decide +kernel
theorem dX9_readPresent_27 : decode cX9_readPresent 27 = .ok (.iconst 0, 1) := by decide +kernel
theorem dX9_readPresent_28 : decode cX9_readPresent 28 = .ok (.istore_n 3, 1) := by decide +kernel
theorem dX9_readPresent_29 : decode cX9_readPresent 29 = .ok (.aload_n 0, 1) := by decide +kernel
theorem dX9_readPresent_30 : decode cX9_readPresent 30 = .ok (.invokevirtual 22, 3) := by decide +kernel
theorem dX9_readPresent_33 : decode cX9_readPresent 33 = .ok (.aload_n 0, 1) := by decide +kernel
theorem dX9_readPresent_34 : decode cX9_readPresent 34 = .ok (.getfield 29, 3) := by decide +kernel
theorem dX9_readPresent_37 : decode cX9_readPresent 37 = .ok (.bipush 11, 2) := by decide +kernel
theorem dX9_readPresent_39 : decode cX9_readPresent 39 = .ok (.if_icmp .ne 36, 3) := by decide +kernel
theorem dX9_readPresent_42 : decode cX9_readPresent 42 = .ok (.aload_n 0, 1) := by decide +kernel
theorem dX9_readPresent_43 : decode cX9_readPresent 43 = .ok (.invokevirtual 22, 3) := by decide +kernel
theorem dX9_readPresent_46 : decode cX9_readPresent 46 = .ok (.aload_n 0, 1) := by decide +kernel
theorem dX9_readPresent_47 : decode cX9_readPresent 47 = .ok (.getfield 29, 3) := by decide +kernel
theorem dX9_readPresent_50 : decode cX9_readPresent 50 = .ok (.bipush 13, 2) := by decide +kernel
theorem dX9_readPresent_52 : decode cX9_readPresent 52 = .ok (.if_icmp .ne 12, 3) := by decide +kernel
theorem dX9_readPresent_55 : decode cX9_readPresent 55 = .ok (.aload_n 0, 1) := by decide +kernel
theorem dX9_readPresent_56 : decode cX9_readPresent 56 = .ok (.getfield 47, 3) := by decide +kernel
theorem dX9_readPresent_59 : decode cX9_readPresent 59 = .ok (.bipush 99, 2) := by decide +kernel
theorem dX9_readPresent_61 : decode cX9_readPresent 61 = .ok (.if_icmp .le 5, 3) := by decide +kernel
theorem dX9_readPresent_64 : decode cX9_readPresent 64 = .ok (.iconst 0, 1) := by decide +kernel
theorem dX9_readPresent_65 : decode cX9_readPresent 65 = .ok (.ireturn, 1) := by decide +kernel
theorem dX9_readPresent_66 : decode cX9_readPresent 66 = .ok (.aload_n 0, 1) := by decide +kernel
theorem dX9_readPresent_67 : decode cX9_readPresent 67 = .ok (.getfield 47, 3) := by decide +kernel
theorem dX9_readPresent_70 : decode cX9_readPresent 70 = .ok (.istore_n 3, 1) := by decide +kernel
theorem dX9_readPresent_71 : decode cX9_readPresent 71 = .ok (.aload_n 0, 1) := by decide +kernel
theorem dX9_readPresent_72 : decode cX9_readPresent 72 = .ok (.invokevirtual 22, 3) := by decide +kernel
theorem dX9_readPresent_75 : decode cX9_readPresent 75 = .ok (.aload_n 1, 1) := by decide +kernel
theorem dX9_readPresent_76 : decode cX9_readPresent 76 = .ok (.iload_n 2, 1) := by decide +kernel
theorem dX9_readPresent_77 : decode cX9_readPresent 77 = .ok (.iload_n 3, 1) := by decide +kernel
theorem dX9_readPresent_78 : decode cX9_readPresent 78 = .ok (.invokevirtual 53, 3) := by decide +kernel
theorem dX9_readPresent_81 : decode cX9_readPresent 81 = .ok (.istore 4, 2) := by decide +kernel
theorem dX9_readPresent_83 : decode cX9_readPresent 83 = .ok (.iconst 0, 1) := by decide +kernel
theorem dX9_readPresent_84 : decode cX9_readPresent 84 = .ok (.istore 5, 2) := by decide +kernel
theorem dX9_readPresent_86 : decode cX9_readPresent 86 = .ok (.iload 5, 2) := by decide +kernel
theorem dX9_readPresent_88 : decode cX9_readPresent 88 = .ok (.bipush 6, 2) := by decide +kernel
theorem dX9_readPresent_90 : decode cX9_readPresent 90 = .ok (.if_icmp .ge 42, 3) := by decide +kernel
theorem dX9_readPresent_93 : decode cX9_readPresent 93 = .ok (.iload 4, 2) := by decide +kernel
theorem dX9_readPresent_95 : decode cX9_readPresent 95 = .ok (.ifCond .lt 37, 3) := by decide +kernel
theorem dX9_readPresent_98 : decode cX9_readPresent 98 = .ok (.aload_n 0, 1) := by decide +kernel
theorem dX9_readPresent_99 : decode cX9_readPresent 99 = .ok (.invokevirtual 57, 3) := by decide +kernel
theorem dX9_readPresent_102 : decode cX9_readPresent 102 = .ok (.ifCond .eq 30, 3) := by decide +kernel
theorem dX9_readPresent_105 : decode cX9_readPresent 105 = .ok (.aload_n 1, 1) := by decide +kernel
theorem dX9_readPresent_106 : decode cX9_readPresent 106 = .ok (.getfield 61, 3) := by decide +kernel
theorem dX9_readPresent_109 : decode cX9_readPresent 109 = .ok (.iload 4, 2) := by decide +kernel
theorem dX9_readPresent_111 : decode cX9_readPresent 111 = .ok (.aaload, 1) := by decide +kernel
theorem dX9_readPresent_112 : decode cX9_readPresent 112 = .ok (.aload_n 0, 1) := by decide +kernel
theorem dX9_readPresent_113 : decode cX9_readPresent 113 = .ok (.getfield 29, 3) := by decide +kernel
theorem dX9_readPresent_116 : decode cX9_readPresent 116 = .ok (.bipush 6, 2) := by decide +kernel
theorem dX9_readPresent_118 : decode cX9_readPresent 118 = .ok (.isub, 1) := by decide +kernel
theorem dX9_readPresent_119 : decode cX9_readPresent 119 = .ok (.invokevirtual 65, 3) := by decide +kernel
theorem dX9_readPresent_122 : decode cX9_readPresent 122 = .ok (.aload_n 0, 1) := by decide +kernel
theorem dX9_readPresent_123 : decode cX9_readPresent 123 = .ok (.invokevirtual 22, 3) := by decide +kernel
theorem dX9_readPresent_126 : decode cX9_readPresent 126 = .ok (.iinc 5 1, 3) := by decide +kernel
theorem dX9_readPresent_129 : decode cX9_readPresent 129 = .ok (.goto (-43), 3) := by decide +kernel
theorem dX9_readPresent_132 : decode cX9_readPresent 132 = .ok (.iload 4, 2) := by decide +kernel
theorem dX9_readPresent_134 : decode cX9_readPresent 134 = .ok (.ifCond .lt 7, 3) := by decide +kernel
theorem dX9_readPresent_137 : decode cX9_readPresent 137 = .ok (.iconst 1, 1) := by decide +kernel
theorem dX9_readPresent_138 : decode cX9_readPresent 138 = .ok (.goto 4, 3) := by decide +kernel
theorem dX9_readPresent_141 : decode cX9_readPresent 141 = .ok (.iconst 0, 1) := by decide +kernel
theorem dX9_readPresent_142 : decode cX9_readPresent 142 = .ok (.ireturn, 1) := by decide +kernel
theorem dX9_isPaperName_0 : decode cX9_isPaperName 0 = .ok (.aload_n 0, 1) := by decide +kernel
theorem dX9_isPaperName_1 : decode cX9_isPaperName 1 = .ok (.getfield 29, 3) := by decide +kernel
theorem dX9_isPaperName_4 : decode cX9_isPaperName 4 = .ok (.bipush 6, 2) := by decide +kernel
theorem dX9_isPaperName_6 : decode cX9_isPaperName 6 = .ok (.if_icmp .lt 16, 3) := by decide +kernel
theorem dX9_isPaperName_9 : decode cX9_isPaperName 9 = .ok (.aload_n 0, 1) := by decide +kernel
theorem dX9_isPaperName_10 : decode cX9_isPaperName 10 = .ok (.getfield 29, 3) := by decide +kernel
theorem dX9_isPaperName_13 : decode cX9_isPaperName 13 = .ok (.bipush 10, 2) := by decide +kernel
theorem dX9_isPaperName_15 : decode cX9_isPaperName 15 = .ok (.if_icmp .ge 7, 3) := by decide +kernel
theorem dX9_isPaperName_18 : decode cX9_isPaperName 18 = .ok (.iconst 1, 1) := by decide +kernel
theorem dX9_isPaperName_19 : decode cX9_isPaperName 19 = .ok (.goto 4, 3) := by decide +kernel
theorem dX9_isPaperName_22 : decode cX9_isPaperName 22 = .ok (.iconst 0, 1) := by decide +kernel
theorem dX9_isPaperName_23 : decode cX9_isPaperName 23 = .ok (.ireturn, 1) := by decide +kernel
theorem dX9_step_0 : decode cX9_step 0 = .ok (.aload_n 0, 1) := by decide +kernel
theorem dX9_step_1 : decode cX9_step 1 = .ok (.aload_n 0, 1) := by decide +kernel
theorem dX9_step_2 : decode cX9_step 2 = .ok (.getfield 19, 3) := by decide +kernel
theorem dX9_step_5 : decode cX9_step 5 = .ok (.putfield 32, 3) := by decide +kernel
theorem dX9_step_8 : decode cX9_step 8 = .ok (.aload_n 0, 1) := by decide +kernel
theorem dX9_step_9 : decode cX9_step 9 = .ok (.getfield 32, 3) := by decide +kernel
theorem dX9_step_12 : decode cX9_step 12 = .ok (.aload_n 0, 1) := by decide +kernel
theorem dX9_step_13 : decode cX9_step 13 = .ok (.getfield 15, 3) := by decide +kernel
theorem dX9_step_16 : decode cX9_step 16 = .ok (.if_icmp .ge 30, 3) := by decide +kernel
theorem dX9_step_19 : decode cX9_step 19 = .ok (.aload_n 0, 1) := by decide +kernel
theorem dX9_step_20 : decode cX9_step 20 = .ok (.getfield 9, 3) := by decide +kernel
theorem dX9_step_23 : decode cX9_step 23 = .ok (.aload_n 0, 1) := by decide +kernel
theorem dX9_step_24 : decode cX9_step 24 = .ok (.getfield 32, 3) := by decide +kernel
theorem dX9_step_27 : decode cX9_step 27 = .ok (.iaload, 1) := by decide +kernel
theorem dX9_step_28 : decode cX9_step 28 = .ok (.bipush 32, 2) := by decide +kernel
theorem dX9_step_30 : decode cX9_step 30 = .ok (.if_icmp .ne 16, 3) := by decide +kernel
theorem dX9_step_33 : decode cX9_step 33 = .ok (.aload_n 0, 1) := by decide +kernel
theorem dX9_step_34 : decode cX9_step 34 = .ok (.dup, 1) := by decide +kernel
theorem dX9_step_35 : decode cX9_step 35 = .ok (.getfield 32, 3) := by decide +kernel
theorem dX9_step_38 : decode cX9_step 38 = .ok (.iconst 1, 1) := by decide +kernel
theorem dX9_step_39 : decode cX9_step 39 = .ok (.iadd, 1) := by decide +kernel
theorem dX9_step_40 : decode cX9_step 40 = .ok (.putfield 32, 3) := by decide +kernel
theorem dX9_step_43 : decode cX9_step 43 = .ok (.goto (-35), 3) := by decide +kernel
theorem dX9_step_46 : decode cX9_step 46 = .ok (.aload_n 0, 1) := by decide +kernel
theorem dX9_step_47 : decode cX9_step 47 = .ok (.aload_n 0, 1) := by decide +kernel
theorem dX9_step_48 : decode cX9_step 48 = .ok (.getfield 32, 3) := by decide +kernel
theorem dX9_step_51 : decode cX9_step 51 = .ok (.putfield 19, 3) := by decide +kernel
theorem dX9_step_54 : decode cX9_step 54 = .ok (.aload_n 0, 1) := by decide +kernel
theorem dX9_step_55 : decode cX9_step 55 = .ok (.getfield 32, 3) := by decide +kernel
theorem dX9_step_58 : decode cX9_step 58 = .ok (.aload_n 0, 1) := by decide +kernel
theorem dX9_step_59 : decode cX9_step 59 = .ok (.getfield 15, 3) := by decide +kernel
theorem dX9_step_62 : decode cX9_step 62 = .ok (.if_icmp .lt 12, 3) := by decide +kernel
theorem dX9_step_65 : decode cX9_step 65 = .ok (.aload_n 0, 1) := by decide +kernel
theorem dX9_step_66 : decode cX9_step 66 = .ok (.bipush 14, 2) := by decide +kernel
theorem dX9_step_68 : decode cX9_step 68 = .ok (.putfield 29, 3) := by decide +kernel
theorem dX9_step_71 : decode cX9_step 71 = .ok (.goto 82, 3) := by decide +kernel
theorem dX9_step_74 : decode cX9_step 74 = .ok (.aload_n 0, 1) := by decide +kernel
theorem dX9_step_75 : decode cX9_step 75 = .ok (.getfield 9, 3) := by decide +kernel
theorem dX9_step_78 : decode cX9_step 78 = .ok (.aload_n 0, 1) := by decide +kernel
theorem dX9_step_79 : decode cX9_step 79 = .ok (.getfield 19, 3) := by decide +kernel
theorem dX9_step_82 : decode cX9_step 82 = .ok (.iaload, 1) := by decide +kernel
theorem dX9_step_83 : decode cX9_step 83 = .ok (.invokestatic 71, 3) := by decide +kernel
theorem dX9_step_86 : decode cX9_step 86 = .ok (.ifCond .eq 10, 3) := by decide +kernel
theorem dX9_step_89 : decode cX9_step 89 = .ok (.aload_n 0, 1) := by decide +kernel
theorem dX9_step_90 : decode cX9_step 90 = .ok (.invokevirtual 75, 3) := by decide +kernel
theorem dX9_step_93 : decode cX9_step 93 = .ok (.goto 60, 3) := by decide +kernel
theorem dX9_step_96 : decode cX9_step 96 = .ok (.aload_n 0, 1) := by decide +kernel
theorem dX9_step_97 : decode cX9_step 97 = .ok (.getfield 9, 3) := by decide +kernel
theorem dX9_step_100 : decode cX9_step 100 = .ok (.aload_n 0, 1) := by decide +kernel
theorem dX9_step_101 : decode cX9_step 101 = .ok (.getfield 19, 3) := by decide +kernel
theorem dX9_step_104 : decode cX9_step 104 = .ok (.iaload, 1) := by decide +kernel
theorem dX9_step_105 : decode cX9_step 105 = .ok (.invokestatic 78, 3) := by decide +kernel
theorem dX9_step_108 : decode cX9_step 108 = .ok (.ifCond .eq 10, 3) := by decide +kernel
theorem dX9_step_111 : decode cX9_step 111 = .ok (.aload_n 0, 1) := by decide +kernel
theorem dX9_step_112 : decode cX9_step 112 = .ok (.invokevirtual 81, 3) := by decide +kernel
theorem dX9_step_115 : decode cX9_step 115 = .ok (.goto 38, 3) := by decide +kernel
theorem dX9_step_118 : decode cX9_step 118 = .ok (.aload_n 0, 1) := by decide +kernel
theorem dX9_step_119 : decode cX9_step 119 = .ok (.aload_n 0, 1) := by decide +kernel
theorem dX9_step_120 : decode cX9_step 120 = .ok (.getfield 9, 3) := by decide +kernel
theorem dX9_step_123 : decode cX9_step 123 = .ok (.aload_n 0, 1) := by decide +kernel
theorem dX9_step_124 : decode cX9_step 124 = .ok (.getfield 32, 3) := by decide +kernel
theorem dX9_step_127 : decode cX9_step 127 = .ok (.iaload, 1) := by decide +kernel
theorem dX9_step_128 : decode cX9_step 128 = .ok (.bipush 59, 2) := by decide +kernel
theorem dX9_step_130 : decode cX9_step 130 = .ok (.if_icmp .ne 8, 3) := by decide +kernel
theorem dX9_step_133 : decode cX9_step 133 = .ok (.bipush 12, 2) := by decide +kernel
theorem dX9_step_135 : decode cX9_step 135 = .ok (.goto 5, 3) := by decide +kernel
theorem dX9_step_138 : decode cX9_step 138 = .ok (.bipush 15, 2) := by decide +kernel
theorem dX9_step_140 : decode cX9_step 140 = .ok (.putfield 29, 3) := by decide +kernel
theorem dX9_step_143 : decode cX9_step 143 = .ok (.aload_n 0, 1) := by decide +kernel
theorem dX9_step_144 : decode cX9_step 144 = .ok (.dup, 1) := by decide +kernel
theorem dX9_step_145 : decode cX9_step 145 = .ok (.getfield 19, 3) := by decide +kernel
theorem dX9_step_148 : decode cX9_step 148 = .ok (.iconst 1, 1) := by decide +kernel
theorem dX9_step_149 : decode cX9_step 149 = .ok (.iadd, 1) := by decide +kernel
theorem dX9_step_150 : decode cX9_step 150 = .ok (.putfield 19, 3) := by decide +kernel
theorem dX9_step_153 : decode cX9_step 153 = .ok (.return_, 1) := by decide +kernel
theorem dX9_stepOverWord_0 : decode cX9_stepOverWord 0 = .ok (.aload_n 0, 1) := by decide +kernel
theorem dX9_stepOverWord_1 : decode cX9_stepOverWord 1 = .ok (.getfield 19, 3) := by decide +kernel
theorem dX9_stepOverWord_4 : decode cX9_stepOverWord 4 = .ok (.aload_n 0, 1) := by decide +kernel
theorem dX9_stepOverWord_5 : decode cX9_stepOverWord 5 = .ok (.getfield 15, 3) := by decide +kernel
theorem dX9_stepOverWord_8 : decode cX9_stepOverWord 8 = .ok (.if_icmp .ge 31, 3) := by decide +kernel
theorem dX9_stepOverWord_11 : decode cX9_stepOverWord 11 = .ok (.aload_n 0, 1) := by decide +kernel
theorem dX9_stepOverWord_12 : decode cX9_stepOverWord 12 = .ok (.getfield 9, 3) := by decide +kernel
theorem dX9_stepOverWord_15 : decode cX9_stepOverWord 15 = .ok (.aload_n 0, 1) := by decide +kernel
theorem dX9_stepOverWord_16 : decode cX9_stepOverWord 16 = .ok (.getfield 19, 3) := by decide +kernel
theorem dX9_stepOverWord_19 : decode cX9_stepOverWord 19 = .ok (.iaload, 1) := by decide +kernel
theorem dX9_stepOverWord_20 : decode cX9_stepOverWord 20 = .ok (.invokestatic 71, 3) := by decide +kernel
theorem dX9_stepOverWord_23 : decode cX9_stepOverWord 23 = .ok (.ifCond .eq 16, 3) := by decide +kernel
theorem dX9_stepOverWord_26 : decode cX9_stepOverWord 26 = .ok (.aload_n 0, 1) := by decide +kernel
theorem dX9_stepOverWord_27 : decode cX9_stepOverWord 27 = .ok (.dup, 1) := by decide +kernel
theorem dX9_stepOverWord_28 : decode cX9_stepOverWord 28 = .ok (.getfield 19, 3) := by decide +kernel
theorem dX9_stepOverWord_31 : decode cX9_stepOverWord 31 = .ok (.iconst 1, 1) := by decide +kernel
theorem dX9_stepOverWord_32 : decode cX9_stepOverWord 32 = .ok (.iadd, 1) := by decide +kernel
theorem dX9_stepOverWord_33 : decode cX9_stepOverWord 33 = .ok (.putfield 19, 3) := by decide +kernel
theorem dX9_stepOverWord_36 : decode cX9_stepOverWord 36 = .ok (.goto (-36), 3) := by decide +kernel
theorem dX9_stepOverWord_39 : decode cX9_stepOverWord 39 = .ok (.aload_n 0, 1) := by decide +kernel
theorem dX9_stepOverWord_40 : decode cX9_stepOverWord 40 = .ok (.bipush 15, 2) := by decide +kernel
theorem dX9_stepOverWord_42 : decode cX9_stepOverWord 42 = .ok (.putfield 29, 3) := by decide +kernel
theorem dX9_stepOverWord_45 : decode cX9_stepOverWord 45 = .ok (.iconst 0, 1) := by decide +kernel
theorem dX9_stepOverWord_46 : decode cX9_stepOverWord 46 = .ok (.istore_n 1, 1) := by decide +kernel
theorem dX9_stepOverWord_47 : decode cX9_stepOverWord 47 = .ok (.iload_n 1, 1) := by decide +kernel
theorem dX9_stepOverWord_48 : decode cX9_stepOverWord 48 = .ok (.bipush 12, 2) := by decide +kernel
theorem dX9_stepOverWord_50 : decode cX9_stepOverWord 50 = .ok (.if_icmp .ge 25, 3) := by decide +kernel
theorem dX9_stepOverWord_53 : decode cX9_stepOverWord 53 = .ok (.aload_n 0, 1) := by decide +kernel
theorem dX9_stepOverWord_54 : decode cX9_stepOverWord 54 = .ok (.iload_n 1, 1) := by decide +kernel
theorem dX9_stepOverWord_55 : decode cX9_stepOverWord 55 = .ok (.invokestatic 84, 3) := by decide +kernel
theorem dX9_stepOverWord_58 : decode cX9_stepOverWord 58 = .ok (.invokevirtual 88, 3) := by decide +kernel
theorem dX9_stepOverWord_61 : decode cX9_stepOverWord 61 = .ok (.ifCond .eq 8, 3) := by decide +kernel
theorem dX9_stepOverWord_64 : decode cX9_stepOverWord 64 = .ok (.aload_n 0, 1) := by decide +kernel
theorem dX9_stepOverWord_65 : decode cX9_stepOverWord 65 = .ok (.iload_n 1, 1) := by decide +kernel
theorem dX9_stepOverWord_66 : decode cX9_stepOverWord 66 = .ok (.putfield 29, 3) := by decide +kernel
theorem dX9_stepOverWord_69 : decode cX9_stepOverWord 69 = .ok (.iinc 1 1, 3) := by decide +kernel
theorem dX9_stepOverWord_72 : decode cX9_stepOverWord 72 = .ok (.goto (-25), 3) := by decide +kernel
theorem dX9_stepOverWord_75 : decode cX9_stepOverWord 75 = .ok (.return_, 1) := by decide +kernel
theorem dX9_stepOverNumber_0 : decode cX9_stepOverNumber 0 = .ok (.aload_n 0, 1) := by decide +kernel
theorem dX9_stepOverNumber_1 : decode cX9_stepOverNumber 1 = .ok (.bipush 13, 2) := by decide +kernel
theorem dX9_stepOverNumber_3 : decode cX9_stepOverNumber 3 = .ok (.putfield 29, 3) := by decide +kernel
theorem dX9_stepOverNumber_6 : decode cX9_stepOverNumber 6 = .ok (.aload_n 0, 1) := by decide +kernel
theorem dX9_stepOverNumber_7 : decode cX9_stepOverNumber 7 = .ok (.iconst 0, 1) := by decide +kernel
theorem dX9_stepOverNumber_8 : decode cX9_stepOverNumber 8 = .ok (.putfield 47, 3) := by decide +kernel
theorem dX9_stepOverNumber_11 : decode cX9_stepOverNumber 11 = .ok (.aload_n 0, 1) := by decide +kernel
theorem dX9_stepOverNumber_12 : decode cX9_stepOverNumber 12 = .ok (.getfield 19, 3) := by decide +kernel
theorem dX9_stepOverNumber_15 : decode cX9_stepOverNumber 15 = .ok (.aload_n 0, 1) := by decide +kernel
theorem dX9_stepOverNumber_16 : decode cX9_stepOverNumber 16 = .ok (.getfield 15, 3) := by decide +kernel
theorem dX9_stepOverNumber_19 : decode cX9_stepOverNumber 19 = .ok (.if_icmp .ge 61, 3) := by decide +kernel
theorem dX9_stepOverNumber_22 : decode cX9_stepOverNumber 22 = .ok (.aload_n 0, 1) := by decide +kernel
theorem dX9_stepOverNumber_23 : decode cX9_stepOverNumber 23 = .ok (.getfield 9, 3) := by decide +kernel
theorem dX9_stepOverNumber_26 : decode cX9_stepOverNumber 26 = .ok (.aload_n 0, 1) := by decide +kernel
theorem dX9_stepOverNumber_27 : decode cX9_stepOverNumber 27 = .ok (.getfield 19, 3) := by decide +kernel
theorem dX9_stepOverNumber_30 : decode cX9_stepOverNumber 30 = .ok (.iaload, 1) := by decide +kernel
theorem dX9_stepOverNumber_31 : decode cX9_stepOverNumber 31 = .ok (.invokestatic 78, 3) := by decide +kernel
theorem dX9_stepOverNumber_34 : decode cX9_stepOverNumber 34 = .ok (.ifCond .eq 46, 3) := by decide +kernel
theorem dX9_stepOverNumber_37 : decode cX9_stepOverNumber 37 = .ok (.aload_n 0, 1) := by decide +kernel
theorem dX9_stepOverNumber_38 : decode cX9_stepOverNumber 38 = .ok (.sipush 1000, 3) := by decide +kernel
theorem dX9_stepOverNumber_41 : decode cX9_stepOverNumber 41 = .ok (.aload_n 0, 1) := by decide +kernel
theorem dX9_stepOverNumber_42 : decode cX9_stepOverNumber 42 = .ok (.getfield 47, 3) := by decide +kernel
theorem dX9_stepOverNumber_45 : decode cX9_stepOverNumber 45 = .ok (.bipush 10, 2) := by decide +kernel
theorem dX9_stepOverNumber_47 : decode cX9_stepOverNumber 47 = .ok (.imul, 1) := by decide +kernel
theorem dX9_stepOverNumber_48 : decode cX9_stepOverNumber 48 = .ok (.aload_n 0, 1) := by decide +kernel
theorem dX9_stepOverNumber_49 : decode cX9_stepOverNumber 49 = .ok (.getfield 9, 3) := by decide +kernel
theorem dX9_stepOverNumber_52 : decode cX9_stepOverNumber 52 = .ok (.aload_n 0, 1) := by decide +kernel
theorem dX9_stepOverNumber_53 : decode cX9_stepOverNumber 53 = .ok (.getfield 19, 3) := by decide +kernel
theorem dX9_stepOverNumber_56 : decode cX9_stepOverNumber 56 = .ok (.iaload, 1) := by decide +kernel
theorem dX9_stepOverNumber_57 : decode cX9_stepOverNumber 57 = .ok (.iadd, 1) := by decide +kernel
theorem dX9_stepOverNumber_58 : decode cX9_stepOverNumber 58 = .ok (.bipush 48, 2) := by decide +kernel
theorem dX9_stepOverNumber_60 : decode cX9_stepOverNumber 60 = .ok (.isub, 1) := by decide +kernel
theorem dX9_stepOverNumber_61 : decode cX9_stepOverNumber 61 = .ok (.invokestatic 92, 3) := by decide +kernel
theorem dX9_stepOverNumber_64 : decode cX9_stepOverNumber 64 = .ok (.putfield 47, 3) := by decide +kernel
theorem dX9_stepOverNumber_67 : decode cX9_stepOverNumber 67 = .ok (.aload_n 0, 1) := by decide +kernel
theorem dX9_stepOverNumber_68 : decode cX9_stepOverNumber 68 = .ok (.dup, 1) := by decide +kernel
theorem dX9_stepOverNumber_69 : decode cX9_stepOverNumber 69 = .ok (.getfield 19, 3) := by decide +kernel
theorem dX9_stepOverNumber_72 : decode cX9_stepOverNumber 72 = .ok (.iconst 1, 1) := by decide +kernel
theorem dX9_stepOverNumber_73 : decode cX9_stepOverNumber 73 = .ok (.iadd, 1) := by decide +kernel
theorem dX9_stepOverNumber_74 : decode cX9_stepOverNumber 74 = .ok (.putfield 19, 3) := by decide +kernel
theorem dX9_stepOverNumber_77 : decode cX9_stepOverNumber 77 = .ok (.goto (-66), 3) := by decide +kernel
theorem dX9_stepOverNumber_80 : decode cX9_stepOverNumber 80 = .ok (.return_, 1) := by decide +kernel
theorem dX9_isLetter_0 : decode cX9_isLetter 0 = .ok (.iload_n 0, 1) := by decide +kernel
theorem dX9_isLetter_1 : decode cX9_isLetter 1 = .ok (.bipush 97, 2) := by decide +kernel
theorem dX9_isLetter_3 : decode cX9_isLetter 3 = .ok (.if_icmp .lt 13, 3) := by decide +kernel
theorem dX9_isLetter_6 : decode cX9_isLetter 6 = .ok (.iload_n 0, 1) := by decide +kernel
theorem dX9_isLetter_7 : decode cX9_isLetter 7 = .ok (.bipush 122, 2) := by decide +kernel
theorem dX9_isLetter_9 : decode cX9_isLetter 9 = .ok (.if_icmp .gt 7, 3) := by decide +kernel
theorem dX9_isLetter_12 : decode cX9_isLetter 12 = .ok (.iconst 1, 1) := by decide +kernel
theorem dX9_isLetter_13 : decode cX9_isLetter 13 = .ok (.goto 4, 3) := by decide +kernel
theorem dX9_isLetter_16 : decode cX9_isLetter 16 = .ok (.iconst 0, 1) := by decide +kernel
theorem dX9_isLetter_17 : decode cX9_isLetter 17 = .ok (.ireturn, 1) := by decide +kernel
theorem dX9_isDigit_0 : decode cX9_isDigit 0 = .ok (.iload_n 0, 1) := by decide +kernel
theorem dX9_isDigit_1 : decode cX9_isDigit 1 = .ok (.bipush 48, 2) := by decide +kernel
theorem dX9_isDigit_3 : decode cX9_isDigit 3 = .ok (.if_icmp .lt 13, 3) := by decide +kernel
theorem dX9_isDigit_6 : decode cX9_isDigit 6 = .ok (.iload_n 0, 1) := by decide +kernel
theorem dX9_isDigit_7 : decode cX9_isDigit 7 = .ok (.bipush 57, 2) := by decide +kernel
theorem dX9_isDigit_9 : decode cX9_isDigit 9 = .ok (.if_icmp .gt 7, 3) := by decide +kernel
theorem dX9_isDigit_12 : decode cX9_isDigit 12 = .ok (.iconst 1, 1) := by decide +kernel
theorem dX9_isDigit_13 : decode cX9_isDigit 13 = .ok (.goto 4, 3) := by decide +kernel
theorem dX9_isDigit_16 : decode cX9_isDigit 16 = .ok (.iconst 0, 1) := by decide +kernel
theorem dX9_isDigit_17 : decode cX9_isDigit 17 = .ok (.ireturn, 1) := by decide +kernel
theorem dX9_reads_0 : decode cX9_reads 0 = .ok (.aload_n 1, 1) := by decide +kernel
theorem dX9_reads_1 : decode cX9_reads 1 = .ok (.invokevirtual 97, 3) := by decide +kernel
theorem dX9_reads_4 : decode cX9_reads 4 = .ok (.aload_n 0, 1) := by decide +kernel
theorem dX9_reads_5 : decode cX9_reads 5 = .ok (.getfield 19, 3) := by decide +kernel
theorem dX9_reads_8 : decode cX9_reads 8 = .ok (.aload_n 0, 1) := by decide +kernel
theorem dX9_reads_9 : decode cX9_reads 9 = .ok (.getfield 32, 3) := by decide +kernel
theorem dX9_reads_12 : decode cX9_reads 12 = .ok (.isub, 1) := by decide +kernel
theorem dX9_reads_13 : decode cX9_reads 13 = .ok (.if_icmp .eq 5, 3) := by decide +kernel
theorem dX9_reads_16 : decode cX9_reads 16 = .ok (.iconst 0, 1) := by decide +kernel
theorem dX9_reads_17 : decode cX9_reads 17 = .ok (.ireturn, 1) := by decide +kernel
theorem dX9_reads_18 : decode cX9_reads 18 = .ok (.iconst 0, 1) := by decide +kernel
theorem dX9_reads_19 : decode cX9_reads 19 = .ok (.istore_n 2, 1) := by decide +kernel
theorem dX9_reads_20 : decode cX9_reads 20 = .ok (.iload_n 2, 1) := by decide +kernel
theorem dX9_reads_21 : decode cX9_reads 21 = .ok (.aload_n 1, 1) := by decide +kernel
theorem dX9_reads_22 : decode cX9_reads 22 = .ok (.invokevirtual 97, 3) := by decide +kernel
theorem dX9_reads_25 : decode cX9_reads 25 = .ok (.if_icmp .ge 30, 3) := by decide +kernel
theorem dX9_reads_28 : decode cX9_reads 28 = .ok (.aload_n 0, 1) := by decide +kernel
theorem dX9_reads_29 : decode cX9_reads 29 = .ok (.getfield 9, 3) := by decide +kernel
theorem dX9_reads_32 : decode cX9_reads 32 = .ok (.aload_n 0, 1) := by decide +kernel
theorem dX9_reads_33 : decode cX9_reads 33 = .ok (.getfield 32, 3) := by decide +kernel
theorem dX9_reads_36 : decode cX9_reads 36 = .ok (.iload_n 2, 1) := by decide +kernel
theorem dX9_reads_37 : decode cX9_reads 37 = .ok (.iadd, 1) := by decide +kernel
theorem dX9_reads_38 : decode cX9_reads 38 = .ok (.iaload, 1) := by decide +kernel
theorem dX9_reads_39 : decode cX9_reads 39 = .ok (.aload_n 1, 1) := by decide +kernel
theorem dX9_reads_40 : decode cX9_reads 40 = .ok (.iload_n 2, 1) := by decide +kernel
theorem dX9_reads_41 : decode cX9_reads 41 = .ok (.invokevirtual 102, 3) := by decide +kernel
theorem dX9_reads_44 : decode cX9_reads 44 = .ok (.if_icmp .eq 5, 3) := by decide +kernel
theorem dX9_reads_47 : decode cX9_reads 47 = .ok (.iconst 0, 1) := by decide +kernel
theorem dX9_reads_48 : decode cX9_reads 48 = .ok (.ireturn, 1) := by decide +kernel
theorem dX9_reads_49 : decode cX9_reads 49 = .ok (.iinc 2 1, 3) := by decide +kernel
theorem dX9_reads_52 : decode cX9_reads 52 = .ok (.goto (-32), 3) := by decide +kernel
theorem dX9_reads_55 : decode cX9_reads 55 = .ok (.iconst 1, 1) := by decide +kernel
theorem dX9_reads_56 : decode cX9_reads 56 = .ok (.ireturn, 1) := by decide +kernel
theorem dX9_nameOf_0 : decode cX9_nameOf 0 = .ok (.iload_n 0, 1) := by decide +kernel
theorem dX9_nameOf_1 : decode cX9_nameOf 1 = .ok (.tableswitch 92 0 10 #[59, 62, 65, 68, 71, 74, 77, 80, 83, 86, 89], 59) := by decide +kernel
theorem dX9_nameOf_60 : decode cX9_nameOf 60 = .ok (.ldc 106, 2) := by decide +kernel
theorem dX9_nameOf_62 : decode cX9_nameOf 62 = .ok (.areturn, 1) := by decide +kernel
theorem dX9_nameOf_63 : decode cX9_nameOf 63 = .ok (.ldc 108, 2) := by decide +kernel
theorem dX9_nameOf_65 : decode cX9_nameOf 65 = .ok (.areturn, 1) := by decide +kernel
theorem dX9_nameOf_66 : decode cX9_nameOf 66 = .ok (.ldc 110, 2) := by decide +kernel
theorem dX9_nameOf_68 : decode cX9_nameOf 68 = .ok (.areturn, 1) := by decide +kernel
theorem dX9_nameOf_69 : decode cX9_nameOf 69 = .ok (.ldc 112, 2) := by decide +kernel
theorem dX9_nameOf_71 : decode cX9_nameOf 71 = .ok (.areturn, 1) := by decide +kernel
theorem dX9_nameOf_72 : decode cX9_nameOf 72 = .ok (.ldc 114, 2) := by decide +kernel
theorem dX9_nameOf_74 : decode cX9_nameOf 74 = .ok (.areturn, 1) := by decide +kernel
theorem dX9_nameOf_75 : decode cX9_nameOf 75 = .ok (.ldc 116, 2) := by decide +kernel
theorem dX9_nameOf_77 : decode cX9_nameOf 77 = .ok (.areturn, 1) := by decide +kernel
theorem dX9_nameOf_78 : decode cX9_nameOf 78 = .ok (.ldc 118, 2) := by decide +kernel
theorem dX9_nameOf_80 : decode cX9_nameOf 80 = .ok (.areturn, 1) := by decide +kernel
theorem dX9_nameOf_81 : decode cX9_nameOf 81 = .ok (.ldc 120, 2) := by decide +kernel
theorem dX9_nameOf_83 : decode cX9_nameOf 83 = .ok (.areturn, 1) := by decide +kernel
theorem dX9_nameOf_84 : decode cX9_nameOf 84 = .ok (.ldc 122, 2) := by decide +kernel
theorem dX9_nameOf_86 : decode cX9_nameOf 86 = .ok (.areturn, 1) := by decide +kernel
theorem dX9_nameOf_87 : decode cX9_nameOf 87 = .ok (.ldc 124, 2) := by decide +kernel
theorem dX9_nameOf_89 : decode cX9_nameOf 89 = .ok (.areturn, 1) := by decide +kernel
theorem dX9_nameOf_90 : decode cX9_nameOf 90 = .ok (.ldc 126, 2) := by decide +kernel
theorem dX9_nameOf_92 : decode cX9_nameOf 92 = .ok (.areturn, 1) := by decide +kernel
theorem dX9_nameOf_93 : decode cX9_nameOf 93 = .ok (.ldc 128, 2) := by decide +kernel
theorem dX9_nameOf_95 : decode cX9_nameOf 95 = .ok (.areturn, 1) := by decide +kernel
theorem dX10_init_0 : decode cX10_init 0 = .ok (.aload_n 0, 1) := by decide +kernel
theorem dX10_init_1 : decode cX10_init 1 = .ok (.invokespecial 3, 3) := by decide +kernel
theorem dX10_init_4 : decode cX10_init 4 = .ok (.aload_n 0, 1) := by decide +kernel
theorem dX10_init_5 : decode cX10_init 5 = .ok (.aload_n 1, 1) := by decide +kernel
theorem dX10_init_6 : decode cX10_init 6 = .ok (.putfield 9, 3) := by decide +kernel
theorem dX10_init_9 : decode cX10_init 9 = .ok (.aload_n 0, 1) := by decide +kernel
theorem dX10_init_10 : decode cX10_init 10 = .ok (.bipush 6, 2) := by decide +kernel
theorem dX10_init_12 : decode cX10_init 12 = .ok (.anewarray 15, 3) := by decide +kernel
theorem dX10_init_15 : decode cX10_init 15 = .ok (.putfield 17, 3) := by decide +kernel
theorem dX10_init_18 : decode cX10_init 18 = .ok (.iconst 0, 1) := by decide +kernel
theorem dX10_init_19 : decode cX10_init 19 = .ok (.istore_n 2, 1) := by decide +kernel
theorem dX10_init_20 : decode cX10_init 20 = .ok (.iload_n 2, 1) := by decide +kernel
theorem dX10_init_21 : decode cX10_init 21 = .ok (.bipush 6, 2) := by decide +kernel
theorem dX10_init_23 : decode cX10_init 23 = .ok (.if_icmp .ge 22, 3) := by decide +kernel
theorem dX10_init_26 : decode cX10_init 26 = .ok (.aload_n 0, 1) := by decide +kernel
theorem dX10_init_27 : decode cX10_init 27 = .ok (.getfield 17, 3) := by decide +kernel
theorem dX10_init_30 : decode cX10_init 30 = .ok (.iload_n 2, 1) := by decide +kernel
theorem dX10_init_31 : decode cX10_init 31 = .ok (.new 15, 3) := by decide +kernel
theorem dX10_init_34 : decode cX10_init 34 = .ok (.dup, 1) := by decide +kernel
theorem dX10_init_35 : decode cX10_init 35 = .ok (.invokespecial 21, 3) := by decide +kernel
theorem dX10_init_38 : decode cX10_init 38 = .ok (.aastore, 1) := by decide +kernel
theorem dX10_init_39 : decode cX10_init 39 = .ok (.iinc 2 1, 3) := by decide +kernel
theorem dX10_init_42 : decode cX10_init 42 = .ok (.goto (-22), 3) := by decide +kernel
theorem dX10_init_45 : decode cX10_init 45 = .ok (.aload_n 0, 1) := by decide +kernel
theorem dX10_init_46 : decode cX10_init 46 = .ok (.bipush 8, 2) := by decide +kernel
theorem dX10_init_48 : decode cX10_init 48 = .ok (.anewarray 22, 3) := by decide +kernel
theorem dX10_init_51 : decode cX10_init 51 = .ok (.putfield 24, 3) := by decide +kernel
theorem dX10_init_54 : decode cX10_init 54 = .ok (.iconst 0, 1) := by decide +kernel
theorem dX10_init_55 : decode cX10_init 55 = .ok (.istore_n 2, 1) := by decide +kernel
theorem dX10_init_56 : decode cX10_init 56 = .ok (.iload_n 2, 1) := by decide +kernel
theorem dX10_init_57 : decode cX10_init 57 = .ok (.bipush 8, 2) := by decide +kernel
theorem dX10_init_59 : decode cX10_init 59 = .ok (.if_icmp .ge 22, 3) := by decide +kernel
theorem dX10_init_62 : decode cX10_init 62 = .ok (.aload_n 0, 1) := by decide +kernel
theorem dX10_init_63 : decode cX10_init 63 = .ok (.getfield 24, 3) := by decide +kernel
theorem dX10_init_66 : decode cX10_init 66 = .ok (.iload_n 2, 1) := by decide +kernel
theorem dX10_init_67 : decode cX10_init 67 = .ok (.new 22, 3) := by decide +kernel
theorem dX10_init_70 : decode cX10_init 70 = .ok (.dup, 1) := by decide +kernel
theorem dX10_init_71 : decode cX10_init 71 = .ok (.invokespecial 28, 3) := by decide +kernel
theorem dX10_init_74 : decode cX10_init 74 = .ok (.aastore, 1) := by decide +kernel
theorem dX10_init_75 : decode cX10_init 75 = .ok (.iinc 2 1, 3) := by decide +kernel
theorem dX10_init_78 : decode cX10_init 78 = .ok (.goto (-22), 3) := by decide +kernel
theorem dX10_init_81 : decode cX10_init 81 = .ok (.return_, 1) := by decide +kernel
theorem dX10_become_0 : decode cX10_become 0 = .ok (.aload_n 0, 1) := by decide +kernel
theorem dX10_become_1 : decode cX10_become 1 = .ok (.aload_n 1, 1) := by decide +kernel
theorem dX10_become_2 : decode cX10_become 2 = .ok (.getfield 29, 3) := by decide +kernel
theorem dX10_become_5 : decode cX10_become 5 = .ok (.putfield 29, 3) := by decide +kernel
theorem dX10_become_8 : decode cX10_become 8 = .ok (.aload_n 0, 1) := by decide +kernel
theorem dX10_become_9 : decode cX10_become 9 = .ok (.aload_n 1, 1) := by decide +kernel
theorem dX10_become_10 : decode cX10_become 10 = .ok (.getfield 33, 3) := by decide +kernel
theorem dX10_become_13 : decode cX10_become 13 = .ok (.putfield 33, 3) := by decide +kernel
theorem dX10_become_16 : decode cX10_become 16 = .ok (.aload_n 0, 1) := by decide +kernel
theorem dX10_become_17 : decode cX10_become 17 = .ok (.aload_n 1, 1) := by decide +kernel
theorem dX10_become_18 : decode cX10_become 18 = .ok (.getfield 36, 3) := by decide +kernel
theorem dX10_become_21 : decode cX10_become 21 = .ok (.putfield 36, 3) := by decide +kernel
theorem dX10_become_24 : decode cX10_become 24 = .ok (.iconst 0, 1) := by decide +kernel
theorem dX10_become_25 : decode cX10_become 25 = .ok (.istore_n 2, 1) := by decide +kernel
theorem dX10_become_26 : decode cX10_become 26 = .ok (.iload_n 2, 1) := by decide +kernel
theorem dX10_become_27 : decode cX10_become 27 = .ok (.aload_n 0, 1) := by decide +kernel
theorem dX10_become_28 : decode cX10_become 28 = .ok (.getfield 33, 3) := by decide +kernel
theorem dX10_become_31 : decode cX10_become 31 = .ok (.if_icmp .ge 24, 3) := by decide +kernel
theorem dX10_become_34 : decode cX10_become 34 = .ok (.aload_n 0, 1) := by decide +kernel
theorem dX10_become_35 : decode cX10_become 35 = .ok (.getfield 17, 3) := by decide +kernel
theorem dX10_become_38 : decode cX10_become 38 = .ok (.iload_n 2, 1) := by decide +kernel
theorem dX10_become_39 : decode cX10_become 39 = .ok (.aaload, 1) := by decide +kernel
theorem dX10_become_40 : decode cX10_become 40 = .ok (.aload_n 1, 1) := by decide +kernel
theorem dX10_become_41 : decode cX10_become 41 = .ok (.getfield 17, 3) := by decide +kernel
theorem dX10_become_44 : decode cX10_become 44 = .ok (.iload_n 2, 1) := by decide +kernel
theorem dX10_become_45 : decode cX10_become 45 = .ok (.aaload, 1) := by decide +kernel
theorem dX10_become_46 : decode cX10_become 46 = .ok (.invokevirtual 39, 3) := by decide +kernel
theorem dX10_become_49 : decode cX10_become 49 = .ok (.iinc 2 1, 3) := by decide +kernel
theorem dX10_become_52 : decode cX10_become 52 = .ok (.goto (-26), 3) := by decide +kernel
theorem dX10_become_55 : decode cX10_become 55 = .ok (.iconst 0, 1) := by decide +kernel
theorem dX10_become_56 : decode cX10_become 56 = .ok (.istore_n 2, 1) := by decide +kernel
theorem dX10_become_57 : decode cX10_become 57 = .ok (.iload_n 2, 1) := by decide +kernel
theorem dX10_become_58 : decode cX10_become 58 = .ok (.aload_n 0, 1) := by decide +kernel
theorem dX10_become_59 : decode cX10_become 59 = .ok (.getfield 36, 3) := by decide +kernel
theorem dX10_become_62 : decode cX10_become 62 = .ok (.if_icmp .ge 24, 3) := by decide +kernel
theorem dX10_become_65 : decode cX10_become 65 = .ok (.aload_n 0, 1) := by decide +kernel
theorem dX10_become_66 : decode cX10_become 66 = .ok (.getfield 24, 3) := by decide +kernel
theorem dX10_become_69 : decode cX10_become 69 = .ok (.iload_n 2, 1) := by decide +kernel
theorem dX10_become_70 : decode cX10_become 70 = .ok (.aaload, 1) := by decide +kernel
theorem dX10_become_71 : decode cX10_become 71 = .ok (.aload_n 1, 1) := by decide +kernel
theorem dX10_become_72 : decode cX10_become 72 = .ok (.getfield 24, 3) := by decide +kernel
theorem dX10_become_75 : decode cX10_become 75 = .ok (.iload_n 2, 1) := by decide +kernel
theorem dX10_become_76 : decode cX10_become 76 = .ok (.aaload, 1) := by decide +kernel
theorem dX10_become_77 : decode cX10_become 77 = .ok (.invokevirtual 43, 3) := by decide +kernel
theorem dX10_become_80 : decode cX10_become 80 = .ok (.iinc 2 1, 3) := by decide +kernel
theorem dX10_become_83 : decode cX10_become 83 = .ok (.goto (-26), 3) := by decide +kernel
theorem dX10_become_86 : decode cX10_become 86 = .ok (.return_, 1) := by decide +kernel
theorem dX10_addPerson_0 : decode cX10_addPerson 0 = .ok (.aload_n 0, 1) := by decide +kernel
theorem dX10_addPerson_1 : decode cX10_addPerson 1 = .ok (.getfield 33, 3) := by decide +kernel
theorem dX10_addPerson_4 : decode cX10_addPerson 4 = .ok (.bipush 6, 2) := by decide +kernel
theorem dX10_addPerson_6 : decode cX10_addPerson 6 = .ok (.if_icmp .lt 5, 3) := by decide +kernel
theorem dX10_addPerson_9 : decode cX10_addPerson 9 = .ok (.iconst (-1), 1) := by decide +kernel
theorem dX10_addPerson_10 : decode cX10_addPerson 10 = .ok (.ireturn, 1) := by decide +kernel
theorem dX10_addPerson_11 : decode cX10_addPerson 11 = .ok (.aload_n 0, 1) := by decide +kernel
theorem dX10_addPerson_12 : decode cX10_addPerson 12 = .ok (.getfield 17, 3) := by decide +kernel
theorem dX10_addPerson_15 : decode cX10_addPerson 15 = .ok (.aload_n 0, 1) := by decide +kernel
theorem dX10_addPerson_16 : decode cX10_addPerson 16 = .ok (.getfield 33, 3) := by decide +kernel
theorem dX10_addPerson_19 : decode cX10_addPerson 19 = .ok (.aaload, 1) := by decide +kernel
theorem dX10_addPerson_20 : decode cX10_addPerson 20 = .ok (.iload_n 1, 1) := by decide +kernel
theorem dX10_addPerson_21 : decode cX10_addPerson 21 = .ok (.putfield 46, 3) := by decide +kernel
theorem dX10_addPerson_24 : decode cX10_addPerson 24 = .ok (.aload_n 0, 1) := by decide +kernel
theorem dX10_addPerson_25 : decode cX10_addPerson 25 = .ok (.getfield 17, 3) := by decide +kernel
theorem dX10_addPerson_28 : decode cX10_addPerson 28 = .ok (.aload_n 0, 1) := by decide +kernel
theorem dX10_addPerson_29 : decode cX10_addPerson 29 = .ok (.getfield 33, 3) := by decide +kernel
theorem dX10_addPerson_32 : decode cX10_addPerson 32 = .ok (.aaload, 1) := by decide +kernel
theorem dX10_addPerson_33 : decode cX10_addPerson 33 = .ok (.iconst 0, 1) := by decide +kernel
theorem dX10_addPerson_34 : decode cX10_addPerson 34 = .ok (.putfield 49, 3) := by decide +kernel
theorem dX10_addPerson_37 : decode cX10_addPerson 37 = .ok (.aload_n 0, 1) := by decide +kernel
theorem dX10_addPerson_38 : decode cX10_addPerson 38 = .ok (.dup, 1) := by decide +kernel
theorem dX10_addPerson_39 : decode cX10_addPerson 39 = .ok (.getfield 33, 3) := by decide +kernel
theorem dX10_addPerson_42 : decode cX10_addPerson 42 = .ok (.iconst 1, 1) := by decide +kernel
theorem dX10_addPerson_43 : decode cX10_addPerson 43 = .ok (.iadd, 1) := by decide +kernel
theorem dX10_addPerson_44 : decode cX10_addPerson 44 = .ok (.putfield 33, 3) := by decide +kernel
theorem dX10_addPerson_47 : decode cX10_addPerson 47 = .ok (.aload_n 0, 1) := by decide +kernel
theorem dX10_addPerson_48 : decode cX10_addPerson 48 = .ok (.getfield 33, 3) := by decide +kernel
theorem dX10_addPerson_51 : decode cX10_addPerson 51 = .ok (.iconst 1, 1) := by decide +kernel
theorem dX10_addPerson_52 : decode cX10_addPerson 52 = .ok (.isub, 1) := by decide +kernel
theorem dX10_addPerson_53 : decode cX10_addPerson 53 = .ok (.ireturn, 1) := by decide +kernel
theorem dX10_addPresent_0 : decode cX10_addPresent 0 = .ok (.aload_n 0, 1) := by decide +kernel
theorem dX10_addPresent_1 : decode cX10_addPresent 1 = .ok (.getfield 36, 3) := by decide +kernel
theorem dX10_addPresent_4 : decode cX10_addPresent 4 = .ok (.bipush 8, 2) := by decide +kernel
theorem dX10_addPresent_6 : decode cX10_addPresent 6 = .ok (.if_icmp .lt 5, 3) := by decide +kernel
theorem dX10_addPresent_9 : decode cX10_addPresent 9 = .ok (.iconst (-1), 1) := by decide +kernel
theorem dX10_addPresent_10 : decode cX10_addPresent 10 = .ok (.ireturn, 1) := by decide +kernel
theorem dX10_addPresent_11 : decode cX10_addPresent 11 = .ok (.aload_n 0, 1) := by decide +kernel
theorem dX10_addPresent_12 : decode cX10_addPresent 12 = .ok (.getfield 24, 3) := by decide +kernel
theorem dX10_addPresent_15 : decode cX10_addPresent 15 = .ok (.aload_n 0, 1) := by decide +kernel
theorem dX10_addPresent_16 : decode cX10_addPresent 16 = .ok (.getfield 36, 3) := by decide +kernel
theorem dX10_addPresent_19 : decode cX10_addPresent 19 = .ok (.aaload, 1) := by decide +kernel
theorem dX10_addPresent_20 : decode cX10_addPresent 20 = .ok (.iload_n 1, 1) := by decide +kernel
theorem dX10_addPresent_21 : decode cX10_addPresent 21 = .ok (.iload_n 2, 1) := by decide +kernel
theorem dX10_addPresent_22 : decode cX10_addPresent 22 = .ok (.invokevirtual 52, 3) := by decide +kernel
theorem dX10_addPresent_25 : decode cX10_addPresent 25 = .ok (.aload_n 0, 1) := by decide +kernel
theorem dX10_addPresent_26 : decode cX10_addPresent 26 = .ok (.dup, 1) := by decide +kernel
theorem dX10_addPresent_27 : decode cX10_addPresent 27 = .ok (.getfield 36, 3) := by decide +kernel
theorem dX10_addPresent_30 : decode cX10_addPresent 30 = .ok (.iconst 1, 1) := by decide +kernel
theorem dX10_addPresent_31 : decode cX10_addPresent 31 = .ok (.iadd, 1) := by decide +kernel
theorem dX10_addPresent_32 : decode cX10_addPresent 32 = .ok (.putfield 36, 3) := by decide +kernel
theorem dX10_addPresent_35 : decode cX10_addPresent 35 = .ok (.aload_n 0, 1) := by decide +kernel
theorem dX10_addPresent_36 : decode cX10_addPresent 36 = .ok (.getfield 36, 3) := by decide +kernel
theorem dX10_addPresent_39 : decode cX10_addPresent 39 = .ok (.iconst 1, 1) := by decide +kernel
theorem dX10_addPresent_40 : decode cX10_addPresent 40 = .ok (.isub, 1) := by decide +kernel
theorem dX10_addPresent_41 : decode cX10_addPresent 41 = .ok (.ireturn, 1) := by decide +kernel
theorem dX10_mannerOf_0 : decode cX10_mannerOf 0 = .ok (.aload_n 0, 1) := by decide +kernel
theorem dX10_mannerOf_1 : decode cX10_mannerOf 1 = .ok (.getfield 9, 3) := by decide +kernel
theorem dX10_mannerOf_4 : decode cX10_mannerOf 4 = .ok (.aload_n 0, 1) := by decide +kernel
theorem dX10_mannerOf_5 : decode cX10_mannerOf 5 = .ok (.getfield 17, 3) := by decide +kernel
theorem dX10_mannerOf_8 : decode cX10_mannerOf 8 = .ok (.iload_n 1, 1) := by decide +kernel
theorem dX10_mannerOf_9 : decode cX10_mannerOf 9 = .ok (.aaload, 1) := by decide +kernel
theorem dX10_mannerOf_10 : decode cX10_mannerOf 10 = .ok (.getfield 46, 3) := by decide +kernel
theorem dX10_mannerOf_13 : decode cX10_mannerOf 13 = .ok (.aaload, 1) := by decide +kernel
theorem dX10_mannerOf_14 : decode cX10_mannerOf 14 = .ok (.areturn, 1) := by decide +kernel
theorem dX10_giftsWith_0 : decode cX10_giftsWith 0 = .ok (.iconst 0, 1) := by decide +kernel
theorem dX10_giftsWith_1 : decode cX10_giftsWith 1 = .ok (.istore_n 2, 1) := by decide +kernel
theorem dX10_giftsWith_2 : decode cX10_giftsWith 2 = .ok (.iconst 0, 1) := by decide +kernel
theorem dX10_giftsWith_3 : decode cX10_giftsWith 3 = .ok (.istore_n 3, 1) := by decide +kernel
theorem dX10_giftsWith_4 : decode cX10_giftsWith 4 = .ok (.iload_n 3, 1) := by decide +kernel
theorem dX10_giftsWith_5 : decode cX10_giftsWith 5 = .ok (.aload_n 0, 1) := by decide +kernel
theorem dX10_giftsWith_6 : decode cX10_giftsWith 6 = .ok (.getfield 36, 3) := by decide +kernel
theorem dX10_giftsWith_9 : decode cX10_giftsWith 9 = .ok (.if_icmp .ge 28, 3) := by decide +kernel
theorem dX10_giftsWith_12 : decode cX10_giftsWith 12 = .ok (.aload_n 0, 1) := by decide +kernel
theorem dX10_giftsWith_13 : decode cX10_giftsWith 13 = .ok (.getfield 24, 3) := by decide +kernel
theorem dX10_giftsWith_16 : decode cX10_giftsWith 16 = .ok (.iload_n 3, 1) := by decide +kernel
theorem dX10_giftsWith_17 : decode cX10_giftsWith 17 = .ok (.aaload, 1) := by decide +kernel
theorem dX10_giftsWith_18 : decode cX10_giftsWith 18 = .ok (.getfield 56, 3) := by decide +kernel
theorem dX10_giftsWith_21 : decode cX10_giftsWith 21 = .ok (.iload_n 1, 1) := by decide +kernel
theorem dX10_giftsWith_22 : decode cX10_giftsWith 22 = .ok (.if_icmp .ne 9, 3) := by decide +kernel
theorem dX10_giftsWith_25 : decode cX10_giftsWith 25 = .ok (.iload_n 2, 1) := by decide +kernel
theorem dX10_giftsWith_26 : decode cX10_giftsWith 26 = .ok (.iconst 1, 1) := by decide +kernel
theorem dX10_giftsWith_27 : decode cX10_giftsWith 27 = .ok (.iload_n 3, 1) := by decide +kernel
theorem dX10_giftsWith_28 : decode cX10_giftsWith 28 = .ok (.ishl, 1) := by decide +kernel
theorem dX10_giftsWith_29 : decode cX10_giftsWith 29 = .ok (.ior, 1) := by decide +kernel
theorem dX10_giftsWith_30 : decode cX10_giftsWith 30 = .ok (.istore_n 2, 1) := by decide +kernel
theorem dX10_giftsWith_31 : decode cX10_giftsWith 31 = .ok (.iinc 3 1, 3) := by decide +kernel
theorem dX10_giftsWith_34 : decode cX10_giftsWith 34 = .ok (.goto (-30), 3) := by decide +kernel
theorem dX10_giftsWith_37 : decode cX10_giftsWith 37 = .ok (.iload_n 2, 1) := by decide +kernel
theorem dX10_giftsWith_38 : decode cX10_giftsWith 38 = .ok (.ireturn, 1) := by decide +kernel
theorem dX10_opened_0 : decode cX10_opened 0 = .ok (.iconst 0, 1) := by decide +kernel
theorem dX10_opened_1 : decode cX10_opened 1 = .ok (.istore_n 1, 1) := by decide +kernel
theorem dX10_opened_2 : decode cX10_opened 2 = .ok (.iconst 0, 1) := by decide +kernel
theorem dX10_opened_3 : decode cX10_opened 3 = .ok (.istore_n 2, 1) := by decide +kernel
theorem dX10_opened_4 : decode cX10_opened 4 = .ok (.iload_n 2, 1) := by decide +kernel
theorem dX10_opened_5 : decode cX10_opened 5 = .ok (.aload_n 0, 1) := by decide +kernel
theorem dX10_opened_6 : decode cX10_opened 6 = .ok (.getfield 36, 3) := by decide +kernel
theorem dX10_opened_9 : decode cX10_opened 9 = .ok (.if_icmp .ge 27, 3) := by decide +kernel
theorem dX10_opened_12 : decode cX10_opened 12 = .ok (.aload_n 0, 1) := by decide +kernel
theorem dX10_opened_13 : decode cX10_opened 13 = .ok (.getfield 24, 3) := by decide +kernel
theorem dX10_opened_16 : decode cX10_opened 16 = .ok (.iload_n 2, 1) := by decide +kernel
theorem dX10_opened_17 : decode cX10_opened 17 = .ok (.aaload, 1) := by decide +kernel
theorem dX10_opened_18 : decode cX10_opened 18 = .ok (.getfield 59, 3) := by decide +kernel
theorem dX10_opened_21 : decode cX10_opened 21 = .ok (.ifCond .eq 9, 3) := by decide +kernel
theorem dX10_opened_24 : decode cX10_opened 24 = .ok (.iload_n 1, 1) := by decide +kernel
theorem dX10_opened_25 : decode cX10_opened 25 = .ok (.iconst 1, 1) := by decide +kernel
theorem dX10_opened_26 : decode cX10_opened 26 = .ok (.iload_n 2, 1) := by decide +kernel
theorem dX10_opened_27 : decode cX10_opened 27 = .ok (.ishl, 1) := by decide +kernel
theorem dX10_opened_28 : decode cX10_opened 28 = .ok (.ior, 1) := by decide +kernel
theorem dX10_opened_29 : decode cX10_opened 29 = .ok (.istore_n 1, 1) := by decide +kernel
theorem dX10_opened_30 : decode cX10_opened 30 = .ok (.iinc 2 1, 3) := by decide +kernel
theorem dX10_opened_33 : decode cX10_opened 33 = .ok (.goto (-29), 3) := by decide +kernel
theorem dX10_opened_36 : decode cX10_opened 36 = .ok (.iload_n 1, 1) := by decide +kernel
theorem dX10_opened_37 : decode cX10_opened 37 = .ok (.ireturn, 1) := by decide +kernel
theorem dX10_unopened_0 : decode cX10_unopened 0 = .ok (.iconst 1, 1) := by decide +kernel
theorem dX10_unopened_1 : decode cX10_unopened 1 = .ok (.aload_n 0, 1) := by decide +kernel
theorem dX10_unopened_2 : decode cX10_unopened 2 = .ok (.getfield 36, 3) := by decide +kernel
theorem dX10_unopened_5 : decode cX10_unopened 5 = .ok (.ishl, 1) := by decide +kernel
theorem dX10_unopened_6 : decode cX10_unopened 6 = .ok (.iconst 1, 1) := by decide +kernel
theorem dX10_unopened_7 : decode cX10_unopened 7 = .ok (.isub, 1) := by decide +kernel
theorem dX10_unopened_8 : decode cX10_unopened 8 = .ok (.aload_n 0, 1) := by decide +kernel
theorem dX10_unopened_9 : decode cX10_unopened 9 = .ok (.invokevirtual 63, 3) := by decide +kernel
theorem dX10_unopened_12 : decode cX10_unopened 12 = .ok (.iconst (-1), 1) := by decide +kernel
theorem dX10_unopened_13 : decode cX10_unopened 13 = .ok (.ixor, 1) := by decide +kernel
theorem dX10_unopened_14 : decode cX10_unopened 14 = .ok (.iand, 1) := by decide +kernel
theorem dX10_unopened_15 : decode cX10_unopened 15 = .ok (.ireturn, 1) := by decide +kernel
theorem dX10_joyOfAll_0 : decode cX10_joyOfAll 0 = .ok (.iconst 0, 1) := by decide +kernel
theorem dX10_joyOfAll_1 : decode cX10_joyOfAll 1 = .ok (.istore_n 1, 1) := by decide +kernel
theorem dX10_joyOfAll_2 : decode cX10_joyOfAll 2 = .ok (.iconst 0, 1) := by decide +kernel
theorem dX10_joyOfAll_3 : decode cX10_joyOfAll 3 = .ok (.istore_n 2, 1) := by decide +kernel
theorem dX10_joyOfAll_4 : decode cX10_joyOfAll 4 = .ok (.iload_n 2, 1) := by decide +kernel
theorem dX10_joyOfAll_5 : decode cX10_joyOfAll 5 = .ok (.aload_n 0, 1) := by decide +kernel
theorem dX10_joyOfAll_6 : decode cX10_joyOfAll 6 = .ok (.getfield 33, 3) := by decide +kernel
theorem dX10_joyOfAll_9 : decode cX10_joyOfAll 9 = .ok (.if_icmp .ge 21, 3) := by decide +kernel
theorem dX10_joyOfAll_12 : decode cX10_joyOfAll 12 = .ok (.iload_n 1, 1) := by decide +kernel
theorem dX10_joyOfAll_13 : decode cX10_joyOfAll 13 = .ok (.aload_n 0, 1) := by decide +kernel
theorem dX10_joyOfAll_14 : decode cX10_joyOfAll 14 = .ok (.getfield 17, 3) := by decide +kernel
theorem dX10_joyOfAll_17 : decode cX10_joyOfAll 17 = .ok (.iload_n 2, 1) := by decide +kernel
theorem dX10_joyOfAll_18 : decode cX10_joyOfAll 18 = .ok (.aaload, 1) := by decide +kernel
theorem dX10_joyOfAll_19 : decode cX10_joyOfAll 19 = .ok (.getfield 49, 3) := by decide +kernel
theorem dX10_joyOfAll_22 : decode cX10_joyOfAll 22 = .ok (.iadd, 1) := by decide +kernel
theorem dX10_joyOfAll_23 : decode cX10_joyOfAll 23 = .ok (.istore_n 1, 1) := by decide +kernel
theorem dX10_joyOfAll_24 : decode cX10_joyOfAll 24 = .ok (.iinc 2 1, 3) := by decide +kernel
theorem dX10_joyOfAll_27 : decode cX10_joyOfAll 27 = .ok (.goto (-23), 3) := by decide +kernel
theorem dX10_joyOfAll_30 : decode cX10_joyOfAll 30 = .ok (.iload_n 1, 1) := by decide +kernel
theorem dX10_joyOfAll_31 : decode cX10_joyOfAll 31 = .ok (.ireturn, 1) := by decide +kernel
theorem dX10_layersOfAll_0 : decode cX10_layersOfAll 0 = .ok (.iconst 0, 1) := by decide +kernel
theorem dX10_layersOfAll_1 : decode cX10_layersOfAll 1 = .ok (.istore_n 1, 1) := by decide +kernel
theorem dX10_layersOfAll_2 : decode cX10_layersOfAll 2 = .ok (.iconst 0, 1) := by decide +kernel
theorem dX10_layersOfAll_3 : decode cX10_layersOfAll 3 = .ok (.istore_n 2, 1) := by decide +kernel
theorem dX10_layersOfAll_4 : decode cX10_layersOfAll 4 = .ok (.iload_n 2, 1) := by decide +kernel
theorem dX10_layersOfAll_5 : decode cX10_layersOfAll 5 = .ok (.aload_n 0, 1) := by decide +kernel
theorem dX10_layersOfAll_6 : decode cX10_layersOfAll 6 = .ok (.getfield 36, 3) := by decide +kernel
theorem dX10_layersOfAll_9 : decode cX10_layersOfAll 9 = .ok (.if_icmp .ge 21, 3) := by decide +kernel
theorem dX10_layersOfAll_12 : decode cX10_layersOfAll 12 = .ok (.iload_n 1, 1) := by decide +kernel
theorem dX10_layersOfAll_13 : decode cX10_layersOfAll 13 = .ok (.aload_n 0, 1) := by decide +kernel
theorem dX10_layersOfAll_14 : decode cX10_layersOfAll 14 = .ok (.getfield 24, 3) := by decide +kernel
theorem dX10_layersOfAll_17 : decode cX10_layersOfAll 17 = .ok (.iload_n 2, 1) := by decide +kernel
theorem dX10_layersOfAll_18 : decode cX10_layersOfAll 18 = .ok (.aaload, 1) := by decide +kernel
theorem dX10_layersOfAll_19 : decode cX10_layersOfAll 19 = .ok (.getfield 67, 3) := by decide +kernel
theorem dX10_layersOfAll_22 : decode cX10_layersOfAll 22 = .ok (.iadd, 1) := by decide +kernel
theorem dX10_layersOfAll_23 : decode cX10_layersOfAll 23 = .ok (.istore_n 1, 1) := by decide +kernel
theorem dX10_layersOfAll_24 : decode cX10_layersOfAll 24 = .ok (.iinc 2 1, 3) := by decide +kernel
theorem dX10_layersOfAll_27 : decode cX10_layersOfAll 27 = .ok (.goto (-23), 3) := by decide +kernel
theorem dX10_layersOfAll_30 : decode cX10_layersOfAll 30 = .ok (.iload_n 1, 1) := by decide +kernel
theorem dX10_layersOfAll_31 : decode cX10_layersOfAll 31 = .ok (.ireturn, 1) := by decide +kernel
theorem dX10_thingsFound_0 : decode cX10_thingsFound 0 = .ok (.iconst 0, 1) := by decide +kernel
theorem dX10_thingsFound_1 : decode cX10_thingsFound 1 = .ok (.istore_n 1, 1) := by decide +kernel
theorem dX10_thingsFound_2 : decode cX10_thingsFound 2 = .ok (.iconst 0, 1) := by decide +kernel
theorem dX10_thingsFound_3 : decode cX10_thingsFound 3 = .ok (.istore_n 2, 1) := by decide +kernel
theorem dX10_thingsFound_4 : decode cX10_thingsFound 4 = .ok (.iload_n 2, 1) := by decide +kernel
theorem dX10_thingsFound_5 : decode cX10_thingsFound 5 = .ok (.aload_n 0, 1) := by decide +kernel
theorem dX10_thingsFound_6 : decode cX10_thingsFound 6 = .ok (.getfield 36, 3) := by decide +kernel
theorem dX10_thingsFound_9 : decode cX10_thingsFound 9 = .ok (.if_icmp .ge 33, 3) := by decide +kernel
theorem dX10_thingsFound_12 : decode cX10_thingsFound 12 = .ok (.aload_n 0, 1) := by decide +kernel
theorem dX10_thingsFound_13 : decode cX10_thingsFound 13 = .ok (.getfield 24, 3) := by decide +kernel
theorem dX10_thingsFound_16 : decode cX10_thingsFound 16 = .ok (.iload_n 2, 1) := by decide +kernel
theorem dX10_thingsFound_17 : decode cX10_thingsFound 17 = .ok (.aaload, 1) := by decide +kernel
theorem dX10_thingsFound_18 : decode cX10_thingsFound 18 = .ok (.getfield 59, 3) := by decide +kernel
theorem dX10_thingsFound_21 : decode cX10_thingsFound 21 = .ok (.ifCond .eq 15, 3) := by decide +kernel
theorem dX10_thingsFound_24 : decode cX10_thingsFound 24 = .ok (.iload_n 1, 1) := by decide +kernel
theorem dX10_thingsFound_25 : decode cX10_thingsFound 25 = .ok (.aload_n 0, 1) := by decide +kernel
theorem dX10_thingsFound_26 : decode cX10_thingsFound 26 = .ok (.getfield 24, 3) := by decide +kernel
theorem dX10_thingsFound_29 : decode cX10_thingsFound 29 = .ok (.iload_n 2, 1) := by decide +kernel
theorem dX10_thingsFound_30 : decode cX10_thingsFound 30 = .ok (.aaload, 1) := by decide +kernel
theorem dX10_thingsFound_31 : decode cX10_thingsFound 31 = .ok (.getfield 70, 3) := by decide +kernel
theorem dX10_thingsFound_34 : decode cX10_thingsFound 34 = .ok (.iadd, 1) := by decide +kernel
theorem dX10_thingsFound_35 : decode cX10_thingsFound 35 = .ok (.istore_n 1, 1) := by decide +kernel
theorem dX10_thingsFound_36 : decode cX10_thingsFound 36 = .ok (.iinc 2 1, 3) := by decide +kernel
theorem dX10_thingsFound_39 : decode cX10_thingsFound 39 = .ok (.goto (-35), 3) := by decide +kernel
theorem dX10_thingsFound_42 : decode cX10_thingsFound 42 = .ok (.iload_n 1, 1) := by decide +kernel
theorem dX10_thingsFound_43 : decode cX10_thingsFound 43 = .ok (.ireturn, 1) := by decide +kernel
theorem dX10_goOn_0 : decode cX10_goOn 0 = .ok (.iconst 0, 1) := by decide +kernel
theorem dX10_goOn_1 : decode cX10_goOn 1 = .ok (.istore_n 2, 1) := by decide +kernel
theorem dX10_goOn_2 : decode cX10_goOn 2 = .ok (.iload_n 2, 1) := by decide +kernel
theorem dX10_goOn_3 : decode cX10_goOn 3 = .ok (.iload_n 1, 1) := by decide +kernel
theorem dX10_goOn_4 : decode cX10_goOn 4 = .ok (.if_icmp .ge 13, 3) := by decide +kernel
theorem dX10_goOn_7 : decode cX10_goOn 7 = .ok (.aload_n 0, 1) := by decide +kernel
theorem dX10_goOn_8 : decode cX10_goOn 8 = .ok (.invokevirtual 73, 3) := by decide +kernel
theorem dX10_goOn_11 : decode cX10_goOn 11 = .ok (.iinc 2 1, 3) := by decide +kernel
theorem dX10_goOn_14 : decode cX10_goOn 14 = .ok (.goto (-12), 3) := by decide +kernel
theorem dX10_goOn_17 : decode cX10_goOn 17 = .ok (.return_, 1) := by decide +kernel
theorem dX10_oneDay_0 : decode cX10_oneDay 0 = .ok (.iconst 0, 1) := by decide +kernel
theorem dX10_oneDay_1 : decode cX10_oneDay 1 = .ok (.istore_n 1, 1) := by decide +kernel
theorem dX10_oneDay_2 : decode cX10_oneDay 2 = .ok (.iconst 0, 1) := by decide +kernel
theorem dX10_oneDay_3 : decode cX10_oneDay 3 = .ok (.istore_n 2, 1) := by decide +kernel
theorem dX10_oneDay_4 : decode cX10_oneDay 4 = .ok (.iload_n 2, 1) := by decide +kernel
theorem dX10_oneDay_5 : decode cX10_oneDay 5 = .ok (.aload_n 0, 1) := by decide +kernel
theorem dX10_oneDay_6 : decode cX10_oneDay 6 = .ok (.getfield 36, 3) := by decide +kernel
theorem dX10_oneDay_9 : decode cX10_oneDay 9 = .ok (.if_icmp .ge 65, 3) := by decide +kernel
theorem dX10_oneDay_12 : decode cX10_oneDay 12 = .ok (.aload_n 0, 1) := by decide +kernel
theorem dX10_oneDay_13 : decode cX10_oneDay 13 = .ok (.getfield 24, 3) := by decide +kernel
theorem dX10_oneDay_16 : decode cX10_oneDay 16 = .ok (.iload_n 2, 1) := by decide +kernel
theorem dX10_oneDay_17 : decode cX10_oneDay 17 = .ok (.aaload, 1) := by decide +kernel
theorem dX10_oneDay_18 : decode cX10_oneDay 18 = .ok (.astore_n 3, 1) := by decide +kernel
theorem dX10_oneDay_19 : decode cX10_oneDay 19 = .ok (.aload_n 3, 1) := by decide +kernel
theorem dX10_oneDay_20 : decode cX10_oneDay 20 = .ok (.getfield 56, 3) := by decide +kernel
theorem dX10_oneDay_23 : decode cX10_oneDay 23 = .ok (.istore 4, 2) := by decide +kernel
theorem dX10_oneDay_25 : decode cX10_oneDay 25 = .ok (.aload_n 3, 1) := by decide +kernel
theorem dX10_oneDay_26 : decode cX10_oneDay 26 = .ok (.getfield 59, 3) := by decide +kernel
theorem dX10_oneDay_29 : decode cX10_oneDay 29 = .ok (.ifCond .ne 39, 3) := by decide +kernel
theorem dX10_oneDay_32 : decode cX10_oneDay 32 = .ok (.iload_n 1, 1) := by decide +kernel
theorem dX10_oneDay_33 : decode cX10_oneDay 33 = .ok (.iload 4, 2) := by decide +kernel
theorem dX10_oneDay_35 : decode cX10_oneDay 35 = .ok (.ishr, 1) := by decide +kernel
theorem dX10_oneDay_36 : decode cX10_oneDay 36 = .ok (.iconst 1, 1) := by decide +kernel
theorem dX10_oneDay_37 : decode cX10_oneDay 37 = .ok (.iand, 1) := by decide +kernel
theorem dX10_oneDay_38 : decode cX10_oneDay 38 = .ok (.ifCond .eq 6, 3) := by decide +kernel
theorem dX10_oneDay_41 : decode cX10_oneDay 41 = .ok (.goto 27, 3) := by decide +kernel
theorem dX10_oneDay_44 : decode cX10_oneDay 44 = .ok (.iload_n 1, 1) := by decide +kernel
theorem dX10_oneDay_45 : decode cX10_oneDay 45 = .ok (.iconst 1, 1) := by decide +kernel
theorem dX10_oneDay_46 : decode cX10_oneDay 46 = .ok (.iload 4, 2) := by decide +kernel
theorem dX10_oneDay_48 : decode cX10_oneDay 48 = .ok (.ishl, 1) := by decide +kernel
theorem dX10_oneDay_49 : decode cX10_oneDay 49 = .ok (.ior, 1) := by decide +kernel
theorem dX10_oneDay_50 : decode cX10_oneDay 50 = .ok (.istore_n 1, 1) := by decide +kernel
theorem dX10_oneDay_51 : decode cX10_oneDay 51 = .ok (.aload_n 0, 1) := by decide +kernel
theorem dX10_oneDay_52 : decode cX10_oneDay 52 = .ok (.iload 4, 2) := by decide +kernel
theorem dX10_oneDay_54 : decode cX10_oneDay 54 = .ok (.aload_n 3, 1) := by decide +kernel
theorem dX10_oneDay_55 : decode cX10_oneDay 55 = .ok (.invokevirtual 76, 3) := by decide +kernel
theorem dX10_oneDay_58 : decode cX10_oneDay 58 = .ok (.ifCond .ne 10, 3) := by decide +kernel
theorem dX10_oneDay_61 : decode cX10_oneDay 61 = .ok (.aload_n 0, 1) := by decide +kernel
theorem dX10_oneDay_62 : decode cX10_oneDay 62 = .ok (.iload 4, 2) := by decide +kernel
theorem dX10_oneDay_64 : decode cX10_oneDay 64 = .ok (.aload_n 3, 1) := by decide +kernel
theorem dX10_oneDay_65 : decode cX10_oneDay 65 = .ok (.invokevirtual 80, 3) := by decide +kernel
theorem dX10_oneDay_68 : decode cX10_oneDay 68 = .ok (.iinc 2 1, 3) := by decide +kernel
theorem dX10_oneDay_71 : decode cX10_oneDay 71 = .ok (.goto (-67), 3) := by decide +kernel
theorem dX10_oneDay_74 : decode cX10_oneDay 74 = .ok (.aload_n 0, 1) := by decide +kernel
theorem dX10_oneDay_75 : decode cX10_oneDay 75 = .ok (.dup, 1) := by decide +kernel
theorem dX10_oneDay_76 : decode cX10_oneDay 76 = .ok (.getfield 29, 3) := by decide +kernel
theorem dX10_oneDay_79 : decode cX10_oneDay 79 = .ok (.iconst 1, 1) := by decide +kernel
theorem dX10_oneDay_80 : decode cX10_oneDay 80 = .ok (.iadd, 1) := by decide +kernel
theorem dX10_oneDay_81 : decode cX10_oneDay 81 = .ok (.putfield 29, 3) := by decide +kernel
theorem dX10_oneDay_84 : decode cX10_oneDay 84 = .ok (.return_, 1) := by decide +kernel
theorem dX10_handsOn_0 : decode cX10_handsOn 0 = .ok (.aload_n 0, 1) := by decide +kernel
theorem dX10_handsOn_1 : decode cX10_handsOn 1 = .ok (.iload_n 1, 1) := by decide +kernel
theorem dX10_handsOn_2 : decode cX10_handsOn 2 = .ok (.invokevirtual 84, 3) := by decide +kernel
theorem dX10_handsOn_5 : decode cX10_handsOn 5 = .ok (.aload_n 2, 1) := by decide +kernel
theorem dX10_handsOn_6 : decode cX10_handsOn 6 = .ok (.getfield 67, 3) := by decide +kernel
theorem dX10_handsOn_9 : decode cX10_handsOn 9 = .ok (.aload_n 0, 1) := by decide +kernel
theorem dX10_handsOn_10 : decode cX10_handsOn 10 = .ok (.getfield 29, 3) := by decide +kernel
theorem dX10_handsOn_13 : decode cX10_handsOn 13 = .ok (.iconst 4, 1) := by decide +kernel
theorem dX10_handsOn_14 : decode cX10_handsOn 14 = .ok (.irem, 1) := by decide +kernel
theorem dX10_handsOn_15 : decode cX10_handsOn 15 = .ok (.invokevirtual 88, 3) := by decide +kernel
theorem dX10_handsOn_18 : decode cX10_handsOn 18 = .ok (.istore_n 3, 1) := by decide +kernel
theorem dX10_handsOn_19 : decode cX10_handsOn 19 = .ok (.iload_n 3, 1) := by decide +kernel
theorem dX10_handsOn_20 : decode cX10_handsOn 20 = .ok (.ifCond .lt 11, 3) := by decide +kernel
theorem dX10_handsOn_23 : decode cX10_handsOn 23 = .ok (.aload_n 0, 1) := by decide +kernel
theorem dX10_handsOn_24 : decode cX10_handsOn 24 = .ok (.getfield 33, 3) := by decide +kernel
theorem dX10_handsOn_27 : decode cX10_handsOn 27 = .ok (.iconst 2, 1) := by decide +kernel
theorem dX10_handsOn_28 : decode cX10_handsOn 28 = .ok (.if_icmp .ge 5, 3) := by decide +kernel
theorem dX10_handsOn_31 : decode cX10_handsOn 31 = .ok (.iconst 0, 1) := by decide +kernel
theorem dX10_handsOn_32 : decode cX10_handsOn 32 = .ok (.ireturn, 1) := by decide +kernel
theorem dX10_handsOn_33 : decode cX10_handsOn 33 = .ok (.aload_n 2, 1) := by decide +kernel
theorem dX10_handsOn_34 : decode cX10_handsOn 34 = .ok (.iload_n 3, 1) := by decide +kernel
theorem dX10_handsOn_35 : decode cX10_handsOn 35 = .ok (.invokevirtual 94, 3) := by decide +kernel
theorem dX10_handsOn_38 : decode cX10_handsOn 38 = .ok (.aload_n 2, 1) := by decide +kernel
theorem dX10_handsOn_39 : decode cX10_handsOn 39 = .ok (.iload_n 1, 1) := by decide +kernel
theorem dX10_handsOn_40 : decode cX10_handsOn 40 = .ok (.iconst 1, 1) := by decide +kernel
theorem dX10_handsOn_41 : decode cX10_handsOn 41 = .ok (.iadd, 1) := by decide +kernel
theorem dX10_handsOn_42 : decode cX10_handsOn 42 = .ok (.aload_n 0, 1) := by decide +kernel
theorem dX10_handsOn_43 : decode cX10_handsOn 43 = .ok (.getfield 33, 3) := by decide +kernel
theorem dX10_handsOn_46 : decode cX10_handsOn 46 = .ok (.if_icmp .ge 9, 3) := by decide +kernel
theorem dX10_handsOn_49 : decode cX10_handsOn 49 = .ok (.iload_n 1, 1) := by decide +kernel
theorem dX10_handsOn_50 : decode cX10_handsOn 50 = .ok (.iconst 1, 1) := by decide +kernel
theorem dX10_handsOn_51 : decode cX10_handsOn 51 = .ok (.iadd, 1) := by decide +kernel
theorem dX10_handsOn_52 : decode cX10_handsOn 52 = .ok (.goto 4, 3) := by decide +kernel
theorem dX10_handsOn_55 : decode cX10_handsOn 55 = .ok (.iconst 0, 1) := by decide +kernel
theorem dX10_handsOn_56 : decode cX10_handsOn 56 = .ok (.putfield 56, 3) := by decide +kernel
theorem dX10_handsOn_59 : decode cX10_handsOn 59 = .ok (.iconst 1, 1) := by decide +kernel
theorem dX10_handsOn_60 : decode cX10_handsOn 60 = .ok (.ireturn, 1) := by decide +kernel
theorem dX10_takesOff_0 : decode cX10_takesOff 0 = .ok (.aload_n 2, 1) := by decide +kernel
theorem dX10_takesOff_1 : decode cX10_takesOff 1 = .ok (.getfield 67, 3) := by decide +kernel
theorem dX10_takesOff_4 : decode cX10_takesOff 4 = .ok (.ifCond .ne 5, 3) := by decide +kernel
theorem dX10_takesOff_7 : decode cX10_takesOff 7 = .ok (.iconst 0, 1) := by decide +kernel
theorem dX10_takesOff_8 : decode cX10_takesOff 8 = .ok (.ireturn, 1) := by decide +kernel
theorem dX10_takesOff_9 : decode cX10_takesOff 9 = .ok (.aload_n 0, 1) := by decide +kernel
theorem dX10_takesOff_10 : decode cX10_takesOff 10 = .ok (.iload_n 1, 1) := by decide +kernel
theorem dX10_takesOff_11 : decode cX10_takesOff 11 = .ok (.invokevirtual 84, 3) := by decide +kernel
theorem dX10_takesOff_14 : decode cX10_takesOff 14 = .ok (.aload_n 0, 1) := by decide +kernel
theorem dX10_takesOff_15 : decode cX10_takesOff 15 = .ok (.getfield 29, 3) := by decide +kernel
theorem dX10_takesOff_18 : decode cX10_takesOff 18 = .ok (.aload_n 2, 1) := by decide +kernel
theorem dX10_takesOff_19 : decode cX10_takesOff 19 = .ok (.getfield 67, 3) := by decide +kernel
theorem dX10_takesOff_22 : decode cX10_takesOff 22 = .ok (.aload_n 2, 1) := by decide +kernel
theorem dX10_takesOff_23 : decode cX10_takesOff 23 = .ok (.invokevirtual 98, 3) := by decide +kernel
theorem dX10_takesOff_26 : decode cX10_takesOff 26 = .ok (.invokevirtual 101, 3) := by decide +kernel
theorem dX10_takesOff_29 : decode cX10_takesOff 29 = .ok (.istore_n 3, 1) := by decide +kernel
theorem dX10_takesOff_30 : decode cX10_takesOff 30 = .ok (.iload_n 3, 1) := by decide +kernel
theorem dX10_takesOff_31 : decode cX10_takesOff 31 = .ok (.aload_n 2, 1) := by decide +kernel
theorem dX10_takesOff_32 : decode cX10_takesOff 32 = .ok (.getfield 67, 3) := by decide +kernel
theorem dX10_takesOff_35 : decode cX10_takesOff 35 = .ok (.invokestatic 105, 3) := by decide +kernel
theorem dX10_takesOff_38 : decode cX10_takesOff 38 = .ok (.ireturn, 1) := by decide +kernel
theorem dX10_openBy_0 : decode cX10_openBy 0 = .ok (.aload_n 0, 1) := by decide +kernel
theorem dX10_openBy_1 : decode cX10_openBy 1 = .ok (.iload_n 1, 1) := by decide +kernel
theorem dX10_openBy_2 : decode cX10_openBy 2 = .ok (.invokevirtual 84, 3) := by decide +kernel
theorem dX10_openBy_5 : decode cX10_openBy 5 = .ok (.astore_n 3, 1) := by decide +kernel
theorem dX10_openBy_6 : decode cX10_openBy 6 = .ok (.aload_n 0, 1) := by decide +kernel
theorem dX10_openBy_7 : decode cX10_openBy 7 = .ok (.iload_n 1, 1) := by decide +kernel
theorem dX10_openBy_8 : decode cX10_openBy 8 = .ok (.aload_n 2, 1) := by decide +kernel
theorem dX10_openBy_9 : decode cX10_openBy 9 = .ok (.invokevirtual 110, 3) := by decide +kernel
theorem dX10_openBy_12 : decode cX10_openBy 12 = .ok (.istore 4, 2) := by decide +kernel
theorem dX10_openBy_14 : decode cX10_openBy 14 = .ok (.iconst 0, 1) := by decide +kernel
theorem dX10_openBy_15 : decode cX10_openBy 15 = .ok (.istore 5, 2) := by decide +kernel
theorem dX10_openBy_17 : decode cX10_openBy 17 = .ok (.iload 5, 2) := by decide +kernel
theorem dX10_openBy_19 : decode cX10_openBy 19 = .ok (.iload 4, 2) := by decide +kernel
theorem dX10_openBy_21 : decode cX10_openBy 21 = .ok (.if_icmp .ge 26, 3) := by decide +kernel
theorem dX10_openBy_24 : decode cX10_openBy 24 = .ok (.aload_n 0, 1) := by decide +kernel
theorem dX10_openBy_25 : decode cX10_openBy 25 = .ok (.getfield 17, 3) := by decide +kernel
theorem dX10_openBy_28 : decode cX10_openBy 28 = .ok (.iload_n 1, 1) := by decide +kernel
theorem dX10_openBy_29 : decode cX10_openBy 29 = .ok (.aaload, 1) := by decide +kernel
theorem dX10_openBy_30 : decode cX10_openBy 30 = .ok (.aload_n 3, 1) := by decide +kernel
theorem dX10_openBy_31 : decode cX10_openBy 31 = .ok (.aload_n 2, 1) := by decide +kernel
theorem dX10_openBy_32 : decode cX10_openBy 32 = .ok (.invokevirtual 114, 3) := by decide +kernel
theorem dX10_openBy_35 : decode cX10_openBy 35 = .ok (.invokevirtual 117, 3) := by decide +kernel
theorem dX10_openBy_38 : decode cX10_openBy 38 = .ok (.invokevirtual 121, 3) := by decide +kernel
theorem dX10_openBy_41 : decode cX10_openBy 41 = .ok (.iinc 5 1, 3) := by decide +kernel
theorem dX10_openBy_44 : decode cX10_openBy 44 = .ok (.goto (-27), 3) := by decide +kernel
theorem dX10_openBy_47 : decode cX10_openBy 47 = .ok (.aload_n 2, 1) := by decide +kernel
theorem dX10_openBy_48 : decode cX10_openBy 48 = .ok (.getfield 67, 3) := by decide +kernel
theorem dX10_openBy_51 : decode cX10_openBy 51 = .ok (.ifCond .ne 25, 3) := by decide +kernel
theorem dX10_openBy_54 : decode cX10_openBy 54 = .ok (.aload_n 2, 1) := by decide +kernel
theorem dX10_openBy_55 : decode cX10_openBy 55 = .ok (.iconst 1, 1) := by decide +kernel
theorem dX10_openBy_56 : decode cX10_openBy 56 = .ok (.putfield 59, 3) := by decide +kernel
theorem dX10_openBy_59 : decode cX10_openBy 59 = .ok (.aload_n 0, 1) := by decide +kernel
theorem dX10_openBy_60 : decode cX10_openBy 60 = .ok (.getfield 17, 3) := by decide +kernel
theorem dX10_openBy_63 : decode cX10_openBy 63 = .ok (.iload_n 1, 1) := by decide +kernel
theorem dX10_openBy_64 : decode cX10_openBy 64 = .ok (.aaload, 1) := by decide +kernel
theorem dX10_openBy_65 : decode cX10_openBy 65 = .ok (.aload_n 3, 1) := by decide +kernel
theorem dX10_openBy_66 : decode cX10_openBy 66 = .ok (.aload_n 2, 1) := by decide +kernel
theorem dX10_openBy_67 : decode cX10_openBy 67 = .ok (.getfield 70, 3) := by decide +kernel
theorem dX10_openBy_70 : decode cX10_openBy 70 = .ok (.invokevirtual 124, 3) := by decide +kernel
theorem dX10_openBy_73 : decode cX10_openBy 73 = .ok (.invokevirtual 121, 3) := by decide +kernel
theorem dX10_openBy_76 : decode cX10_openBy 76 = .ok (.return_, 1) := by decide +kernel
theorem dX11_init_0 : decode cX11_init 0 = .ok (.aload_n 0, 1) := by decide +kernel
theorem dX11_init_1 : decode cX11_init 1 = .ok (.invokespecial 1, 3) := by decide +kernel
theorem dX11_init_4 : decode cX11_init 4 = .ok (.invokestatic 7, 3) := by decide +kernel
theorem dX11_init_7 : decode cX11_init 7 = .ok (.astore_n 1, 1) := by decide +kernel
theorem dX11_init_8 : decode cX11_init 8 = .ok (.aload_n 0, 1) := by decide +kernel
theorem dX11_init_9 : decode cX11_init 9 = .ok (.new 13, 3) := by decide +kernel
theorem dX11_init_12 : decode cX11_init 12 = .ok (.dup, 1) := by decide +kernel
theorem dX11_init_13 : decode cX11_init 13 = .ok (.aload_n 1, 1) := by decide +kernel
theorem dX11_init_14 : decode cX11_init 14 = .ok (.invokespecial 15, 3) := by decide +kernel
theorem dX11_init_17 : decode cX11_init 17 = .ok (.putfield 18, 3) := by decide +kernel
theorem dX11_init_20 : decode cX11_init 20 = .ok (.aload_n 0, 1) := by decide +kernel
theorem dX11_init_21 : decode cX11_init 21 = .ok (.new 13, 3) := by decide +kernel
theorem dX11_init_24 : decode cX11_init 24 = .ok (.dup, 1) := by decide +kernel
theorem dX11_init_25 : decode cX11_init 25 = .ok (.aload_n 1, 1) := by decide +kernel
theorem dX11_init_26 : decode cX11_init 26 = .ok (.invokespecial 15, 3) := by decide +kernel
theorem dX11_init_29 : decode cX11_init 29 = .ok (.putfield 22, 3) := by decide +kernel
theorem dX11_init_32 : decode cX11_init 32 = .ok (.aload_n 0, 1) := by decide +kernel
theorem dX11_init_33 : decode cX11_init 33 = .ok (.new 13, 3) := by decide +kernel
theorem dX11_init_36 : decode cX11_init 36 = .ok (.dup, 1) := by decide +kernel
theorem dX11_init_37 : decode cX11_init 37 = .ok (.aload_n 1, 1) := by decide +kernel
theorem dX11_init_38 : decode cX11_init 38 = .ok (.invokespecial 15, 3) := by decide +kernel
theorem dX11_init_41 : decode cX11_init 41 = .ok (.putfield 25, 3) := by decide +kernel
theorem dX11_init_44 : decode cX11_init 44 = .ok (.aload_n 0, 1) := by decide +kernel
theorem dX11_init_45 : decode cX11_init 45 = .ok (.iconst 0, 1) := by decide +kernel
theorem dX11_init_46 : decode cX11_init 46 = .ok (.putfield 28, 3) := by decide +kernel
theorem dX11_init_49 : decode cX11_init 49 = .ok (.aload_n 0, 1) := by decide +kernel
theorem dX11_init_50 : decode cX11_init 50 = .ok (.iconst 4, 1) := by decide +kernel
theorem dX11_init_51 : decode cX11_init 51 = .ok (.anewarray 32, 3) := by decide +kernel
theorem dX11_init_54 : decode cX11_init 54 = .ok (.putfield 34, 3) := by decide +kernel
theorem dX11_init_57 : decode cX11_init 57 = .ok (.iconst 0, 1) := by decide +kernel
theorem dX11_init_58 : decode cX11_init 58 = .ok (.istore_n 2, 1) := by decide +kernel
theorem dX11_init_59 : decode cX11_init 59 = .ok (.iload_n 2, 1) := by decide +kernel
theorem dX11_init_60 : decode cX11_init 60 = .ok (.iconst 4, 1) := by decide +kernel
theorem dX11_init_61 : decode cX11_init 61 = .ok (.if_icmp .ge 22, 3) := by decide +kernel
theorem dX11_init_64 : decode cX11_init 64 = .ok (.aload_n 0, 1) := by decide +kernel
theorem dX11_init_65 : decode cX11_init 65 = .ok (.getfield 34, 3) := by decide +kernel
theorem dX11_init_68 : decode cX11_init 68 = .ok (.iload_n 2, 1) := by decide +kernel
theorem dX11_init_69 : decode cX11_init 69 = .ok (.new 32, 3) := by decide +kernel
theorem dX11_init_72 : decode cX11_init 72 = .ok (.dup, 1) := by decide +kernel
theorem dX11_init_73 : decode cX11_init 73 = .ok (.invokespecial 38, 3) := by decide +kernel
theorem dX11_init_76 : decode cX11_init 76 = .ok (.aastore, 1) := by decide +kernel
theorem dX11_init_77 : decode cX11_init 77 = .ok (.iinc 2 1, 3) := by decide +kernel
theorem dX11_init_80 : decode cX11_init 80 = .ok (.goto (-21), 3) := by decide +kernel
theorem dX11_init_83 : decode cX11_init 83 = .ok (.aload_n 0, 1) := by decide +kernel
theorem dX11_init_84 : decode cX11_init 84 = .ok (.new 39, 3) := by decide +kernel
theorem dX11_init_87 : decode cX11_init 87 = .ok (.dup, 1) := by decide +kernel
theorem dX11_init_88 : decode cX11_init 88 = .ok (.invokespecial 41, 3) := by decide +kernel
theorem dX11_init_91 : decode cX11_init 91 = .ok (.putfield 42, 3) := by decide +kernel
theorem dX11_init_94 : decode cX11_init 94 = .ok (.aload_n 0, 1) := by decide +kernel
theorem dX11_init_95 : decode cX11_init 95 = .ok (.bipush 7, 2) := by decide +kernel
theorem dX11_init_97 : decode cX11_init 97 = .ok (.newarray .int, 2) := by decide +kernel
theorem dX11_init_99 : decode cX11_init 99 = .ok (.putfield 46, 3) := by decide +kernel
theorem dX11_init_102 : decode cX11_init 102 = .ok (.aload_n 0, 1) := by decide +kernel
theorem dX11_init_103 : decode cX11_init 103 = .ok (.bipush 6, 2) := by decide +kernel
theorem dX11_init_105 : decode cX11_init 105 = .ok (.newarray .int, 2) := by decide +kernel
theorem dX11_init_107 : decode cX11_init 107 = .ok (.putfield 50, 3) := by decide +kernel
theorem dX11_init_110 : decode cX11_init 110 = .ok (.return_, 1) := by decide +kernel
theorem dX11_person_0 : decode cX11_person 0 = .ok (.iload_n 1, 1) := by decide +kernel
theorem dX11_person_1 : decode cX11_person 1 = .ok (.invokestatic 53, 3) := by decide +kernel
theorem dX11_person_4 : decode cX11_person 4 = .ok (.ifCond .ne 10, 3) := by decide +kernel
theorem dX11_person_7 : decode cX11_person 7 = .ok (.aload_n 0, 1) := by decide +kernel
theorem dX11_person_8 : decode cX11_person 8 = .ok (.ldc 57, 2) := by decide +kernel
theorem dX11_person_10 : decode cX11_person 10 = .ok (.invokevirtual 58, 3) := by decide +kernel
theorem dX11_person_13 : decode cX11_person 13 = .ok (.ireturn, 1) := by decide +kernel
theorem dX11_person_14 : decode cX11_person 14 = .ok (.aload_n 0, 1) := by decide +kernel
theorem dX11_person_15 : decode cX11_person 15 = .ok (.getfield 18, 3) := by decide +kernel
theorem dX11_person_18 : decode cX11_person 18 = .ok (.getfield 62, 3) := by decide +kernel
theorem dX11_person_21 : decode cX11_person 21 = .ok (.bipush 6, 2) := by decide +kernel
theorem dX11_person_23 : decode cX11_person 23 = .ok (.if_icmp .lt 10, 3) := by decide +kernel
theorem dX11_person_26 : decode cX11_person 26 = .ok (.aload_n 0, 1) := by decide +kernel
theorem dX11_person_27 : decode cX11_person 27 = .ok (.ldc 66, 2) := by decide +kernel
theorem dX11_person_29 : decode cX11_person 29 = .ok (.invokevirtual 58, 3) := by decide +kernel
theorem dX11_person_32 : decode cX11_person 32 = .ok (.ireturn, 1) := by decide +kernel
theorem dX11_person_33 : decode cX11_person 33 = .ok (.aload_n 0, 1) := by decide +kernel
theorem dX11_person_34 : decode cX11_person 34 = .ok (.getfield 18, 3) := by decide +kernel
theorem dX11_person_37 : decode cX11_person 37 = .ok (.iload_n 1, 1) := by decide +kernel
theorem dX11_person_38 : decode cX11_person 38 = .ok (.invokevirtual 67, 3) := by decide +kernel
theorem dX11_person_41 : decode cX11_person 41 = .ok (.ireturn, 1) := by decide +kernel
theorem dX11_of_0 : decode cX11_of 0 = .ok (.aload_n 0, 1) := by decide +kernel
theorem dX11_of_1 : decode cX11_of 1 = .ok (.iload_n 1, 1) := by decide +kernel
theorem dX11_of_2 : decode cX11_of 2 = .ok (.invokevirtual 70, 3) := by decide +kernel
theorem dX11_of_5 : decode cX11_of 5 = .ok (.ifCond .ne 10, 3) := by decide +kernel
theorem dX11_of_8 : decode cX11_of 8 = .ok (.aload_n 0, 1) := by decide +kernel
theorem dX11_of_9 : decode cX11_of 9 = .ok (.ldc 57, 2) := by decide +kernel
theorem dX11_of_11 : decode cX11_of 11 = .ok (.invokevirtual 58, 3) := by decide +kernel
theorem dX11_of_14 : decode cX11_of 14 = .ok (.ireturn, 1) := by decide +kernel
theorem dX11_of_15 : decode cX11_of 15 = .ok (.iload_n 2, 1) := by decide +kernel
theorem dX11_of_16 : decode cX11_of 16 = .ok (.tableswitch 84 0 3 #[32, 45, 58, 67], 32) := by decide +kernel
theorem dX11_of_48 : decode cX11_of 48 = .ok (.aload_n 0, 1) := by decide +kernel
theorem dX11_of_49 : decode cX11_of 49 = .ok (.getfield 18, 3) := by decide +kernel
theorem dX11_of_52 : decode cX11_of 52 = .ok (.getfield 73, 3) := by decide +kernel
theorem dX11_of_55 : decode cX11_of 55 = .ok (.iload_n 1, 1) := by decide +kernel
theorem dX11_of_56 : decode cX11_of 56 = .ok (.aaload, 1) := by decide +kernel
theorem dX11_of_57 : decode cX11_of 57 = .ok (.getfield 77, 3) := by decide +kernel
theorem dX11_of_60 : decode cX11_of 60 = .ok (.ireturn, 1) := by decide +kernel
theorem dX11_of_61 : decode cX11_of 61 = .ok (.aload_n 0, 1) := by decide +kernel
theorem dX11_of_62 : decode cX11_of 62 = .ok (.getfield 18, 3) := by decide +kernel
theorem dX11_of_65 : decode cX11_of 65 = .ok (.getfield 73, 3) := by decide +kernel
theorem dX11_of_68 : decode cX11_of 68 = .ok (.iload_n 1, 1) := by decide +kernel
theorem dX11_of_69 : decode cX11_of 69 = .ok (.aaload, 1) := by decide +kernel
theorem dX11_of_70 : decode cX11_of 70 = .ok (.getfield 82, 3) := by decide +kernel
theorem dX11_of_73 : decode cX11_of 73 = .ok (.ireturn, 1) := by decide +kernel
theorem dX11_of_74 : decode cX11_of 74 = .ok (.aload_n 0, 1) := by decide +kernel
theorem dX11_of_75 : decode cX11_of 75 = .ok (.getfield 18, 3) := by decide +kernel
theorem dX11_of_78 : decode cX11_of 78 = .ok (.iload_n 1, 1) := by decide +kernel
theorem dX11_of_79 : decode cX11_of 79 = .ok (.invokevirtual 85, 3) := by decide +kernel
theorem dX11_of_82 : decode cX11_of 82 = .ok (.ireturn, 1) := by decide +kernel
theorem dX11_of_83 : decode cX11_of 83 = .ok (.aload_n 0, 1) := by decide +kernel
theorem dX11_of_84 : decode cX11_of 84 = .ok (.getfield 18, 3) := by decide +kernel
theorem dX11_of_87 : decode cX11_of 87 = .ok (.iload_n 1, 1) := by decide +kernel
theorem dX11_of_88 : decode cX11_of 88 = .ok (.invokevirtual 85, 3) := by decide +kernel
theorem dX11_of_91 : decode cX11_of 91 = .ok (.aload_n 0, 1) := by decide +kernel
theorem dX11_of_92 : decode cX11_of 92 = .ok (.getfield 18, 3) := by decide +kernel
theorem dX11_of_95 : decode cX11_of 95 = .ok (.invokevirtual 88, 3) := by decide +kernel
theorem dX11_of_98 : decode cX11_of 98 = .ok (.iand, 1) := by decide +kernel
theorem dX11_of_99 : decode cX11_of 99 = .ok (.ireturn, 1) := by decide +kernel
theorem dX11_of_100 : decode cX11_of 100 = .ok (.aload_n 0, 1) := by decide +kernel
theorem dX11_of_101 : decode cX11_of 101 = .ok (.ldc 57, 2) := by decide +kernel
theorem dX11_of_103 : decode cX11_of 103 = .ok (.invokevirtual 58, 3) := by decide +kernel
theorem dX11_of_106 : decode cX11_of 106 = .ok (.ireturn, 1) := by decide +kernel
theorem dX11_does_0 : decode cX11_does 0 = .ok (.aload_n 0, 1) := by decide +kernel
theorem dX11_does_1 : decode cX11_does 1 = .ok (.iload_n 1, 1) := by decide +kernel
theorem dX11_does_2 : decode cX11_does 2 = .ok (.invokevirtual 70, 3) := by decide +kernel
theorem dX11_does_5 : decode cX11_does 5 = .ok (.ifCond .eq 20, 3) := by decide +kernel
theorem dX11_does_8 : decode cX11_does 8 = .ok (.iload_n 2, 1) := by decide +kernel
theorem dX11_does_9 : decode cX11_does 9 = .ok (.iconst 0, 1) := by decide +kernel
theorem dX11_does_10 : decode cX11_does 10 = .ok (.iconst 3, 1) := by decide +kernel
theorem dX11_does_11 : decode cX11_does 11 = .ok (.invokestatic 92, 3) := by decide +kernel
theorem dX11_does_14 : decode cX11_does 14 = .ok (.ifCond .eq 11, 3) := by decide +kernel
theorem dX11_does_17 : decode cX11_does 17 = .ok (.aload_n 0, 1) := by decide +kernel
theorem dX11_does_18 : decode cX11_does 18 = .ok (.iload_n 3, 1) := by decide +kernel
theorem dX11_does_19 : decode cX11_does 19 = .ok (.invokevirtual 96, 3) := by decide +kernel
theorem dX11_does_22 : decode cX11_does 22 = .ok (.ifCond .ne 10, 3) := by decide +kernel
theorem dX11_does_25 : decode cX11_does 25 = .ok (.aload_n 0, 1) := by decide +kernel
theorem dX11_does_26 : decode cX11_does 26 = .ok (.ldc 57, 2) := by decide +kernel
theorem dX11_does_28 : decode cX11_does 28 = .ok (.invokevirtual 58, 3) := by decide +kernel
theorem dX11_does_31 : decode cX11_does 31 = .ok (.ireturn, 1) := by decide +kernel
theorem dX11_does_32 : decode cX11_does 32 = .ok (.aload_n 0, 1) := by decide +kernel
theorem dX11_does_33 : decode cX11_does 33 = .ok (.getfield 18, 3) := by decide +kernel
theorem dX11_does_36 : decode cX11_does 36 = .ok (.iload_n 1, 1) := by decide +kernel
theorem dX11_does_37 : decode cX11_does 37 = .ok (.invokevirtual 99, 3) := by decide +kernel
theorem dX11_does_40 : decode cX11_does 40 = .ok (.astore 4, 2) := by decide +kernel
theorem dX11_does_42 : decode cX11_does 42 = .ok (.aload_n 0, 1) := by decide +kernel
theorem dX11_does_43 : decode cX11_does 43 = .ok (.getfield 18, 3) := by decide +kernel
theorem dX11_does_46 : decode cX11_does 46 = .ok (.getfield 103, 3) := by decide +kernel
theorem dX11_does_49 : decode cX11_does 49 = .ok (.iload_n 3, 1) := by decide +kernel
theorem dX11_does_50 : decode cX11_does 50 = .ok (.aaload, 1) := by decide +kernel
theorem dX11_does_51 : decode cX11_does 51 = .ok (.astore 5, 2) := by decide +kernel
theorem dX11_does_53 : decode cX11_does 53 = .ok (.iload_n 2, 1) := by decide +kernel
theorem dX11_does_54 : decode cX11_does 54 = .ok (.iconst 1, 1) := by decide +kernel
theorem dX11_does_55 : decode cX11_does 55 = .ok (.if_icmp .gt 18, 3) := by decide +kernel
theorem dX11_does_58 : decode cX11_does 58 = .ok (.aload 5, 2) := by decide +kernel
theorem dX11_does_60 : decode cX11_does 60 = .ok (.getfield 107, 3) := by decide +kernel
theorem dX11_does_63 : decode cX11_does 63 = .ok (.ifCond .ne 10, 3) := by decide +kernel
theorem dX11_does_66 : decode cX11_does 66 = .ok (.aload_n 0, 1) := by decide +kernel
theorem dX11_does_67 : decode cX11_does 67 = .ok (.ldc 112, 2) := by decide +kernel
theorem dX11_does_69 : decode cX11_does 69 = .ok (.invokevirtual 58, 3) := by decide +kernel
theorem dX11_does_72 : decode cX11_does 72 = .ok (.ireturn, 1) := by decide +kernel
theorem dX11_does_73 : decode cX11_does 73 = .ok (.iload_n 2, 1) := by decide +kernel
theorem dX11_does_74 : decode cX11_does 74 = .ok (.tableswitch 59 0 2 #[26, 37, 48], 26) := by decide +kernel
theorem dX11_does_100 : decode cX11_does 100 = .ok (.aload_n 0, 1) := by decide +kernel
theorem dX11_does_101 : decode cX11_does 101 = .ok (.getfield 18, 3) := by decide +kernel
theorem dX11_does_104 : decode cX11_does 104 = .ok (.iload_n 1, 1) := by decide +kernel
theorem dX11_does_105 : decode cX11_does 105 = .ok (.aload 5, 2) := by decide +kernel
theorem dX11_does_107 : decode cX11_does 107 = .ok (.invokevirtual 113, 3) := by decide +kernel
theorem dX11_does_110 : decode cX11_does 110 = .ok (.ireturn, 1) := by decide +kernel
theorem dX11_does_111 : decode cX11_does 111 = .ok (.aload 4, 2) := by decide +kernel
theorem dX11_does_113 : decode cX11_does 113 = .ok (.aload 5, 2) := by decide +kernel
theorem dX11_does_115 : decode cX11_does 115 = .ok (.invokevirtual 117, 3) := by decide +kernel
theorem dX11_does_118 : decode cX11_does 118 = .ok (.invokevirtual 120, 3) := by decide +kernel
theorem dX11_does_121 : decode cX11_does 121 = .ok (.ireturn, 1) := by decide +kernel
theorem dX11_does_122 : decode cX11_does 122 = .ok (.aload 4, 2) := by decide +kernel
theorem dX11_does_124 : decode cX11_does 124 = .ok (.aload 5, 2) := by decide +kernel
theorem dX11_does_126 : decode cX11_does 126 = .ok (.getfield 125, 3) := by decide +kernel
theorem dX11_does_129 : decode cX11_does 129 = .ok (.invokevirtual 128, 3) := by decide +kernel
theorem dX11_does_132 : decode cX11_does 132 = .ok (.ireturn, 1) := by decide +kernel
theorem dX11_does_133 : decode cX11_does 133 = .ok (.iconst 1, 1) := by decide +kernel
theorem dX11_does_134 : decode cX11_does 134 = .ok (.aload 4, 2) := by decide +kernel
theorem dX11_does_136 : decode cX11_does 136 = .ok (.aload 5, 2) := by decide +kernel
theorem dX11_does_138 : decode cX11_does 138 = .ok (.getfield 107, 3) := by decide +kernel
theorem dX11_does_141 : decode cX11_does 141 = .ok (.aload_n 0, 1) := by decide +kernel
theorem dX11_does_142 : decode cX11_does 142 = .ok (.getfield 18, 3) := by decide +kernel
theorem dX11_does_145 : decode cX11_does 145 = .ok (.getfield 131, 3) := by decide +kernel
theorem dX11_does_148 : decode cX11_does 148 = .ok (.iconst 4, 1) := by decide +kernel
theorem dX11_does_149 : decode cX11_does 149 = .ok (.irem, 1) := by decide +kernel
theorem dX11_does_150 : decode cX11_does 150 = .ok (.invokevirtual 134, 3) := by decide +kernel
theorem dX11_does_153 : decode cX11_does 153 = .ok (.iadd, 1) := by decide +kernel
theorem dX11_does_154 : decode cX11_does 154 = .ok (.ireturn, 1) := by decide +kernel
theorem dX11_joy_0 : decode cX11_joy 0 = .ok (.aload_n 0, 1) := by decide +kernel
theorem dX11_joy_1 : decode cX11_joy 1 = .ok (.iload_n 1, 1) := by decide +kernel
theorem dX11_joy_2 : decode cX11_joy 2 = .ok (.invokevirtual 70, 3) := by decide +kernel
theorem dX11_joy_5 : decode cX11_joy 5 = .ok (.ifCond .eq 14, 3) := by decide +kernel
theorem dX11_joy_8 : decode cX11_joy 8 = .ok (.iload_n 2, 1) := by decide +kernel
theorem dX11_joy_9 : decode cX11_joy 9 = .ok (.iconst 0, 1) := by decide +kernel
theorem dX11_joy_10 : decode cX11_joy 10 = .ok (.sipush 9999, 3) := by decide +kernel
theorem dX11_joy_13 : decode cX11_joy 13 = .ok (.invokestatic 92, 3) := by decide +kernel
theorem dX11_joy_16 : decode cX11_joy 16 = .ok (.ifCond .ne 10, 3) := by decide +kernel
theorem dX11_joy_19 : decode cX11_joy 19 = .ok (.aload_n 0, 1) := by decide +kernel
theorem dX11_joy_20 : decode cX11_joy 20 = .ok (.ldc 57, 2) := by decide +kernel
theorem dX11_joy_22 : decode cX11_joy 22 = .ok (.invokevirtual 58, 3) := by decide +kernel
theorem dX11_joy_25 : decode cX11_joy 25 = .ok (.ireturn, 1) := by decide +kernel
theorem dX11_joy_26 : decode cX11_joy 26 = .ok (.aload_n 0, 1) := by decide +kernel
theorem dX11_joy_27 : decode cX11_joy 27 = .ok (.getfield 18, 3) := by decide +kernel
theorem dX11_joy_30 : decode cX11_joy 30 = .ok (.getfield 73, 3) := by decide +kernel
theorem dX11_joy_33 : decode cX11_joy 33 = .ok (.iload_n 1, 1) := by decide +kernel
theorem dX11_joy_34 : decode cX11_joy 34 = .ok (.aaload, 1) := by decide +kernel
theorem dX11_joy_35 : decode cX11_joy 35 = .ok (.getfield 82, 3) := by decide +kernel
theorem dX11_joy_38 : decode cX11_joy 38 = .ok (.istore_n 3, 1) := by decide +kernel
theorem dX11_joy_39 : decode cX11_joy 39 = .ok (.aload_n 0, 1) := by decide +kernel
theorem dX11_joy_40 : decode cX11_joy 40 = .ok (.getfield 18, 3) := by decide +kernel
theorem dX11_joy_43 : decode cX11_joy 43 = .ok (.getfield 73, 3) := by decide +kernel
theorem dX11_joy_46 : decode cX11_joy 46 = .ok (.iload_n 1, 1) := by decide +kernel
theorem dX11_joy_47 : decode cX11_joy 47 = .ok (.aaload, 1) := by decide +kernel
theorem dX11_joy_48 : decode cX11_joy 48 = .ok (.iload_n 2, 1) := by decide +kernel
theorem dX11_joy_49 : decode cX11_joy 49 = .ok (.putfield 82, 3) := by decide +kernel
theorem dX11_joy_52 : decode cX11_joy 52 = .ok (.iload_n 3, 1) := by decide +kernel
theorem dX11_joy_53 : decode cX11_joy 53 = .ok (.ireturn, 1) := by decide +kernel
theorem dX11_turn_0 : decode cX11_turn 0 = .ok (.aload_n 0, 1) := by decide +kernel
theorem dX11_turn_1 : decode cX11_turn 1 = .ok (.iload_n 1, 1) := by decide +kernel
theorem dX11_turn_2 : decode cX11_turn 2 = .ok (.invokevirtual 70, 3) := by decide +kernel
theorem dX11_turn_5 : decode cX11_turn 5 = .ok (.ifCond .eq 10, 3) := by decide +kernel
theorem dX11_turn_8 : decode cX11_turn 8 = .ok (.iload_n 2, 1) := by decide +kernel
theorem dX11_turn_9 : decode cX11_turn 9 = .ok (.invokestatic 53, 3) := by decide +kernel
theorem dX11_turn_12 : decode cX11_turn 12 = .ok (.ifCond .ne 10, 3) := by decide +kernel
theorem dX11_turn_15 : decode cX11_turn 15 = .ok (.aload_n 0, 1) := by decide +kernel
theorem dX11_turn_16 : decode cX11_turn 16 = .ok (.ldc 57, 2) := by decide +kernel
theorem dX11_turn_18 : decode cX11_turn 18 = .ok (.invokevirtual 58, 3) := by decide +kernel
theorem dX11_turn_21 : decode cX11_turn 21 = .ok (.ireturn, 1) := by decide +kernel
theorem dX11_turn_22 : decode cX11_turn 22 = .ok (.aload_n 0, 1) := by decide +kernel
theorem dX11_turn_23 : decode cX11_turn 23 = .ok (.getfield 18, 3) := by decide +kernel
theorem dX11_turn_26 : decode cX11_turn 26 = .ok (.getfield 73, 3) := by decide +kernel
theorem dX11_turn_29 : decode cX11_turn 29 = .ok (.iload_n 1, 1) := by decide +kernel
theorem dX11_turn_30 : decode cX11_turn 30 = .ok (.aaload, 1) := by decide +kernel
theorem dX11_turn_31 : decode cX11_turn 31 = .ok (.getfield 77, 3) := by decide +kernel
theorem dX11_turn_34 : decode cX11_turn 34 = .ok (.istore_n 3, 1) := by decide +kernel
theorem dX11_turn_35 : decode cX11_turn 35 = .ok (.aload_n 0, 1) := by decide +kernel
theorem dX11_turn_36 : decode cX11_turn 36 = .ok (.getfield 18, 3) := by decide +kernel
theorem dX11_turn_39 : decode cX11_turn 39 = .ok (.getfield 73, 3) := by decide +kernel
theorem dX11_turn_42 : decode cX11_turn 42 = .ok (.iload_n 1, 1) := by decide +kernel
theorem dX11_turn_43 : decode cX11_turn 43 = .ok (.aaload, 1) := by decide +kernel
theorem dX11_turn_44 : decode cX11_turn 44 = .ok (.iload_n 2, 1) := by decide +kernel
theorem dX11_turn_45 : decode cX11_turn 45 = .ok (.putfield 77, 3) := by decide +kernel
theorem dX11_turn_48 : decode cX11_turn 48 = .ok (.iload_n 3, 1) := by decide +kernel
theorem dX11_turn_49 : decode cX11_turn 49 = .ok (.ireturn, 1) := by decide +kernel
theorem dX11_as_0 : decode cX11_as 0 = .ok (.aload_n 0, 1) := by decide +kernel
theorem dX11_as_1 : decode cX11_as 1 = .ok (.iload_n 1, 1) := by decide +kernel
theorem dX11_as_2 : decode cX11_as 2 = .ok (.invokevirtual 70, 3) := by decide +kernel
theorem dX11_as_5 : decode cX11_as 5 = .ok (.ifCond .eq 10, 3) := by decide +kernel
theorem dX11_as_8 : decode cX11_as 8 = .ok (.iload_n 2, 1) := by decide +kernel
theorem dX11_as_9 : decode cX11_as 9 = .ok (.invokestatic 53, 3) := by decide +kernel
theorem dX11_as_12 : decode cX11_as 12 = .ok (.ifCond .ne 10, 3) := by decide +kernel
theorem dX11_as_15 : decode cX11_as 15 = .ok (.aload_n 0, 1) := by decide +kernel
theorem dX11_as_16 : decode cX11_as 16 = .ok (.ldc 57, 2) := by decide +kernel
theorem dX11_as_18 : decode cX11_as 18 = .ok (.invokevirtual 58, 3) := by decide +kernel
theorem dX11_as_21 : decode cX11_as 21 = .ok (.ireturn, 1) := by decide +kernel
theorem dX11_as_22 : decode cX11_as 22 = .ok (.aload_n 0, 1) := by decide +kernel
theorem dX11_as_23 : decode cX11_as 23 = .ok (.getfield 18, 3) := by decide +kernel
theorem dX11_as_26 : decode cX11_as 26 = .ok (.iload_n 1, 1) := by decide +kernel
theorem dX11_as_27 : decode cX11_as 27 = .ok (.invokevirtual 99, 3) := by decide +kernel
theorem dX11_as_30 : decode cX11_as 30 = .ok (.iload_n 2, 1) := by decide +kernel
theorem dX11_as_31 : decode cX11_as 31 = .ok (.invokestatic 138, 3) := by decide +kernel
theorem dX11_as_34 : decode cX11_as 34 = .ok (.ifCond .ne 10, 3) := by decide +kernel
theorem dX11_as_37 : decode cX11_as 37 = .ok (.aload_n 0, 1) := by decide +kernel
theorem dX11_as_38 : decode cX11_as 38 = .ok (.ldc 142, 2) := by decide +kernel
theorem dX11_as_40 : decode cX11_as 40 = .ok (.invokevirtual 58, 3) := by decide +kernel
theorem dX11_as_43 : decode cX11_as 43 = .ok (.ireturn, 1) := by decide +kernel
theorem dX11_as_44 : decode cX11_as 44 = .ok (.aload_n 0, 1) := by decide +kernel
theorem dX11_as_45 : decode cX11_as 45 = .ok (.getfield 18, 3) := by decide +kernel
theorem dX11_as_48 : decode cX11_as 48 = .ok (.getfield 73, 3) := by decide +kernel
theorem dX11_as_51 : decode cX11_as 51 = .ok (.iload_n 1, 1) := by decide +kernel
theorem dX11_as_52 : decode cX11_as 52 = .ok (.aaload, 1) := by decide +kernel
theorem dX11_as_53 : decode cX11_as 53 = .ok (.getfield 82, 3) := by decide +kernel
theorem dX11_as_56 : decode cX11_as 56 = .ok (.ireturn, 1) := by decide +kernel
theorem dX11_present_0 : decode cX11_present 0 = .ok (.aload_n 0, 1) := by decide +kernel
theorem dX11_present_1 : decode cX11_present 1 = .ok (.iload_n 1, 1) := by decide +kernel
theorem dX11_present_2 : decode cX11_present 2 = .ok (.invokevirtual 70, 3) := by decide +kernel
theorem dX11_present_5 : decode cX11_present 5 = .ok (.ifCond .eq 10, 3) := by decide +kernel
theorem dX11_present_8 : decode cX11_present 8 = .ok (.iload_n 2, 1) := by decide +kernel
theorem dX11_present_9 : decode cX11_present 9 = .ok (.invokestatic 143, 3) := by decide +kernel
theorem dX11_present_12 : decode cX11_present 12 = .ok (.ifCond .ne 10, 3) := by decide +kernel
theorem dX11_present_15 : decode cX11_present 15 = .ok (.aload_n 0, 1) := by decide +kernel
theorem dX11_present_16 : decode cX11_present 16 = .ok (.ldc 57, 2) := by decide +kernel
theorem dX11_present_18 : decode cX11_present 18 = .ok (.invokevirtual 58, 3) := by decide +kernel
theorem dX11_present_21 : decode cX11_present 21 = .ok (.ireturn, 1) := by decide +kernel
theorem dX11_present_22 : decode cX11_present 22 = .ok (.aload_n 0, 1) := by decide +kernel
theorem dX11_present_23 : decode cX11_present 23 = .ok (.getfield 18, 3) := by decide +kernel
theorem dX11_present_26 : decode cX11_present 26 = .ok (.getfield 146, 3) := by decide +kernel
theorem dX11_present_29 : decode cX11_present 29 = .ok (.bipush 8, 2) := by decide +kernel
theorem dX11_present_31 : decode cX11_present 31 = .ok (.if_icmp .lt 10, 3) := by decide +kernel
theorem dX11_present_34 : decode cX11_present 34 = .ok (.aload_n 0, 1) := by decide +kernel
theorem dX11_present_35 : decode cX11_present 35 = .ok (.ldc 66, 2) := by decide +kernel
theorem dX11_present_37 : decode cX11_present 37 = .ok (.invokevirtual 58, 3) := by decide +kernel
theorem dX11_present_40 : decode cX11_present 40 = .ok (.ireturn, 1) := by decide +kernel
theorem dX11_present_41 : decode cX11_present 41 = .ok (.aload_n 0, 1) := by decide +kernel
theorem dX11_present_42 : decode cX11_present 42 = .ok (.getfield 18, 3) := by decide +kernel
theorem dX11_present_45 : decode cX11_present 45 = .ok (.iload_n 1, 1) := by decide +kernel
theorem dX11_present_46 : decode cX11_present 46 = .ok (.iload_n 2, 1) := by decide +kernel
theorem dX11_present_47 : decode cX11_present 47 = .ok (.invokevirtual 149, 3) := by decide +kernel
theorem dX11_present_50 : decode cX11_present 50 = .ok (.ireturn, 1) := by decide +kernel
theorem dX11_presentOf_0 : decode cX11_presentOf 0 = .ok (.aload_n 0, 1) := by decide +kernel
theorem dX11_presentOf_1 : decode cX11_presentOf 1 = .ok (.iload_n 1, 1) := by decide +kernel
theorem dX11_presentOf_2 : decode cX11_presentOf 2 = .ok (.invokevirtual 96, 3) := by decide +kernel
theorem dX11_presentOf_5 : decode cX11_presentOf 5 = .ok (.ifCond .eq 12, 3) := by decide +kernel
theorem dX11_presentOf_8 : decode cX11_presentOf 8 = .ok (.iload_n 2, 1) := by decide +kernel
theorem dX11_presentOf_9 : decode cX11_presentOf 9 = .ok (.iconst 0, 1) := by decide +kernel
theorem dX11_presentOf_10 : decode cX11_presentOf 10 = .ok (.iconst 3, 1) := by decide +kernel
theorem dX11_presentOf_11 : decode cX11_presentOf 11 = .ok (.invokestatic 92, 3) := by decide +kernel
theorem dX11_presentOf_14 : decode cX11_presentOf 14 = .ok (.ifCond .ne 10, 3) := by decide +kernel
theorem dX11_presentOf_17 : decode cX11_presentOf 17 = .ok (.aload_n 0, 1) := by decide +kernel
theorem dX11_presentOf_18 : decode cX11_presentOf 18 = .ok (.ldc 57, 2) := by decide +kernel
theorem dX11_presentOf_20 : decode cX11_presentOf 20 = .ok (.invokevirtual 58, 3) := by decide +kernel
theorem dX11_presentOf_23 : decode cX11_presentOf 23 = .ok (.ireturn, 1) := by decide +kernel
theorem dX11_presentOf_24 : decode cX11_presentOf 24 = .ok (.aload_n 0, 1) := by decide +kernel
theorem dX11_presentOf_25 : decode cX11_presentOf 25 = .ok (.getfield 18, 3) := by decide +kernel
theorem dX11_presentOf_28 : decode cX11_presentOf 28 = .ok (.getfield 103, 3) := by decide +kernel
theorem dX11_presentOf_31 : decode cX11_presentOf 31 = .ok (.iload_n 1, 1) := by decide +kernel
theorem dX11_presentOf_32 : decode cX11_presentOf 32 = .ok (.aaload, 1) := by decide +kernel
theorem dX11_presentOf_33 : decode cX11_presentOf 33 = .ok (.iload_n 2, 1) := by decide +kernel
theorem dX11_presentOf_34 : decode cX11_presentOf 34 = .ok (.invokevirtual 152, 3) := by decide +kernel
theorem dX11_presentOf_37 : decode cX11_presentOf 37 = .ok (.ireturn, 1) := by decide +kernel
theorem dX11_paper_0 : decode cX11_paper 0 = .ok (.aload_n 0, 1) := by decide +kernel
theorem dX11_paper_1 : decode cX11_paper 1 = .ok (.iload_n 1, 1) := by decide +kernel
theorem dX11_paper_2 : decode cX11_paper 2 = .ok (.invokevirtual 96, 3) := by decide +kernel
theorem dX11_paper_5 : decode cX11_paper 5 = .ok (.ifCond .eq 7, 3) := by decide +kernel
theorem dX11_paper_8 : decode cX11_paper 8 = .ok (.iload_n 2, 1) := by decide +kernel
theorem dX11_paper_9 : decode cX11_paper 9 = .ok (.ifCond .ge 10, 3) := by decide +kernel
theorem dX11_paper_12 : decode cX11_paper 12 = .ok (.aload_n 0, 1) := by decide +kernel
theorem dX11_paper_13 : decode cX11_paper 13 = .ok (.ldc 57, 2) := by decide +kernel
theorem dX11_paper_15 : decode cX11_paper 15 = .ok (.invokevirtual 58, 3) := by decide +kernel
theorem dX11_paper_18 : decode cX11_paper 18 = .ok (.ireturn, 1) := by decide +kernel
theorem dX11_paper_19 : decode cX11_paper 19 = .ok (.aload_n 0, 1) := by decide +kernel
theorem dX11_paper_20 : decode cX11_paper 20 = .ok (.getfield 18, 3) := by decide +kernel
theorem dX11_paper_23 : decode cX11_paper 23 = .ok (.getfield 103, 3) := by decide +kernel
theorem dX11_paper_26 : decode cX11_paper 26 = .ok (.iload_n 1, 1) := by decide +kernel
theorem dX11_paper_27 : decode cX11_paper 27 = .ok (.aaload, 1) := by decide +kernel
theorem dX11_paper_28 : decode cX11_paper 28 = .ok (.astore_n 3, 1) := by decide +kernel
theorem dX11_paper_29 : decode cX11_paper 29 = .ok (.iload_n 2, 1) := by decide +kernel
theorem dX11_paper_30 : decode cX11_paper 30 = .ok (.aload_n 3, 1) := by decide +kernel
theorem dX11_paper_31 : decode cX11_paper 31 = .ok (.getfield 107, 3) := by decide +kernel
theorem dX11_paper_34 : decode cX11_paper 34 = .ok (.if_icmp .lt 10, 3) := by decide +kernel
theorem dX11_paper_37 : decode cX11_paper 37 = .ok (.aload_n 0, 1) := by decide +kernel
theorem dX11_paper_38 : decode cX11_paper 38 = .ok (.ldc 112, 2) := by decide +kernel
theorem dX11_paper_40 : decode cX11_paper 40 = .ok (.invokevirtual 58, 3) := by decide +kernel
theorem dX11_paper_43 : decode cX11_paper 43 = .ok (.ireturn, 1) := by decide +kernel
theorem dX11_paper_44 : decode cX11_paper 44 = .ok (.aload_n 3, 1) := by decide +kernel
theorem dX11_paper_45 : decode cX11_paper 45 = .ok (.iload_n 2, 1) := by decide +kernel
theorem dX11_paper_46 : decode cX11_paper 46 = .ok (.invokevirtual 155, 3) := by decide +kernel
theorem dX11_paper_49 : decode cX11_paper 49 = .ok (.ireturn, 1) := by decide +kernel
theorem dX11_wrap_0 : decode cX11_wrap 0 = .ok (.aload_n 0, 1) := by decide +kernel
theorem dX11_wrap_1 : decode cX11_wrap 1 = .ok (.iload_n 1, 1) := by decide +kernel
theorem dX11_wrap_2 : decode cX11_wrap 2 = .ok (.invokevirtual 96, 3) := by decide +kernel
theorem dX11_wrap_5 : decode cX11_wrap 5 = .ok (.ifCond .eq 10, 3) := by decide +kernel
theorem dX11_wrap_8 : decode cX11_wrap 8 = .ok (.iload_n 2, 1) := by decide +kernel
theorem dX11_wrap_9 : decode cX11_wrap 9 = .ok (.invokestatic 158, 3) := by decide +kernel
theorem dX11_wrap_12 : decode cX11_wrap 12 = .ok (.ifCond .ne 10, 3) := by decide +kernel
theorem dX11_wrap_15 : decode cX11_wrap 15 = .ok (.aload_n 0, 1) := by decide +kernel
theorem dX11_wrap_16 : decode cX11_wrap 16 = .ok (.ldc 57, 2) := by decide +kernel
theorem dX11_wrap_18 : decode cX11_wrap 18 = .ok (.invokevirtual 58, 3) := by decide +kernel
theorem dX11_wrap_21 : decode cX11_wrap 21 = .ok (.ireturn, 1) := by decide +kernel
theorem dX11_wrap_22 : decode cX11_wrap 22 = .ok (.aload_n 0, 1) := by decide +kernel
theorem dX11_wrap_23 : decode cX11_wrap 23 = .ok (.getfield 18, 3) := by decide +kernel
theorem dX11_wrap_26 : decode cX11_wrap 26 = .ok (.getfield 103, 3) := by decide +kernel
theorem dX11_wrap_29 : decode cX11_wrap 29 = .ok (.iload_n 1, 1) := by decide +kernel
theorem dX11_wrap_30 : decode cX11_wrap 30 = .ok (.aaload, 1) := by decide +kernel
theorem dX11_wrap_31 : decode cX11_wrap 31 = .ok (.astore_n 3, 1) := by decide +kernel
theorem dX11_wrap_32 : decode cX11_wrap 32 = .ok (.aload_n 3, 1) := by decide +kernel
theorem dX11_wrap_33 : decode cX11_wrap 33 = .ok (.getfield 107, 3) := by decide +kernel
theorem dX11_wrap_36 : decode cX11_wrap 36 = .ok (.bipush 6, 2) := by decide +kernel
theorem dX11_wrap_38 : decode cX11_wrap 38 = .ok (.if_icmp .lt 10, 3) := by decide +kernel
theorem dX11_wrap_41 : decode cX11_wrap 41 = .ok (.aload_n 0, 1) := by decide +kernel
theorem dX11_wrap_42 : decode cX11_wrap 42 = .ok (.ldc 66, 2) := by decide +kernel
theorem dX11_wrap_44 : decode cX11_wrap 44 = .ok (.invokevirtual 58, 3) := by decide +kernel
theorem dX11_wrap_47 : decode cX11_wrap 47 = .ok (.ireturn, 1) := by decide +kernel
theorem dX11_wrap_48 : decode cX11_wrap 48 = .ok (.aload_n 3, 1) := by decide +kernel
theorem dX11_wrap_49 : decode cX11_wrap 49 = .ok (.getfield 161, 3) := by decide +kernel
theorem dX11_wrap_52 : decode cX11_wrap 52 = .ok (.ifCond .eq 10, 3) := by decide +kernel
theorem dX11_wrap_55 : decode cX11_wrap 55 = .ok (.aload_n 0, 1) := by decide +kernel
theorem dX11_wrap_56 : decode cX11_wrap 56 = .ok (.ldc 164, 2) := by decide +kernel
theorem dX11_wrap_58 : decode cX11_wrap 58 = .ok (.invokevirtual 58, 3) := by decide +kernel
theorem dX11_wrap_61 : decode cX11_wrap 61 = .ok (.ireturn, 1) := by decide +kernel
theorem dX11_wrap_62 : decode cX11_wrap 62 = .ok (.aload_n 3, 1) := by decide +kernel
theorem dX11_wrap_63 : decode cX11_wrap 63 = .ok (.iload_n 2, 1) := by decide +kernel
theorem dX11_wrap_64 : decode cX11_wrap 64 = .ok (.invokevirtual 165, 3) := by decide +kernel
theorem dX11_wrap_67 : decode cX11_wrap 67 = .ok (.aload_n 3, 1) := by decide +kernel
theorem dX11_wrap_68 : decode cX11_wrap 68 = .ok (.getfield 107, 3) := by decide +kernel
theorem dX11_wrap_71 : decode cX11_wrap 71 = .ok (.ireturn, 1) := by decide +kernel
theorem dX11_unwrap_0 : decode cX11_unwrap 0 = .ok (.aload_n 0, 1) := by decide +kernel
theorem dX11_unwrap_1 : decode cX11_unwrap 1 = .ok (.iload_n 1, 1) := by decide +kernel
theorem dX11_unwrap_2 : decode cX11_unwrap 2 = .ok (.invokevirtual 96, 3) := by decide +kernel
theorem dX11_unwrap_5 : decode cX11_unwrap 5 = .ok (.ifCond .ne 10, 3) := by decide +kernel
theorem dX11_unwrap_8 : decode cX11_unwrap 8 = .ok (.aload_n 0, 1) := by decide +kernel
theorem dX11_unwrap_9 : decode cX11_unwrap 9 = .ok (.ldc 57, 2) := by decide +kernel
theorem dX11_unwrap_11 : decode cX11_unwrap 11 = .ok (.invokevirtual 58, 3) := by decide +kernel
theorem dX11_unwrap_14 : decode cX11_unwrap 14 = .ok (.ireturn, 1) := by decide +kernel
theorem dX11_unwrap_15 : decode cX11_unwrap 15 = .ok (.aload_n 0, 1) := by decide +kernel
theorem dX11_unwrap_16 : decode cX11_unwrap 16 = .ok (.getfield 18, 3) := by decide +kernel
theorem dX11_unwrap_19 : decode cX11_unwrap 19 = .ok (.getfield 103, 3) := by decide +kernel
theorem dX11_unwrap_22 : decode cX11_unwrap 22 = .ok (.iload_n 1, 1) := by decide +kernel
theorem dX11_unwrap_23 : decode cX11_unwrap 23 = .ok (.aaload, 1) := by decide +kernel
theorem dX11_unwrap_24 : decode cX11_unwrap 24 = .ok (.getfield 107, 3) := by decide +kernel
theorem dX11_unwrap_27 : decode cX11_unwrap 27 = .ok (.ifCond .ne 10, 3) := by decide +kernel
theorem dX11_unwrap_30 : decode cX11_unwrap 30 = .ok (.aload_n 0, 1) := by decide +kernel
theorem dX11_unwrap_31 : decode cX11_unwrap 31 = .ok (.ldc 112, 2) := by decide +kernel
theorem dX11_unwrap_33 : decode cX11_unwrap 33 = .ok (.invokevirtual 58, 3) := by decide +kernel
theorem dX11_unwrap_36 : decode cX11_unwrap 36 = .ok (.ireturn, 1) := by decide +kernel
theorem dX11_unwrap_37 : decode cX11_unwrap 37 = .ok (.aload_n 0, 1) := by decide +kernel
theorem dX11_unwrap_38 : decode cX11_unwrap 38 = .ok (.getfield 18, 3) := by decide +kernel
theorem dX11_unwrap_41 : decode cX11_unwrap 41 = .ok (.getfield 103, 3) := by decide +kernel
theorem dX11_unwrap_44 : decode cX11_unwrap 44 = .ok (.iload_n 1, 1) := by decide +kernel
theorem dX11_unwrap_45 : decode cX11_unwrap 45 = .ok (.aaload, 1) := by decide +kernel
theorem dX11_unwrap_46 : decode cX11_unwrap 46 = .ok (.invokevirtual 169, 3) := by decide +kernel
theorem dX11_unwrap_49 : decode cX11_unwrap 49 = .ok (.ireturn, 1) := by decide +kernel
theorem dX11_set_0 : decode cX11_set 0 = .ok (.aload_n 0, 1) := by decide +kernel
theorem dX11_set_1 : decode cX11_set 1 = .ok (.iload_n 1, 1) := by decide +kernel
theorem dX11_set_2 : decode cX11_set 2 = .ok (.invokevirtual 96, 3) := by decide +kernel
theorem dX11_set_5 : decode cX11_set 5 = .ok (.ifCond .ne 10, 3) := by decide +kernel
theorem dX11_set_8 : decode cX11_set 8 = .ok (.aload_n 0, 1) := by decide +kernel
theorem dX11_set_9 : decode cX11_set 9 = .ok (.ldc 57, 2) := by decide +kernel
theorem dX11_set_11 : decode cX11_set 11 = .ok (.invokevirtual 58, 3) := by decide +kernel
theorem dX11_set_14 : decode cX11_set 14 = .ok (.ireturn, 1) := by decide +kernel
theorem dX11_set_15 : decode cX11_set 15 = .ok (.aload_n 0, 1) := by decide +kernel
theorem dX11_set_16 : decode cX11_set 16 = .ok (.getfield 18, 3) := by decide +kernel
theorem dX11_set_19 : decode cX11_set 19 = .ok (.getfield 103, 3) := by decide +kernel
theorem dX11_set_22 : decode cX11_set 22 = .ok (.iload_n 1, 1) := by decide +kernel
theorem dX11_set_23 : decode cX11_set 23 = .ok (.aaload, 1) := by decide +kernel
theorem dX11_set_24 : decode cX11_set 24 = .ok (.astore 4, 2) := by decide +kernel
theorem dX11_set_26 : decode cX11_set 26 = .ok (.iload_n 2, 1) := by decide +kernel
theorem dX11_set_27 : decode cX11_set 27 = .ok (.iconst 1, 1) := by decide +kernel
theorem dX11_set_28 : decode cX11_set 28 = .ok (.if_icmp .ne 26, 3) := by decide +kernel
theorem dX11_set_31 : decode cX11_set 31 = .ok (.iload_n 3, 1) := by decide +kernel
theorem dX11_set_32 : decode cX11_set 32 = .ok (.invokestatic 143, 3) := by decide +kernel
theorem dX11_set_35 : decode cX11_set 35 = .ok (.ifCond .eq 19, 3) := by decide +kernel
theorem dX11_set_38 : decode cX11_set 38 = .ok (.aload 4, 2) := by decide +kernel
theorem dX11_set_40 : decode cX11_set 40 = .ok (.getfield 125, 3) := by decide +kernel
theorem dX11_set_43 : decode cX11_set 43 = .ok (.istore 5, 2) := by decide +kernel
theorem dX11_set_45 : decode cX11_set 45 = .ok (.aload 4, 2) := by decide +kernel
theorem dX11_set_47 : decode cX11_set 47 = .ok (.iload_n 3, 1) := by decide +kernel
theorem dX11_set_48 : decode cX11_set 48 = .ok (.putfield 125, 3) := by decide +kernel
theorem dX11_set_51 : decode cX11_set 51 = .ok (.iload 5, 2) := by decide +kernel
theorem dX11_set_53 : decode cX11_set 53 = .ok (.ireturn, 1) := by decide +kernel
theorem dX11_set_54 : decode cX11_set 54 = .ok (.iload_n 2, 1) := by decide +kernel
theorem dX11_set_55 : decode cX11_set 55 = .ok (.iconst 2, 1) := by decide +kernel
theorem dX11_set_56 : decode cX11_set 56 = .ok (.if_icmp .ne 27, 3) := by decide +kernel
theorem dX11_set_59 : decode cX11_set 59 = .ok (.aload_n 0, 1) := by decide +kernel
theorem dX11_set_60 : decode cX11_set 60 = .ok (.iload_n 3, 1) := by decide +kernel
theorem dX11_set_61 : decode cX11_set 61 = .ok (.invokevirtual 70, 3) := by decide +kernel
theorem dX11_set_64 : decode cX11_set 64 = .ok (.ifCond .eq 19, 3) := by decide +kernel
theorem dX11_set_67 : decode cX11_set 67 = .ok (.aload 4, 2) := by decide +kernel
theorem dX11_set_69 : decode cX11_set 69 = .ok (.getfield 172, 3) := by decide +kernel
theorem dX11_set_72 : decode cX11_set 72 = .ok (.istore 5, 2) := by decide +kernel
theorem dX11_set_74 : decode cX11_set 74 = .ok (.aload 4, 2) := by decide +kernel
theorem dX11_set_76 : decode cX11_set 76 = .ok (.iload_n 3, 1) := by decide +kernel
theorem dX11_set_77 : decode cX11_set 77 = .ok (.putfield 172, 3) := by decide +kernel
theorem dX11_set_80 : decode cX11_set 80 = .ok (.iload 5, 2) := by decide +kernel
theorem dX11_set_82 : decode cX11_set 82 = .ok (.ireturn, 1) := by decide +kernel
theorem dX11_set_83 : decode cX11_set 83 = .ok (.aload_n 0, 1) := by decide +kernel
theorem dX11_set_84 : decode cX11_set 84 = .ok (.ldc 57, 2) := by decide +kernel
theorem dX11_set_86 : decode cX11_set 86 = .ok (.invokevirtual 58, 3) := by decide +kernel
theorem dX11_set_89 : decode cX11_set 89 = .ok (.ireturn, 1) := by decide +kernel
theorem dX11_days_0 : decode cX11_days 0 = .ok (.iload_n 1, 1) := by decide +kernel
theorem dX11_days_1 : decode cX11_days 1 = .ok (.iconst 1, 1) := by decide +kernel
theorem dX11_days_2 : decode cX11_days 2 = .ok (.bipush 60, 2) := by decide +kernel
theorem dX11_days_4 : decode cX11_days 4 = .ok (.invokestatic 92, 3) := by decide +kernel
theorem dX11_days_7 : decode cX11_days 7 = .ok (.ifCond .ne 10, 3) := by decide +kernel
theorem dX11_days_10 : decode cX11_days 10 = .ok (.aload_n 0, 1) := by decide +kernel
theorem dX11_days_11 : decode cX11_days 11 = .ok (.ldc 57, 2) := by decide +kernel
theorem dX11_days_13 : decode cX11_days 13 = .ok (.invokevirtual 58, 3) := by decide +kernel
theorem dX11_days_16 : decode cX11_days 16 = .ok (.ireturn, 1) := by decide +kernel
theorem dX11_days_17 : decode cX11_days 17 = .ok (.aload_n 0, 1) := by decide +kernel
theorem dX11_days_18 : decode cX11_days 18 = .ok (.getfield 18, 3) := by decide +kernel
theorem dX11_days_21 : decode cX11_days 21 = .ok (.getfield 131, 3) := by decide +kernel
theorem dX11_days_24 : decode cX11_days 24 = .ok (.iload_n 1, 1) := by decide +kernel
theorem dX11_days_25 : decode cX11_days 25 = .ok (.iadd, 1) := by decide +kernel
theorem dX11_days_26 : decode cX11_days 26 = .ok (.sipush 9999, 3) := by decide +kernel
theorem dX11_days_29 : decode cX11_days 29 = .ok (.if_icmp .le 10, 3) := by decide +kernel
theorem dX11_days_32 : decode cX11_days 32 = .ok (.aload_n 0, 1) := by decide +kernel
theorem dX11_days_33 : decode cX11_days 33 = .ok (.ldc 164, 2) := by decide +kernel
theorem dX11_days_35 : decode cX11_days 35 = .ok (.invokevirtual 58, 3) := by decide +kernel
theorem dX11_days_38 : decode cX11_days 38 = .ok (.ireturn, 1) := by decide +kernel
theorem dX11_days_39 : decode cX11_days 39 = .ok (.aload_n 0, 1) := by decide +kernel
theorem dX11_days_40 : decode cX11_days 40 = .ok (.getfield 18, 3) := by decide +kernel
theorem dX11_days_43 : decode cX11_days 43 = .ok (.iload_n 1, 1) := by decide +kernel
theorem dX11_days_44 : decode cX11_days 44 = .ok (.invokevirtual 175, 3) := by decide +kernel
theorem dX11_days_47 : decode cX11_days 47 = .ok (.aload_n 0, 1) := by decide +kernel
theorem dX11_days_48 : decode cX11_days 48 = .ok (.getfield 18, 3) := by decide +kernel
theorem dX11_days_51 : decode cX11_days 51 = .ok (.invokevirtual 88, 3) := by decide +kernel
theorem dX11_days_54 : decode cX11_days 54 = .ok (.ireturn, 1) := by decide +kernel
theorem dX11_now_0 : decode cX11_now 0 = .ok (.iload_n 1, 1) := by decide +kernel
theorem dX11_now_1 : decode cX11_now 1 = .ok (.tableswitch 75 0 4 #[35, 43, 51, 59, 67], 35) := by decide +kernel
theorem dX11_now_36 : decode cX11_now 36 = .ok (.aload_n 0, 1) := by decide +kernel
theorem dX11_now_37 : decode cX11_now 37 = .ok (.getfield 18, 3) := by decide +kernel
theorem dX11_now_40 : decode cX11_now 40 = .ok (.getfield 131, 3) := by decide +kernel
theorem dX11_now_43 : decode cX11_now 43 = .ok (.ireturn, 1) := by decide +kernel
theorem dX11_now_44 : decode cX11_now 44 = .ok (.aload_n 0, 1) := by decide +kernel
theorem dX11_now_45 : decode cX11_now 45 = .ok (.getfield 18, 3) := by decide +kernel
theorem dX11_now_48 : decode cX11_now 48 = .ok (.invokevirtual 178, 3) := by decide +kernel
theorem dX11_now_51 : decode cX11_now 51 = .ok (.ireturn, 1) := by decide +kernel
theorem dX11_now_52 : decode cX11_now 52 = .ok (.aload_n 0, 1) := by decide +kernel
theorem dX11_now_53 : decode cX11_now 53 = .ok (.getfield 18, 3) := by decide +kernel
theorem dX11_now_56 : decode cX11_now 56 = .ok (.invokevirtual 181, 3) := by decide +kernel
theorem dX11_now_59 : decode cX11_now 59 = .ok (.ireturn, 1) := by decide +kernel
theorem dX11_now_60 : decode cX11_now 60 = .ok (.aload_n 0, 1) := by decide +kernel
theorem dX11_now_61 : decode cX11_now 61 = .ok (.getfield 18, 3) := by decide +kernel
theorem dX11_now_64 : decode cX11_now 64 = .ok (.invokevirtual 184, 3) := by decide +kernel
theorem dX11_now_67 : decode cX11_now 67 = .ok (.ireturn, 1) := by decide +kernel
theorem dX11_now_68 : decode cX11_now 68 = .ok (.aload_n 0, 1) := by decide +kernel
theorem dX11_now_69 : decode cX11_now 69 = .ok (.getfield 18, 3) := by decide +kernel
theorem dX11_now_72 : decode cX11_now 72 = .ok (.invokevirtual 187, 3) := by decide +kernel
theorem dX11_now_75 : decode cX11_now 75 = .ok (.ireturn, 1) := by decide +kernel
theorem dX11_now_76 : decode cX11_now 76 = .ok (.aload_n 0, 1) := by decide +kernel
theorem dX11_now_77 : decode cX11_now 77 = .ok (.ldc 57, 2) := by decide +kernel
theorem dX11_now_79 : decode cX11_now 79 = .ok (.invokevirtual 58, 3) := by decide +kernel
theorem dX11_now_82 : decode cX11_now 82 = .ok (.ireturn, 1) := by decide +kernel
theorem dX11_on_0 : decode cX11_on 0 = .ok (.aload_n 0, 1) := by decide +kernel
theorem dX11_on_1 : decode cX11_on 1 = .ok (.iload_n 1, 1) := by decide +kernel
theorem dX11_on_2 : decode cX11_on 2 = .ok (.invokevirtual 96, 3) := by decide +kernel
theorem dX11_on_5 : decode cX11_on 5 = .ok (.ifCond .eq 27, 3) := by decide +kernel
theorem dX11_on_8 : decode cX11_on 8 = .ok (.iload_n 2, 1) := by decide +kernel
theorem dX11_on_9 : decode cX11_on 9 = .ok (.iconst 0, 1) := by decide +kernel
theorem dX11_on_10 : decode cX11_on 10 = .ok (.bipush 60, 2) := by decide +kernel
theorem dX11_on_12 : decode cX11_on 12 = .ok (.invokestatic 92, 3) := by decide +kernel
theorem dX11_on_15 : decode cX11_on 15 = .ok (.ifCond .eq 17, 3) := by decide +kernel
theorem dX11_on_18 : decode cX11_on 18 = .ok (.iload_n 3, 1) := by decide +kernel
theorem dX11_on_19 : decode cX11_on 19 = .ok (.iconst 0, 1) := by decide +kernel
theorem dX11_on_20 : decode cX11_on 20 = .ok (.iconst 3, 1) := by decide +kernel
theorem dX11_on_21 : decode cX11_on 21 = .ok (.invokestatic 92, 3) := by decide +kernel
theorem dX11_on_24 : decode cX11_on 24 = .ok (.ifCond .eq 8, 3) := by decide +kernel
theorem dX11_on_27 : decode cX11_on 27 = .ok (.iload_n 3, 1) := by decide +kernel
theorem dX11_on_28 : decode cX11_on 28 = .ok (.iconst 1, 1) := by decide +kernel
theorem dX11_on_29 : decode cX11_on 29 = .ok (.if_icmp .ne 10, 3) := by decide +kernel
theorem dX11_on_32 : decode cX11_on 32 = .ok (.aload_n 0, 1) := by decide +kernel
theorem dX11_on_33 : decode cX11_on 33 = .ok (.ldc 57, 2) := by decide +kernel
theorem dX11_on_35 : decode cX11_on 35 = .ok (.invokevirtual 58, 3) := by decide +kernel
theorem dX11_on_38 : decode cX11_on 38 = .ok (.ireturn, 1) := by decide +kernel
theorem dX11_on_39 : decode cX11_on 39 = .ok (.aload_n 0, 1) := by decide +kernel
theorem dX11_on_40 : decode cX11_on 40 = .ok (.invokevirtual 190, 3) := by decide +kernel
theorem dX11_on_43 : decode cX11_on 43 = .ok (.aload_n 0, 1) := by decide +kernel
theorem dX11_on_44 : decode cX11_on 44 = .ok (.getfield 25, 3) := by decide +kernel
theorem dX11_on_47 : decode cX11_on 47 = .ok (.iload_n 2, 1) := by decide +kernel
theorem dX11_on_48 : decode cX11_on 48 = .ok (.invokevirtual 175, 3) := by decide +kernel
theorem dX11_on_51 : decode cX11_on 51 = .ok (.aload_n 0, 1) := by decide +kernel
theorem dX11_on_52 : decode cX11_on 52 = .ok (.getfield 25, 3) := by decide +kernel
theorem dX11_on_55 : decode cX11_on 55 = .ok (.getfield 103, 3) := by decide +kernel
theorem dX11_on_58 : decode cX11_on 58 = .ok (.iload_n 1, 1) := by decide +kernel
theorem dX11_on_59 : decode cX11_on 59 = .ok (.aaload, 1) := by decide +kernel
theorem dX11_on_60 : decode cX11_on 60 = .ok (.iload_n 3, 1) := by decide +kernel
theorem dX11_on_61 : decode cX11_on 61 = .ok (.invokevirtual 152, 3) := by decide +kernel
theorem dX11_on_64 : decode cX11_on 64 = .ok (.ireturn, 1) := by decide +kernel
theorem dX11_joyOn_0 : decode cX11_joyOn 0 = .ok (.aload_n 0, 1) := by decide +kernel
theorem dX11_joyOn_1 : decode cX11_joyOn 1 = .ok (.iload_n 1, 1) := by decide +kernel
theorem dX11_joyOn_2 : decode cX11_joyOn 2 = .ok (.invokevirtual 70, 3) := by decide +kernel
theorem dX11_joyOn_5 : decode cX11_joyOn 5 = .ok (.ifCond .eq 13, 3) := by decide +kernel
theorem dX11_joyOn_8 : decode cX11_joyOn 8 = .ok (.iload_n 2, 1) := by decide +kernel
theorem dX11_joyOn_9 : decode cX11_joyOn 9 = .ok (.iconst 0, 1) := by decide +kernel
theorem dX11_joyOn_10 : decode cX11_joyOn 10 = .ok (.bipush 60, 2) := by decide +kernel
theorem dX11_joyOn_12 : decode cX11_joyOn 12 = .ok (.invokestatic 92, 3) := by decide +kernel
theorem dX11_joyOn_15 : decode cX11_joyOn 15 = .ok (.ifCond .ne 10, 3) := by decide +kernel
theorem dX11_joyOn_18 : decode cX11_joyOn 18 = .ok (.aload_n 0, 1) := by decide +kernel
theorem dX11_joyOn_19 : decode cX11_joyOn 19 = .ok (.ldc 57, 2) := by decide +kernel
theorem dX11_joyOn_21 : decode cX11_joyOn 21 = .ok (.invokevirtual 58, 3) := by decide +kernel
theorem dX11_joyOn_24 : decode cX11_joyOn 24 = .ok (.ireturn, 1) := by decide +kernel
theorem dX11_joyOn_25 : decode cX11_joyOn 25 = .ok (.aload_n 0, 1) := by decide +kernel
theorem dX11_joyOn_26 : decode cX11_joyOn 26 = .ok (.invokevirtual 190, 3) := by decide +kernel
theorem dX11_joyOn_29 : decode cX11_joyOn 29 = .ok (.aload_n 0, 1) := by decide +kernel
theorem dX11_joyOn_30 : decode cX11_joyOn 30 = .ok (.getfield 25, 3) := by decide +kernel
theorem dX11_joyOn_33 : decode cX11_joyOn 33 = .ok (.iload_n 2, 1) := by decide +kernel
theorem dX11_joyOn_34 : decode cX11_joyOn 34 = .ok (.invokevirtual 175, 3) := by decide +kernel
theorem dX11_joyOn_37 : decode cX11_joyOn 37 = .ok (.aload_n 0, 1) := by decide +kernel
theorem dX11_joyOn_38 : decode cX11_joyOn 38 = .ok (.getfield 25, 3) := by decide +kernel
theorem dX11_joyOn_41 : decode cX11_joyOn 41 = .ok (.getfield 73, 3) := by decide +kernel
theorem dX11_joyOn_44 : decode cX11_joyOn 44 = .ok (.iload_n 1, 1) := by decide +kernel
theorem dX11_joyOn_45 : decode cX11_joyOn 45 = .ok (.aaload, 1) := by decide +kernel
theorem dX11_joyOn_46 : decode cX11_joyOn 46 = .ok (.getfield 82, 3) := by decide +kernel
theorem dX11_joyOn_49 : decode cX11_joyOn 49 = .ok (.ireturn, 1) := by decide +kernel
theorem dX11_found_0 : decode cX11_found 0 = .ok (.aload_n 0, 1) := by decide +kernel
theorem dX11_found_1 : decode cX11_found 1 = .ok (.iload_n 1, 1) := by decide +kernel
theorem dX11_found_2 : decode cX11_found 2 = .ok (.invokevirtual 96, 3) := by decide +kernel
theorem dX11_found_5 : decode cX11_found 5 = .ok (.ifCond .ne 10, 3) := by decide +kernel
theorem dX11_found_8 : decode cX11_found 8 = .ok (.aload_n 0, 1) := by decide +kernel
theorem dX11_found_9 : decode cX11_found 9 = .ok (.ldc 57, 2) := by decide +kernel
theorem dX11_found_11 : decode cX11_found 11 = .ok (.invokevirtual 58, 3) := by decide +kernel
theorem dX11_found_14 : decode cX11_found 14 = .ok (.ireturn, 1) := by decide +kernel
theorem dX11_found_15 : decode cX11_found 15 = .ok (.aload_n 0, 1) := by decide +kernel
theorem dX11_found_16 : decode cX11_found 16 = .ok (.invokevirtual 190, 3) := by decide +kernel
theorem dX11_found_19 : decode cX11_found 19 = .ok (.iconst 0, 1) := by decide +kernel
theorem dX11_found_20 : decode cX11_found 20 = .ok (.istore_n 2, 1) := by decide +kernel
theorem dX11_found_21 : decode cX11_found 21 = .ok (.iload_n 2, 1) := by decide +kernel
theorem dX11_found_22 : decode cX11_found 22 = .ok (.bipush 60, 2) := by decide +kernel
theorem dX11_found_24 : decode cX11_found 24 = .ok (.if_icmp .gt 33, 3) := by decide +kernel
theorem dX11_found_27 : decode cX11_found 27 = .ok (.aload_n 0, 1) := by decide +kernel
theorem dX11_found_28 : decode cX11_found 28 = .ok (.getfield 25, 3) := by decide +kernel
theorem dX11_found_31 : decode cX11_found 31 = .ok (.getfield 103, 3) := by decide +kernel
theorem dX11_found_34 : decode cX11_found 34 = .ok (.iload_n 1, 1) := by decide +kernel
theorem dX11_found_35 : decode cX11_found 35 = .ok (.aaload, 1) := by decide +kernel
theorem dX11_found_36 : decode cX11_found 36 = .ok (.getfield 161, 3) := by decide +kernel
theorem dX11_found_39 : decode cX11_found 39 = .ok (.ifCond .eq 5, 3) := by decide +kernel
theorem dX11_found_42 : decode cX11_found 42 = .ok (.iload_n 2, 1) := by decide +kernel
theorem dX11_found_43 : decode cX11_found 43 = .ok (.ireturn, 1) := by decide +kernel
theorem dX11_found_44 : decode cX11_found 44 = .ok (.aload_n 0, 1) := by decide +kernel
theorem dX11_found_45 : decode cX11_found 45 = .ok (.getfield 25, 3) := by decide +kernel
theorem dX11_found_48 : decode cX11_found 48 = .ok (.invokevirtual 193, 3) := by decide +kernel
theorem dX11_found_51 : decode cX11_found 51 = .ok (.iinc 2 1, 3) := by decide +kernel
theorem dX11_found_54 : decode cX11_found 54 = .ok (.goto (-33), 3) := by decide +kernel
theorem dX11_found_57 : decode cX11_found 57 = .ok (.aload_n 0, 1) := by decide +kernel
theorem dX11_found_58 : decode cX11_found 58 = .ok (.ldc 112, 2) := by decide +kernel
theorem dX11_found_60 : decode cX11_found 60 = .ok (.invokevirtual 58, 3) := by decide +kernel
theorem dX11_found_63 : decode cX11_found 63 = .ok (.ireturn, 1) := by decide +kernel
theorem dX11_comes_0 : decode cX11_comes 0 = .ok (.aload_n 0, 1) := by decide +kernel
theorem dX11_comes_1 : decode cX11_comes 1 = .ok (.iload_n 1, 1) := by decide +kernel
theorem dX11_comes_2 : decode cX11_comes 2 = .ok (.invokevirtual 96, 3) := by decide +kernel
theorem dX11_comes_5 : decode cX11_comes 5 = .ok (.ifCond .eq 11, 3) := by decide +kernel
theorem dX11_comes_8 : decode cX11_comes 8 = .ok (.aload_n 0, 1) := by decide +kernel
theorem dX11_comes_9 : decode cX11_comes 9 = .ok (.iload_n 2, 1) := by decide +kernel
theorem dX11_comes_10 : decode cX11_comes 10 = .ok (.invokevirtual 70, 3) := by decide +kernel
theorem dX11_comes_13 : decode cX11_comes 13 = .ok (.ifCond .ne 10, 3) := by decide +kernel
theorem dX11_comes_16 : decode cX11_comes 16 = .ok (.aload_n 0, 1) := by decide +kernel
theorem dX11_comes_17 : decode cX11_comes 17 = .ok (.ldc 57, 2) := by decide +kernel
theorem dX11_comes_19 : decode cX11_comes 19 = .ok (.invokevirtual 58, 3) := by decide +kernel
theorem dX11_comes_22 : decode cX11_comes 22 = .ok (.ireturn, 1) := by decide +kernel
theorem dX11_comes_23 : decode cX11_comes 23 = .ok (.aload_n 0, 1) := by decide +kernel
theorem dX11_comes_24 : decode cX11_comes 24 = .ok (.invokevirtual 190, 3) := by decide +kernel
theorem dX11_comes_27 : decode cX11_comes 27 = .ok (.iconst 0, 1) := by decide +kernel
theorem dX11_comes_28 : decode cX11_comes 28 = .ok (.istore_n 3, 1) := by decide +kernel
theorem dX11_comes_29 : decode cX11_comes 29 = .ok (.iload_n 3, 1) := by decide +kernel
theorem dX11_comes_30 : decode cX11_comes 30 = .ok (.bipush 60, 2) := by decide +kernel
theorem dX11_comes_32 : decode cX11_comes 32 = .ok (.if_icmp .gt 34, 3) := by decide +kernel
theorem dX11_comes_35 : decode cX11_comes 35 = .ok (.aload_n 0, 1) := by decide +kernel
theorem dX11_comes_36 : decode cX11_comes 36 = .ok (.getfield 25, 3) := by decide +kernel
theorem dX11_comes_39 : decode cX11_comes 39 = .ok (.getfield 103, 3) := by decide +kernel
theorem dX11_comes_42 : decode cX11_comes 42 = .ok (.iload_n 1, 1) := by decide +kernel
theorem dX11_comes_43 : decode cX11_comes 43 = .ok (.aaload, 1) := by decide +kernel
theorem dX11_comes_44 : decode cX11_comes 44 = .ok (.getfield 172, 3) := by decide +kernel
theorem dX11_comes_47 : decode cX11_comes 47 = .ok (.iload_n 2, 1) := by decide +kernel
theorem dX11_comes_48 : decode cX11_comes 48 = .ok (.if_icmp .ne 5, 3) := by decide +kernel
theorem dX11_comes_51 : decode cX11_comes 51 = .ok (.iload_n 3, 1) := by decide +kernel
theorem dX11_comes_52 : decode cX11_comes 52 = .ok (.ireturn, 1) := by decide +kernel
theorem dX11_comes_53 : decode cX11_comes 53 = .ok (.aload_n 0, 1) := by decide +kernel
theorem dX11_comes_54 : decode cX11_comes 54 = .ok (.getfield 25, 3) := by decide +kernel
theorem dX11_comes_57 : decode cX11_comes 57 = .ok (.invokevirtual 193, 3) := by decide +kernel
theorem dX11_comes_60 : decode cX11_comes 60 = .ok (.iinc 3 1, 3) := by decide +kernel
theorem dX11_comes_63 : decode cX11_comes 63 = .ok (.goto (-34), 3) := by decide +kernel
theorem dX11_comes_66 : decode cX11_comes 66 = .ok (.aload_n 0, 1) := by decide +kernel
theorem dX11_comes_67 : decode cX11_comes 67 = .ok (.ldc 112, 2) := by decide +kernel
theorem dX11_comes_69 : decode cX11_comes 69 = .ok (.invokevirtual 58, 3) := by decide +kernel
theorem dX11_comes_72 : decode cX11_comes 72 = .ok (.ireturn, 1) := by decide +kernel
theorem dX11_best_0 : decode cX11_best 0 = .ok (.aload_n 0, 1) := by decide +kernel
theorem dX11_best_1 : decode cX11_best 1 = .ok (.iload_n 1, 1) := by decide +kernel
theorem dX11_best_2 : decode cX11_best 2 = .ok (.invokevirtual 96, 3) := by decide +kernel
theorem dX11_best_5 : decode cX11_best 5 = .ok (.ifCond .eq 13, 3) := by decide +kernel
theorem dX11_best_8 : decode cX11_best 8 = .ok (.iload_n 2, 1) := by decide +kernel
theorem dX11_best_9 : decode cX11_best 9 = .ok (.iconst 1, 1) := by decide +kernel
theorem dX11_best_10 : decode cX11_best 10 = .ok (.bipush 30, 2) := by decide +kernel
theorem dX11_best_12 : decode cX11_best 12 = .ok (.invokestatic 92, 3) := by decide +kernel
theorem dX11_best_15 : decode cX11_best 15 = .ok (.ifCond .ne 10, 3) := by decide +kernel
theorem dX11_best_18 : decode cX11_best 18 = .ok (.aload_n 0, 1) := by decide +kernel
theorem dX11_best_19 : decode cX11_best 19 = .ok (.ldc 57, 2) := by decide +kernel
theorem dX11_best_21 : decode cX11_best 21 = .ok (.invokevirtual 58, 3) := by decide +kernel
theorem dX11_best_24 : decode cX11_best 24 = .ok (.ireturn, 1) := by decide +kernel
theorem dX11_best_25 : decode cX11_best 25 = .ok (.aload_n 0, 1) := by decide +kernel
theorem dX11_best_26 : decode cX11_best 26 = .ok (.getfield 18, 3) := by decide +kernel
theorem dX11_best_29 : decode cX11_best 29 = .ok (.getfield 103, 3) := by decide +kernel
theorem dX11_best_32 : decode cX11_best 32 = .ok (.iload_n 1, 1) := by decide +kernel
theorem dX11_best_33 : decode cX11_best 33 = .ok (.aaload, 1) := by decide +kernel
theorem dX11_best_34 : decode cX11_best 34 = .ok (.getfield 107, 3) := by decide +kernel
theorem dX11_best_37 : decode cX11_best 37 = .ok (.bipush 6, 2) := by decide +kernel
theorem dX11_best_39 : decode cX11_best 39 = .ok (.if_icmp .lt 10, 3) := by decide +kernel
theorem dX11_best_42 : decode cX11_best 42 = .ok (.aload_n 0, 1) := by decide +kernel
theorem dX11_best_43 : decode cX11_best 43 = .ok (.ldc 66, 2) := by decide +kernel
theorem dX11_best_45 : decode cX11_best 45 = .ok (.invokevirtual 58, 3) := by decide +kernel
theorem dX11_best_48 : decode cX11_best 48 = .ok (.ireturn, 1) := by decide +kernel
theorem dX11_best_49 : decode cX11_best 49 = .ok (.aload_n 0, 1) := by decide +kernel
theorem dX11_best_50 : decode cX11_best 50 = .ok (.getfield 18, 3) := by decide +kernel
theorem dX11_best_53 : decode cX11_best 53 = .ok (.getfield 103, 3) := by decide +kernel
theorem dX11_best_56 : decode cX11_best 56 = .ok (.iload_n 1, 1) := by decide +kernel
theorem dX11_best_57 : decode cX11_best 57 = .ok (.aaload, 1) := by decide +kernel
theorem dX11_best_58 : decode cX11_best 58 = .ok (.getfield 161, 3) := by decide +kernel
theorem dX11_best_61 : decode cX11_best 61 = .ok (.ifCond .eq 10, 3) := by decide +kernel
theorem dX11_best_64 : decode cX11_best 64 = .ok (.aload_n 0, 1) := by decide +kernel
theorem dX11_best_65 : decode cX11_best 65 = .ok (.ldc 164, 2) := by decide +kernel
theorem dX11_best_67 : decode cX11_best 67 = .ok (.invokevirtual 58, 3) := by decide +kernel
theorem dX11_best_70 : decode cX11_best 70 = .ok (.ireturn, 1) := by decide +kernel
theorem dX11_best_71 : decode cX11_best 71 = .ok (.iconst 0, 1) := by decide +kernel
theorem dX11_best_72 : decode cX11_best 72 = .ok (.istore_n 3, 1) := by decide +kernel
theorem dX11_best_73 : decode cX11_best 73 = .ok (.iconst (-1), 1) := by decide +kernel
theorem dX11_best_74 : decode cX11_best 74 = .ok (.istore 4, 2) := by decide +kernel
theorem dX11_best_76 : decode cX11_best 76 = .ok (.iconst 0, 1) := by decide +kernel
theorem dX11_best_77 : decode cX11_best 77 = .ok (.istore 5, 2) := by decide +kernel
theorem dX11_best_79 : decode cX11_best 79 = .ok (.iload 5, 2) := by decide +kernel
theorem dX11_best_81 : decode cX11_best 81 = .ok (.iconst 4, 1) := by decide +kernel
theorem dX11_best_82 : decode cX11_best 82 = .ok (.if_icmp .ge 58, 3) := by decide +kernel
theorem dX11_best_85 : decode cX11_best 85 = .ok (.aload_n 0, 1) := by decide +kernel
theorem dX11_best_86 : decode cX11_best 86 = .ok (.invokevirtual 190, 3) := by decide +kernel
theorem dX11_best_89 : decode cX11_best 89 = .ok (.aload_n 0, 1) := by decide +kernel
theorem dX11_best_90 : decode cX11_best 90 = .ok (.getfield 25, 3) := by decide +kernel
theorem dX11_best_93 : decode cX11_best 93 = .ok (.getfield 103, 3) := by decide +kernel
theorem dX11_best_96 : decode cX11_best 96 = .ok (.iload_n 1, 1) := by decide +kernel
theorem dX11_best_97 : decode cX11_best 97 = .ok (.aaload, 1) := by decide +kernel
theorem dX11_best_98 : decode cX11_best 98 = .ok (.iload 5, 2) := by decide +kernel
theorem dX11_best_100 : decode cX11_best 100 = .ok (.invokevirtual 165, 3) := by decide +kernel
theorem dX11_best_103 : decode cX11_best 103 = .ok (.aload_n 0, 1) := by decide +kernel
theorem dX11_best_104 : decode cX11_best 104 = .ok (.getfield 25, 3) := by decide +kernel
theorem dX11_best_107 : decode cX11_best 107 = .ok (.iload_n 2, 1) := by decide +kernel
theorem dX11_best_108 : decode cX11_best 108 = .ok (.invokevirtual 175, 3) := by decide +kernel
theorem dX11_best_111 : decode cX11_best 111 = .ok (.aload_n 0, 1) := by decide +kernel
theorem dX11_best_112 : decode cX11_best 112 = .ok (.getfield 25, 3) := by decide +kernel
theorem dX11_best_115 : decode cX11_best 115 = .ok (.invokevirtual 178, 3) := by decide +kernel
theorem dX11_best_118 : decode cX11_best 118 = .ok (.istore 6, 2) := by decide +kernel
theorem dX11_best_120 : decode cX11_best 120 = .ok (.iload 6, 2) := by decide +kernel
