theorem dX0_init_0 : decode cX0_init 0 = .ok (.aload_n 0, 1) := by decide +kernel
theorem dX0_init_1 : decode cX0_init 1 = .ok (.invokespecial 3, 3) := by decide +kernel
theorem dX0_init_4 : decode cX0_init 4 = .ok (.aload_n 0, 1) := by decide +kernel
theorem dX0_init_5 : decode cX0_init 5 = .ok (.bipush 20, 2) := by decide +kernel
theorem dX0_init_7 : decode cX0_init 7 = .ok (.newarray .int, 2) := by decide +kernel
theorem dX0_init_9 : decode cX0_init 9 = .ok (.putfield 9, 3) := by decide +kernel
theorem dX0_init_12 : decode cX0_init 12 = .ok (.aload_n 0, 1) := by decide +kernel
theorem dX0_init_13 : decode cX0_init 13 = .ok (.bipush 20, 2) := by decide +kernel
theorem dX0_init_15 : decode cX0_init 15 = .ok (.newarray .int, 2) := by decide +kernel
theorem dX0_init_17 : decode cX0_init 17 = .ok (.putfield 15, 3) := by decide +kernel
theorem dX0_init_20 : decode cX0_init 20 = .ok (.aload_n 0, 1) := by decide +kernel
theorem dX0_init_21 : decode cX0_init 21 = .ok (.bipush 20, 2) := by decide +kernel
theorem dX0_init_23 : decode cX0_init 23 = .ok (.newarray .int, 2) := by decide +kernel
theorem dX0_init_25 : decode cX0_init 25 = .ok (.putfield 18, 3) := by decide +kernel
theorem dX0_init_28 : decode cX0_init 28 = .ok (.aload_n 0, 1) := by decide +kernel
theorem dX0_init_29 : decode cX0_init 29 = .ok (.iconst 0, 1) := by decide +kernel
theorem dX0_init_30 : decode cX0_init 30 = .ok (.putfield 21, 3) := by decide +kernel
theorem dX0_init_33 : decode cX0_init 33 = .ok (.return_, 1) := by decide +kernel
theorem dX0_add_0 : decode cX0_add 0 = .ok (.aload_n 0, 1) := by decide +kernel
theorem dX0_add_1 : decode cX0_add 1 = .ok (.getfield 21, 3) := by decide +kernel
theorem dX0_add_4 : decode cX0_add 4 = .ok (.bipush 20, 2) := by decide +kernel
theorem dX0_add_6 : decode cX0_add 6 = .ok (.if_icmp .lt 4, 3) := by decide +kernel
theorem dX0_add_9 : decode cX0_add 9 = .ok (.return_, 1) := by decide +kernel
theorem dX0_add_10 : decode cX0_add 10 = .ok (.aload_n 0, 1) := by decide +kernel
theorem dX0_add_11 : decode cX0_add 11 = .ok (.getfield 9, 3) := by decide +kernel
theorem dX0_add_14 : decode cX0_add 14 = .ok (.aload_n 0, 1) := by decide +kernel
theorem dX0_add_15 : decode cX0_add 15 = .ok (.getfield 21, 3) := by decide +kernel
theorem dX0_add_18 : decode cX0_add 18 = .ok (.iload_n 1, 1) := by decide +kernel
theorem dX0_add_19 : decode cX0_add 19 = .ok (.iastore, 1) := by decide +kernel
theorem dX0_add_20 : decode cX0_add 20 = .ok (.aload_n 0, 1) := by decide +kernel
theorem dX0_add_21 : decode cX0_add 21 = .ok (.getfield 15, 3) := by decide +kernel
theorem dX0_add_24 : decode cX0_add 24 = .ok (.aload_n 0, 1) := by decide +kernel
theorem dX0_add_25 : decode cX0_add 25 = .ok (.getfield 21, 3) := by decide +kernel
theorem dX0_add_28 : decode cX0_add 28 = .ok (.iload_n 2, 1) := by decide +kernel
theorem dX0_add_29 : decode cX0_add 29 = .ok (.iastore, 1) := by decide +kernel
theorem dX0_add_30 : decode cX0_add 30 = .ok (.aload_n 0, 1) := by decide +kernel
theorem dX0_add_31 : decode cX0_add 31 = .ok (.getfield 18, 3) := by decide +kernel
theorem dX0_add_34 : decode cX0_add 34 = .ok (.aload_n 0, 1) := by decide +kernel
theorem dX0_add_35 : decode cX0_add 35 = .ok (.getfield 21, 3) := by decide +kernel
theorem dX0_add_38 : decode cX0_add 38 = .ok (.iload_n 3, 1) := by decide +kernel
theorem dX0_add_39 : decode cX0_add 39 = .ok (.iastore, 1) := by decide +kernel
theorem dX0_add_40 : decode cX0_add 40 = .ok (.aload_n 0, 1) := by decide +kernel
theorem dX0_add_41 : decode cX0_add 41 = .ok (.dup, 1) := by decide +kernel
theorem dX0_add_42 : decode cX0_add 42 = .ok (.getfield 21, 3) := by decide +kernel
theorem dX0_add_45 : decode cX0_add 45 = .ok (.iconst 1, 1) := by decide +kernel
theorem dX0_add_46 : decode cX0_add 46 = .ok (.iadd, 1) := by decide +kernel
theorem dX0_add_47 : decode cX0_add 47 = .ok (.putfield 21, 3) := by decide +kernel
theorem dX0_add_50 : decode cX0_add 50 = .ok (.return_, 1) := by decide +kernel
theorem dX0_firstOtherwise_0 : decode cX0_firstOtherwise 0 = .ok (.iconst 0, 1) := by decide +kernel
theorem dX0_firstOtherwise_1 : decode cX0_firstOtherwise 1 = .ok (.istore_n 3, 1) := by decide +kernel
theorem dX0_firstOtherwise_2 : decode cX0_firstOtherwise 2 = .ok (.iload_n 3, 1) := by decide +kernel
theorem dX0_firstOtherwise_3 : decode cX0_firstOtherwise 3 = .ok (.aload_n 0, 1) := by decide +kernel
theorem dX0_firstOtherwise_4 : decode cX0_firstOtherwise 4 = .ok (.getfield 21, 3) := by decide +kernel
theorem dX0_firstOtherwise_7 : decode cX0_firstOtherwise 7 = .ok (.if_icmp .ge 68, 3) := by decide +kernel
theorem dX0_firstOtherwise_10 : decode cX0_firstOtherwise 10 = .ok (.aload_n 0, 1) := by decide +kernel
theorem dX0_firstOtherwise_11 : decode cX0_firstOtherwise 11 = .ok (.getfield 9, 3) := by decide +kernel
theorem dX0_firstOtherwise_14 : decode cX0_firstOtherwise 14 = .ok (.iload_n 3, 1) := by decide +kernel
theorem dX0_firstOtherwise_15 : decode cX0_firstOtherwise 15 = .ok (.iaload, 1) := by decide +kernel
theorem dX0_firstOtherwise_16 : decode cX0_firstOtherwise 16 = .ok (.iload_n 2, 1) := by decide +kernel
theorem dX0_firstOtherwise_17 : decode cX0_firstOtherwise 17 = .ok (.if_icmp .ge 13, 3) := by decide +kernel
theorem dX0_firstOtherwise_20 : decode cX0_firstOtherwise 20 = .ok (.aload_n 0, 1) := by decide +kernel
theorem dX0_firstOtherwise_21 : decode cX0_firstOtherwise 21 = .ok (.getfield 15, 3) := by decide +kernel
theorem dX0_firstOtherwise_24 : decode cX0_firstOtherwise 24 = .ok (.iload_n 3, 1) := by decide +kernel
theorem dX0_firstOtherwise_25 : decode cX0_firstOtherwise 25 = .ok (.iaload, 1) := by decide +kernel
theorem dX0_firstOtherwise_26 : decode cX0_firstOtherwise 26 = .ok (.iload_n 2, 1) := by decide +kernel
theorem dX0_firstOtherwise_27 : decode cX0_firstOtherwise 27 = .ok (.if_icmp .lt 7, 3) := by decide +kernel
theorem dX0_firstOtherwise_30 : decode cX0_firstOtherwise 30 = .ok (.iconst 1, 1) := by decide +kernel
theorem dX0_firstOtherwise_31 : decode cX0_firstOtherwise 31 = .ok (.goto 4, 3) := by decide +kernel
theorem dX0_firstOtherwise_34 : decode cX0_firstOtherwise 34 = .ok (.iconst 0, 1) := by decide +kernel
theorem dX0_firstOtherwise_35 : decode cX0_firstOtherwise 35 = .ok (.istore 4, 2) := by decide +kernel
theorem dX0_firstOtherwise_37 : decode cX0_firstOtherwise 37 = .ok (.iload 4, 2) := by decide +kernel
theorem dX0_firstOtherwise_39 : decode cX0_firstOtherwise 39 = .ok (.ifCond .ne 28, 3) := by decide +kernel
theorem dX0_firstOtherwise_42 : decode cX0_firstOtherwise 42 = .ok (.aload_n 1, 1) := by decide +kernel
theorem dX0_firstOtherwise_43 : decode cX0_firstOtherwise 43 = .ok (.aload_n 0, 1) := by decide +kernel
theorem dX0_firstOtherwise_44 : decode cX0_firstOtherwise 44 = .ok (.getfield 9, 3) := by decide +kernel
theorem dX0_firstOtherwise_47 : decode cX0_firstOtherwise 47 = .ok (.iload_n 3, 1) := by decide +kernel
theorem dX0_firstOtherwise_48 : decode cX0_firstOtherwise 48 = .ok (.iaload, 1) := by decide +kernel
theorem dX0_firstOtherwise_49 : decode cX0_firstOtherwise 49 = .ok (.aload_n 0, 1) := by decide +kernel
theorem dX0_firstOtherwise_50 : decode cX0_firstOtherwise 50 = .ok (.getfield 15, 3) := by decide +kernel
theorem dX0_firstOtherwise_53 : decode cX0_firstOtherwise 53 = .ok (.iload_n 3, 1) := by decide +kernel
theorem dX0_firstOtherwise_54 : decode cX0_firstOtherwise 54 = .ok (.iaload, 1) := by decide +kernel
theorem dX0_firstOtherwise_55 : decode cX0_firstOtherwise 55 = .ok (.invokevirtual 25, 3) := by decide +kernel
theorem dX0_firstOtherwise_58 : decode cX0_firstOtherwise 58 = .ok (.aload_n 0, 1) := by decide +kernel
theorem dX0_firstOtherwise_59 : decode cX0_firstOtherwise 59 = .ok (.getfield 18, 3) := by decide +kernel
theorem dX0_firstOtherwise_62 : decode cX0_firstOtherwise 62 = .ok (.iload_n 3, 1) := by decide +kernel
theorem dX0_firstOtherwise_63 : decode cX0_firstOtherwise 63 = .ok (.iaload, 1) := by decide +kernel
theorem dX0_firstOtherwise_64 : decode cX0_firstOtherwise 64 = .ok (.if_icmp .eq 5, 3) := by decide +kernel
theorem dX0_firstOtherwise_67 : decode cX0_firstOtherwise 67 = .ok (.iload_n 3, 1) := by decide +kernel
theorem dX0_firstOtherwise_68 : decode cX0_firstOtherwise 68 = .ok (.ireturn, 1) := by decide +kernel
theorem dX0_firstOtherwise_69 : decode cX0_firstOtherwise 69 = .ok (.iinc 3 1, 3) := by decide +kernel
theorem dX0_firstOtherwise_72 : decode cX0_firstOtherwise 72 = .ok (.goto (-70), 3) := by decide +kernel
theorem dX0_firstOtherwise_75 : decode cX0_firstOtherwise 75 = .ok (.iconst (-1), 1) := by decide +kernel
theorem dX0_firstOtherwise_76 : decode cX0_firstOtherwise 76 = .ok (.ireturn, 1) := by decide +kernel
theorem dX1_init_0 : decode cX1_init 0 = .ok (.aload_n 0, 1) := by decide +kernel
theorem dX1_init_1 : decode cX1_init 1 = .ok (.invokespecial 3, 3) := by decide +kernel
theorem dX1_init_4 : decode cX1_init 4 = .ok (.aload_n 0, 1) := by decide +kernel
theorem dX1_init_5 : decode cX1_init 5 = .ok (.bipush 16, 2) := by decide +kernel
theorem dX1_init_7 : decode cX1_init 7 = .ok (.anewarray 9, 3) := by decide +kernel
theorem dX1_init_10 : decode cX1_init 10 = .ok (.putfield 11, 3) := by decide +kernel
theorem dX1_init_13 : decode cX1_init 13 = .ok (.aload_n 0, 1) := by decide +kernel
theorem dX1_init_14 : decode cX1_init 14 = .ok (.iconst 0, 1) := by decide +kernel
theorem dX1_init_15 : decode cX1_init 15 = .ok (.putfield 17, 3) := by decide +kernel
theorem dX1_init_18 : decode cX1_init 18 = .ok (.aload_n 0, 1) := by decide +kernel
theorem dX1_init_19 : decode cX1_init 19 = .ok (.iconst 0, 1) := by decide +kernel
theorem dX1_init_20 : decode cX1_init 20 = .ok (.putfield 21, 3) := by decide +kernel
theorem dX1_init_23 : decode cX1_init 23 = .ok (.iconst 0, 1) := by decide +kernel
theorem dX1_init_24 : decode cX1_init 24 = .ok (.istore_n 1, 1) := by decide +kernel
theorem dX1_init_25 : decode cX1_init 25 = .ok (.iload_n 1, 1) := by decide +kernel
theorem dX1_init_26 : decode cX1_init 26 = .ok (.bipush 16, 2) := by decide +kernel
theorem dX1_init_28 : decode cX1_init 28 = .ok (.if_icmp .ge 22, 3) := by decide +kernel
theorem dX1_init_31 : decode cX1_init 31 = .ok (.aload_n 0, 1) := by decide +kernel
theorem dX1_init_32 : decode cX1_init 32 = .ok (.getfield 11, 3) := by decide +kernel
theorem dX1_init_35 : decode cX1_init 35 = .ok (.iload_n 1, 1) := by decide +kernel
theorem dX1_init_36 : decode cX1_init 36 = .ok (.new 9, 3) := by decide +kernel
theorem dX1_init_39 : decode cX1_init 39 = .ok (.dup, 1) := by decide +kernel
theorem dX1_init_40 : decode cX1_init 40 = .ok (.invokespecial 24, 3) := by decide +kernel
theorem dX1_init_43 : decode cX1_init 43 = .ok (.aastore, 1) := by decide +kernel
theorem dX1_init_44 : decode cX1_init 44 = .ok (.iinc 1 1, 3) := by decide +kernel
theorem dX1_init_47 : decode cX1_init 47 = .ok (.goto (-22), 3) := by decide +kernel
theorem dX1_init_50 : decode cX1_init 50 = .ok (.return_, 1) := by decide +kernel
theorem dX1_remember_0 : decode cX1_remember 0 = .ok (.aload_n 0, 1) := by decide +kernel
theorem dX1_remember_1 : decode cX1_remember 1 = .ok (.getfield 11, 3) := by decide +kernel
theorem dX1_remember_4 : decode cX1_remember 4 = .ok (.aload_n 0, 1) := by decide +kernel
theorem dX1_remember_5 : decode cX1_remember 5 = .ok (.getfield 21, 3) := by decide +kernel
theorem dX1_remember_8 : decode cX1_remember 8 = .ok (.aaload, 1) := by decide +kernel
theorem dX1_remember_9 : decode cX1_remember 9 = .ok (.aload_n 1, 1) := by decide +kernel
theorem dX1_remember_10 : decode cX1_remember 10 = .ok (.invokevirtual 25, 3) := by decide +kernel
theorem dX1_remember_13 : decode cX1_remember 13 = .ok (.aload_n 0, 1) := by decide +kernel
theorem dX1_remember_14 : decode cX1_remember 14 = .ok (.aload_n 0, 1) := by decide +kernel
theorem dX1_remember_15 : decode cX1_remember 15 = .ok (.getfield 21, 3) := by decide +kernel
theorem dX1_remember_18 : decode cX1_remember 18 = .ok (.iconst 1, 1) := by decide +kernel
theorem dX1_remember_19 : decode cX1_remember 19 = .ok (.iadd, 1) := by decide +kernel
theorem dX1_remember_20 : decode cX1_remember 20 = .ok (.bipush 16, 2) := by decide +kernel
theorem dX1_remember_22 : decode cX1_remember 22 = .ok (.irem, 1) := by decide +kernel
theorem dX1_remember_23 : decode cX1_remember 23 = .ok (.putfield 21, 3) := by decide +kernel
theorem dX1_remember_26 : decode cX1_remember 26 = .ok (.aload_n 0, 1) := by decide +kernel
theorem dX1_remember_27 : decode cX1_remember 27 = .ok (.aload_n 0, 1) := by decide +kernel
theorem dX1_remember_28 : decode cX1_remember 28 = .ok (.getfield 17, 3) := by decide +kernel
theorem dX1_remember_31 : decode cX1_remember 31 = .ok (.iconst 1, 1) := by decide +kernel
theorem dX1_remember_32 : decode cX1_remember 32 = .ok (.iadd, 1) := by decide +kernel
theorem dX1_remember_33 : decode cX1_remember 33 = .ok (.bipush 16, 2) := by decide +kernel
theorem dX1_remember_35 : decode cX1_remember 35 = .ok (.invokestatic 29, 3) := by decide +kernel
theorem dX1_remember_38 : decode cX1_remember 38 = .ok (.putfield 17, 3) := by decide +kernel
theorem dX1_remember_41 : decode cX1_remember 41 = .ok (.return_, 1) := by decide +kernel
theorem dX1_takeBack_0 : decode cX1_takeBack 0 = .ok (.iload_n 1, 1) := by decide +kernel
theorem dX1_takeBack_1 : decode cX1_takeBack 1 = .ok (.iconst 1, 1) := by decide +kernel
theorem dX1_takeBack_2 : decode cX1_takeBack 2 = .ok (.if_icmp .lt 11, 3) := by decide +kernel
theorem dX1_takeBack_5 : decode cX1_takeBack 5 = .ok (.iload_n 1, 1) := by decide +kernel
theorem dX1_takeBack_6 : decode cX1_takeBack 6 = .ok (.aload_n 0, 1) := by decide +kernel
theorem dX1_takeBack_7 : decode cX1_takeBack 7 = .ok (.getfield 17, 3) := by decide +kernel
theorem dX1_takeBack_10 : decode cX1_takeBack 10 = .ok (.if_icmp .le 4, 3) := by decide +kernel
theorem dX1_takeBack_13 : decode cX1_takeBack 13 = .ok (.return_, 1) := by decide +kernel
theorem dX1_takeBack_14 : decode cX1_takeBack 14 = .ok (.aload_n 0, 1) := by decide +kernel
theorem dX1_takeBack_15 : decode cX1_takeBack 15 = .ok (.aload_n 0, 1) := by decide +kernel
theorem dX1_takeBack_16 : decode cX1_takeBack 16 = .ok (.getfield 21, 3) := by decide +kernel
theorem dX1_takeBack_19 : decode cX1_takeBack 19 = .ok (.bipush 16, 2) := by decide +kernel
theorem dX1_takeBack_21 : decode cX1_takeBack 21 = .ok (.iadd, 1) := by decide +kernel
theorem dX1_takeBack_22 : decode cX1_takeBack 22 = .ok (.iload_n 1, 1) := by decide +kernel
theorem dX1_takeBack_23 : decode cX1_takeBack 23 = .ok (.isub, 1) := by decide +kernel
theorem dX1_takeBack_24 : decode cX1_takeBack 24 = .ok (.bipush 16, 2) := by decide +kernel
theorem dX1_takeBack_26 : decode cX1_takeBack 26 = .ok (.irem, 1) := by decide +kernel
theorem dX1_takeBack_27 : decode cX1_takeBack 27 = .ok (.putfield 21, 3) := by decide +kernel
theorem dX1_takeBack_30 : decode cX1_takeBack 30 = .ok (.aload_n 0, 1) := by decide +kernel
theorem dX1_takeBack_31 : decode cX1_takeBack 31 = .ok (.dup, 1) := by decide +kernel
theorem dX1_takeBack_32 : decode cX1_takeBack 32 = .ok (.getfield 17, 3) := by decide +kernel
theorem dX1_takeBack_35 : decode cX1_takeBack 35 = .ok (.iload_n 1, 1) := by decide +kernel
theorem dX1_takeBack_36 : decode cX1_takeBack 36 = .ok (.isub, 1) := by decide +kernel
theorem dX1_takeBack_37 : decode cX1_takeBack 37 = .ok (.putfield 17, 3) := by decide +kernel
theorem dX1_takeBack_40 : decode cX1_takeBack 40 = .ok (.aload_n 2, 1) := by decide +kernel
theorem dX1_takeBack_41 : decode cX1_takeBack 41 = .ok (.aload_n 0, 1) := by decide +kernel
theorem dX1_takeBack_42 : decode cX1_takeBack 42 = .ok (.getfield 11, 3) := by decide +kernel
theorem dX1_takeBack_45 : decode cX1_takeBack 45 = .ok (.aload_n 0, 1) := by decide +kernel
theorem dX1_takeBack_46 : decode cX1_takeBack 46 = .ok (.getfield 21, 3) := by decide +kernel
theorem dX1_takeBack_49 : decode cX1_takeBack 49 = .ok (.aaload, 1) := by decide +kernel
theorem dX1_takeBack_50 : decode cX1_takeBack 50 = .ok (.invokevirtual 25, 3) := by decide +kernel
theorem dX1_takeBack_53 : decode cX1_takeBack 53 = .ok (.return_, 1) := by decide +kernel
theorem dX2_init_0 : decode cX2_init 0 = .ok (.aload_n 0, 1) := by decide +kernel
theorem dX2_init_1 : decode cX2_init 1 = .ok (.invokespecial 3, 3) := by decide +kernel
theorem dX2_init_4 : decode cX2_init 4 = .ok (.aload_n 0, 1) := by decide +kernel
theorem dX2_init_5 : decode cX2_init 5 = .ok (.bipush 64, 2) := by decide +kernel
theorem dX2_init_7 : decode cX2_init 7 = .ok (.newarray .int, 2) := by decide +kernel
theorem dX2_init_9 : decode cX2_init 9 = .ok (.putfield 9, 3) := by decide +kernel
theorem dX2_init_12 : decode cX2_init 12 = .ok (.return_, 1) := by decide +kernel
theorem dX2_measure_0 : decode cX2_measure 0 = .ok (.iconst 0, 1) := by decide +kernel
theorem dX2_measure_1 : decode cX2_measure 1 = .ok (.istore_n 3, 1) := by decide +kernel
theorem dX2_measure_2 : decode cX2_measure 2 = .ok (.iload_n 3, 1) := by decide +kernel
theorem dX2_measure_3 : decode cX2_measure 3 = .ok (.aload_n 1, 1) := by decide +kernel
theorem dX2_measure_4 : decode cX2_measure 4 = .ok (.getfield 15, 3) := by decide +kernel
theorem dX2_measure_7 : decode cX2_measure 7 = .ok (.if_icmp .ge 80, 3) := by decide +kernel
theorem dX2_measure_10 : decode cX2_measure 10 = .ok (.iload_n 3, 1) := by decide +kernel
theorem dX2_measure_11 : decode cX2_measure 11 = .ok (.istore 4, 2) := by decide +kernel
theorem dX2_measure_13 : decode cX2_measure 13 = .ok (.iload 4, 2) := by decide +kernel
theorem dX2_measure_15 : decode cX2_measure 15 = .ok (.aload_n 1, 1) := by decide +kernel
theorem dX2_measure_16 : decode cX2_measure 16 = .ok (.getfield 15, 3) := by decide +kernel
theorem dX2_measure_19 : decode cX2_measure 19 = .ok (.if_icmp .ge 62, 3) := by decide +kernel
theorem dX2_measure_22 : decode cX2_measure 22 = .ok (.aload_n 2, 1) := by decide +kernel
theorem dX2_measure_23 : decode cX2_measure 23 = .ok (.aload_n 1, 1) := by decide +kernel
theorem dX2_measure_24 : decode cX2_measure 24 = .ok (.getfield 21, 3) := by decide +kernel
theorem dX2_measure_27 : decode cX2_measure 27 = .ok (.iload_n 3, 1) := by decide +kernel
theorem dX2_measure_28 : decode cX2_measure 28 = .ok (.laload, 1) := by decide +kernel
theorem dX2_measure_29 : decode cX2_measure 29 = .ok (.aload_n 1, 1) := by decide +kernel
theorem dX2_measure_30 : decode cX2_measure 30 = .ok (.getfield 21, 3) := by decide +kernel
theorem dX2_measure_33 : decode cX2_measure 33 = .ok (.iload 4, 2) := by decide +kernel
theorem dX2_measure_35 : decode cX2_measure 35 = .ok (.laload, 1) := by decide +kernel
theorem dX2_measure_36 : decode cX2_measure 36 = .ok (.aload_n 1, 1) := by decide +kernel
theorem dX2_measure_37 : decode cX2_measure 37 = .ok (.getfield 25, 3) := by decide +kernel
theorem dX2_measure_40 : decode cX2_measure 40 = .ok (.invokevirtual 28, 3) := by decide +kernel
theorem dX2_measure_43 : decode cX2_measure 43 = .ok (.aload_n 0, 1) := by decide +kernel
theorem dX2_measure_44 : decode cX2_measure 44 = .ok (.getfield 9, 3) := by decide +kernel
theorem dX2_measure_47 : decode cX2_measure 47 = .ok (.iload_n 3, 1) := by decide +kernel
theorem dX2_measure_48 : decode cX2_measure 48 = .ok (.bipush 8, 2) := by decide +kernel
theorem dX2_measure_50 : decode cX2_measure 50 = .ok (.imul, 1) := by decide +kernel
theorem dX2_measure_51 : decode cX2_measure 51 = .ok (.iload 4, 2) := by decide +kernel
theorem dX2_measure_53 : decode cX2_measure 53 = .ok (.iadd, 1) := by decide +kernel
theorem dX2_measure_54 : decode cX2_measure 54 = .ok (.aload_n 2, 1) := by decide +kernel
theorem dX2_measure_55 : decode cX2_measure 55 = .ok (.invokevirtual 34, 3) := by decide +kernel
theorem dX2_measure_58 : decode cX2_measure 58 = .ok (.iastore, 1) := by decide +kernel
theorem dX2_measure_59 : decode cX2_measure 59 = .ok (.aload_n 0, 1) := by decide +kernel
theorem dX2_measure_60 : decode cX2_measure 60 = .ok (.getfield 9, 3) := by decide +kernel
theorem dX2_measure_63 : decode cX2_measure 63 = .ok (.iload 4, 2) := by decide +kernel
theorem dX2_measure_65 : decode cX2_measure 65 = .ok (.bipush 8, 2) := by decide +kernel
theorem dX2_measure_67 : decode cX2_measure 67 = .ok (.imul, 1) := by decide +kernel
theorem dX2_measure_68 : decode cX2_measure 68 = .ok (.iload_n 3, 1) := by decide +kernel
theorem dX2_measure_69 : decode cX2_measure 69 = .ok (.iadd, 1) := by decide +kernel
theorem dX2_measure_70 : decode cX2_measure 70 = .ok (.aload_n 2, 1) := by decide +kernel
theorem dX2_measure_71 : decode cX2_measure 71 = .ok (.invokevirtual 34, 3) := by decide +kernel
theorem dX2_measure_74 : decode cX2_measure 74 = .ok (.iastore, 1) := by decide +kernel
theorem dX2_measure_75 : decode cX2_measure 75 = .ok (.iinc 4 1, 3) := by decide +kernel
theorem dX2_measure_78 : decode cX2_measure 78 = .ok (.goto (-65), 3) := by decide +kernel
theorem dX2_measure_81 : decode cX2_measure 81 = .ok (.iinc 3 1, 3) := by decide +kernel
theorem dX2_measure_84 : decode cX2_measure 84 = .ok (.goto (-82), 3) := by decide +kernel
theorem dX2_measure_87 : decode cX2_measure 87 = .ok (.return_, 1) := by decide +kernel
theorem dX2_between_0 : decode cX2_between 0 = .ok (.aload_n 0, 1) := by decide +kernel
theorem dX2_between_1 : decode cX2_between 1 = .ok (.getfield 9, 3) := by decide +kernel
theorem dX2_between_4 : decode cX2_between 4 = .ok (.iload_n 1, 1) := by decide +kernel
theorem dX2_between_5 : decode cX2_between 5 = .ok (.bipush 8, 2) := by decide +kernel
theorem dX2_between_7 : decode cX2_between 7 = .ok (.imul, 1) := by decide +kernel
theorem dX2_between_8 : decode cX2_between 8 = .ok (.iload_n 2, 1) := by decide +kernel
theorem dX2_between_9 : decode cX2_between 9 = .ok (.iadd, 1) := by decide +kernel
theorem dX2_between_10 : decode cX2_between 10 = .ok (.iaload, 1) := by decide +kernel
theorem dX2_between_11 : decode cX2_between 11 = .ok (.ireturn, 1) := by decide +kernel
theorem dX2_middleOf_0 : decode cX2_middleOf 0 = .ok (.iconst (-1), 1) := by decide +kernel
theorem dX2_middleOf_1 : decode cX2_middleOf 1 = .ok (.istore_n 2, 1) := by decide +kernel
theorem dX2_middleOf_2 : decode cX2_middleOf 2 = .ok (.iconst 0, 1) := by decide +kernel
theorem dX2_middleOf_3 : decode cX2_middleOf 3 = .ok (.istore_n 3, 1) := by decide +kernel
theorem dX2_middleOf_4 : decode cX2_middleOf 4 = .ok (.iconst 0, 1) := by decide +kernel
theorem dX2_middleOf_5 : decode cX2_middleOf 5 = .ok (.istore 4, 2) := by decide +kernel
theorem dX2_middleOf_7 : decode cX2_middleOf 7 = .ok (.iload 4, 2) := by decide +kernel
theorem dX2_middleOf_9 : decode cX2_middleOf 9 = .ok (.bipush 8, 2) := by decide +kernel
theorem dX2_middleOf_11 : decode cX2_middleOf 11 = .ok (.if_icmp .ge 45, 3) := by decide +kernel
theorem dX2_middleOf_14 : decode cX2_middleOf 14 = .ok (.iload_n 1, 1) := by decide +kernel
theorem dX2_middleOf_15 : decode cX2_middleOf 15 = .ok (.iload 4, 2) := by decide +kernel
theorem dX2_middleOf_17 : decode cX2_middleOf 17 = .ok (.ishr, 1) := by decide +kernel
theorem dX2_middleOf_18 : decode cX2_middleOf 18 = .ok (.iconst 1, 1) := by decide +kernel
theorem dX2_middleOf_19 : decode cX2_middleOf 19 = .ok (.iand, 1) := by decide +kernel
theorem dX2_middleOf_20 : decode cX2_middleOf 20 = .ok (.iconst 1, 1) := by decide +kernel
theorem dX2_middleOf_21 : decode cX2_middleOf 21 = .ok (.if_icmp .ne 29, 3) := by decide +kernel
theorem dX2_middleOf_24 : decode cX2_middleOf 24 = .ok (.aload_n 0, 1) := by decide +kernel
theorem dX2_middleOf_25 : decode cX2_middleOf 25 = .ok (.iload 4, 2) := by decide +kernel
theorem dX2_middleOf_27 : decode cX2_middleOf 27 = .ok (.iload_n 1, 1) := by decide +kernel
theorem dX2_middleOf_28 : decode cX2_middleOf 28 = .ok (.invokevirtual 37, 3) := by decide +kernel
theorem dX2_middleOf_31 : decode cX2_middleOf 31 = .ok (.istore 5, 2) := by decide +kernel
theorem dX2_middleOf_33 : decode cX2_middleOf 33 = .ok (.iload_n 2, 1) := by decide +kernel
theorem dX2_middleOf_34 : decode cX2_middleOf 34 = .ok (.iconst (-1), 1) := by decide +kernel
theorem dX2_middleOf_35 : decode cX2_middleOf 35 = .ok (.if_icmp .eq 9, 3) := by decide +kernel
theorem dX2_middleOf_38 : decode cX2_middleOf 38 = .ok (.iload 5, 2) := by decide +kernel
theorem dX2_middleOf_40 : decode cX2_middleOf 40 = .ok (.iload_n 3, 1) := by decide +kernel
theorem dX2_middleOf_41 : decode cX2_middleOf 41 = .ok (.if_icmp .ge 9, 3) := by decide +kernel
theorem dX2_middleOf_44 : decode cX2_middleOf 44 = .ok (.iload 4, 2) := by decide +kernel
theorem dX2_middleOf_46 : decode cX2_middleOf 46 = .ok (.istore_n 2, 1) := by decide +kernel
theorem dX2_middleOf_47 : decode cX2_middleOf 47 = .ok (.iload 5, 2) := by decide +kernel
theorem dX2_middleOf_49 : decode cX2_middleOf 49 = .ok (.istore_n 3, 1) := by decide +kernel
theorem dX2_middleOf_50 : decode cX2_middleOf 50 = .ok (.iinc 4 1, 3) := by decide +kernel
theorem dX2_middleOf_53 : decode cX2_middleOf 53 = .ok (.goto (-46), 3) := by decide +kernel
theorem dX2_middleOf_56 : decode cX2_middleOf 56 = .ok (.iload_n 2, 1) := by decide +kernel
theorem dX2_middleOf_57 : decode cX2_middleOf 57 = .ok (.ireturn, 1) := by decide +kernel
theorem dX2_sumTo_0 : decode cX2_sumTo 0 = .ok (.iconst 0, 1) := by decide +kernel
theorem dX2_sumTo_1 : decode cX2_sumTo 1 = .ok (.istore_n 3, 1) := by decide +kernel
theorem dX2_sumTo_2 : decode cX2_sumTo 2 = .ok (.iconst 0, 1) := by decide +kernel
theorem dX2_sumTo_3 : decode cX2_sumTo 3 = .ok (.istore 4, 2) := by decide +kernel
theorem dX2_sumTo_5 : decode cX2_sumTo 5 = .ok (.iload 4, 2) := by decide +kernel
theorem dX2_sumTo_7 : decode cX2_sumTo 7 = .ok (.bipush 8, 2) := by decide +kernel
theorem dX2_sumTo_9 : decode cX2_sumTo 9 = .ok (.if_icmp .ge 29, 3) := by decide +kernel
theorem dX2_sumTo_12 : decode cX2_sumTo 12 = .ok (.iload_n 2, 1) := by decide +kernel
theorem dX2_sumTo_13 : decode cX2_sumTo 13 = .ok (.iload 4, 2) := by decide +kernel
theorem dX2_sumTo_15 : decode cX2_sumTo 15 = .ok (.ishr, 1) := by decide +kernel
theorem dX2_sumTo_16 : decode cX2_sumTo 16 = .ok (.iconst 1, 1) := by decide +kernel
theorem dX2_sumTo_17 : decode cX2_sumTo 17 = .ok (.iand, 1) := by decide +kernel
theorem dX2_sumTo_18 : decode cX2_sumTo 18 = .ok (.iconst 1, 1) := by decide +kernel
theorem dX2_sumTo_19 : decode cX2_sumTo 19 = .ok (.if_icmp .ne 13, 3) := by decide +kernel
theorem dX2_sumTo_22 : decode cX2_sumTo 22 = .ok (.iload_n 3, 1) := by decide +kernel
theorem dX2_sumTo_23 : decode cX2_sumTo 23 = .ok (.aload_n 0, 1) := by decide +kernel
theorem dX2_sumTo_24 : decode cX2_sumTo 24 = .ok (.iload_n 1, 1) := by decide +kernel
theorem dX2_sumTo_25 : decode cX2_sumTo 25 = .ok (.iload 4, 2) := by decide +kernel
theorem dX2_sumTo_27 : decode cX2_sumTo 27 = .ok (.invokevirtual 41, 3) := by decide +kernel
theorem dX2_sumTo_30 : decode cX2_sumTo 30 = .ok (.iadd, 1) := by decide +kernel
theorem dX2_sumTo_31 : decode cX2_sumTo 31 = .ok (.istore_n 3, 1) := by decide +kernel
theorem dX2_sumTo_32 : decode cX2_sumTo 32 = .ok (.iinc 4 1, 3) := by decide +kernel
theorem dX2_sumTo_35 : decode cX2_sumTo 35 = .ok (.goto (-30), 3) := by decide +kernel
theorem dX2_sumTo_38 : decode cX2_sumTo 38 = .ok (.iload_n 3, 1) := by decide +kernel
theorem dX2_sumTo_39 : decode cX2_sumTo 39 = .ok (.ireturn, 1) := by decide +kernel
theorem dX3_init_0 : decode cX3_init 0 = .ok (.aload_n 0, 1) := by decide +kernel
theorem dX3_init_1 : decode cX3_init 1 = .ok (.invokespecial 1, 3) := by decide +kernel
theorem dX3_init_4 : decode cX3_init 4 = .ok (.aload_n 0, 1) := by decide +kernel
theorem dX3_init_5 : decode cX3_init 5 = .ok (.new 7, 3) := by decide +kernel
theorem dX3_init_8 : decode cX3_init 8 = .ok (.dup, 1) := by decide +kernel
theorem dX3_init_9 : decode cX3_init 9 = .ok (.invokespecial 9, 3) := by decide +kernel
theorem dX3_init_12 : decode cX3_init 12 = .ok (.putfield 10, 3) := by decide +kernel
theorem dX3_init_15 : decode cX3_init 15 = .ok (.aload_n 0, 1) := by decide +kernel
theorem dX3_init_16 : decode cX3_init 16 = .ok (.iconst 0, 1) := by decide +kernel
theorem dX3_init_17 : decode cX3_init 17 = .ok (.putfield 16, 3) := by decide +kernel
theorem dX3_init_20 : decode cX3_init 20 = .ok (.aload_n 0, 1) := by decide +kernel
theorem dX3_init_21 : decode cX3_init 21 = .ok (.iconst 0, 1) := by decide +kernel
theorem dX3_init_22 : decode cX3_init 22 = .ok (.putfield 20, 3) := by decide +kernel
theorem dX3_init_25 : decode cX3_init 25 = .ok (.return_, 1) := by decide +kernel
theorem dX4_init_0 : decode cX4_init 0 = .ok (.aload_n 0, 1) := by decide +kernel
theorem dX4_init_1 : decode cX4_init 1 = .ok (.invokespecial 3, 3) := by decide +kernel
theorem dX4_init_4 : decode cX4_init 4 = .ok (.aload_n 0, 1) := by decide +kernel
theorem dX4_init_5 : decode cX4_init 5 = .ok (.bipush 10, 2) := by decide +kernel
theorem dX4_init_7 : decode cX4_init 7 = .ok (.newarray .int, 2) := by decide +kernel
theorem dX4_init_9 : decode cX4_init 9 = .ok (.putfield 9, 3) := by decide +kernel
theorem dX4_init_12 : decode cX4_init 12 = .ok (.aload_n 0, 1) := by decide +kernel
theorem dX4_init_13 : decode cX4_init 13 = .ok (.bipush 10, 2) := by decide +kernel
theorem dX4_init_15 : decode cX4_init 15 = .ok (.newarray .int, 2) := by decide +kernel
theorem dX4_init_17 : decode cX4_init 17 = .ok (.putfield 15, 3) := by decide +kernel
theorem dX4_init_20 : decode cX4_init 20 = .ok (.aload_n 0, 1) := by decide +kernel
theorem dX4_init_21 : decode cX4_init 21 = .ok (.iconst 4, 1) := by decide +kernel
theorem dX4_init_22 : decode cX4_init 22 = .ok (.newarray .int, 2) := by decide +kernel
theorem dX4_init_24 : decode cX4_init 24 = .ok (.putfield 18, 3) := by decide +kernel
theorem dX4_init_27 : decode cX4_init 27 = .ok (.aload_n 0, 1) := by decide +kernel
theorem dX4_init_28 : decode cX4_init 28 = .ok (.bipush 121, 2) := by decide +kernel
theorem dX4_init_30 : decode cX4_init 30 = .ok (.newarray .int, 2) := by decide +kernel
theorem dX4_init_32 : decode cX4_init 32 = .ok (.putfield 21, 3) := by decide +kernel
theorem dX4_init_35 : decode cX4_init 35 = .ok (.aload_n 0, 1) := by decide +kernel
theorem dX4_init_36 : decode cX4_init 36 = .ok (.bipush 121, 2) := by decide +kernel
theorem dX4_init_38 : decode cX4_init 38 = .ok (.newarray .int, 2) := by decide +kernel
theorem dX4_init_40 : decode cX4_init 40 = .ok (.putfield 24, 3) := by decide +kernel
theorem dX4_init_43 : decode cX4_init 43 = .ok (.aload_n 0, 1) := by decide +kernel
theorem dX4_init_44 : decode cX4_init 44 = .ok (.bipush 121, 2) := by decide +kernel
theorem dX4_init_46 : decode cX4_init 46 = .ok (.newarray .int, 2) := by decide +kernel
theorem dX4_init_48 : decode cX4_init 48 = .ok (.putfield 27, 3) := by decide +kernel
theorem dX4_init_51 : decode cX4_init 51 = .ok (.aload_n 0, 1) := by decide +kernel
theorem dX4_init_52 : decode cX4_init 52 = .ok (.bipush 20, 2) := by decide +kernel
theorem dX4_init_54 : decode cX4_init 54 = .ok (.newarray .int, 2) := by decide +kernel
theorem dX4_init_56 : decode cX4_init 56 = .ok (.putfield 30, 3) := by decide +kernel
theorem dX4_init_59 : decode cX4_init 59 = .ok (.aload_n 0, 1) := by decide +kernel
theorem dX4_init_60 : decode cX4_init 60 = .ok (.iconst 0, 1) := by decide +kernel
theorem dX4_init_61 : decode cX4_init 61 = .ok (.putfield 33, 3) := by decide +kernel
theorem dX4_init_64 : decode cX4_init 64 = .ok (.aload_n 0, 1) := by decide +kernel
theorem dX4_init_65 : decode cX4_init 65 = .ok (.iconst 0, 1) := by decide +kernel
theorem dX4_init_66 : decode cX4_init 66 = .ok (.putfield 37, 3) := by decide +kernel
theorem dX4_init_69 : decode cX4_init 69 = .ok (.return_, 1) := by decide +kernel
theorem dX4_lineUp_0 : decode cX4_lineUp 0 = .ok (.aload_n 0, 1) := by decide +kernel
theorem dX4_lineUp_1 : decode cX4_lineUp 1 = .ok (.lload_n 1, 1) := by decide +kernel
theorem dX4_lineUp_2 : decode cX4_lineUp 2 = .ok (.aload_n 0, 1) := by decide +kernel
theorem dX4_lineUp_3 : decode cX4_lineUp 3 = .ok (.getfield 9, 3) := by decide +kernel
theorem dX4_lineUp_6 : decode cX4_lineUp 6 = .ok (.invokestatic 40, 3) := by decide +kernel
theorem dX4_lineUp_9 : decode cX4_lineUp 9 = .ok (.putfield 33, 3) := by decide +kernel
theorem dX4_lineUp_12 : decode cX4_lineUp 12 = .ok (.aload_n 0, 1) := by decide +kernel
theorem dX4_lineUp_13 : decode cX4_lineUp 13 = .ok (.lload_n 3, 1) := by decide +kernel
theorem dX4_lineUp_14 : decode cX4_lineUp 14 = .ok (.aload_n 0, 1) := by decide +kernel
theorem dX4_lineUp_15 : decode cX4_lineUp 15 = .ok (.getfield 15, 3) := by decide +kernel
theorem dX4_lineUp_18 : decode cX4_lineUp 18 = .ok (.invokestatic 40, 3) := by decide +kernel
theorem dX4_lineUp_21 : decode cX4_lineUp 21 = .ok (.putfield 37, 3) := by decide +kernel
theorem dX4_lineUp_24 : decode cX4_lineUp 24 = .ok (.aload 5, 2) := by decide +kernel
theorem dX4_lineUp_26 : decode cX4_lineUp 26 = .ok (.iconst 0, 1) := by decide +kernel
theorem dX4_lineUp_27 : decode cX4_lineUp 27 = .ok (.aload_n 0, 1) := by decide +kernel
theorem dX4_lineUp_28 : decode cX4_lineUp 28 = .ok (.getfield 18, 3) := by decide +kernel
theorem dX4_lineUp_31 : decode cX4_lineUp 31 = .ok (.iconst 0, 1) := by decide +kernel
theorem dX4_lineUp_32 : decode cX4_lineUp 32 = .ok (.iconst 4, 1) := by decide +kernel
theorem dX4_lineUp_33 : decode cX4_lineUp 33 = .ok (.invokestatic 44, 3) := by decide +kernel
theorem dX4_lineUp_36 : decode cX4_lineUp 36 = .ok (.aload_n 0, 1) := by decide +kernel
theorem dX4_lineUp_37 : decode cX4_lineUp 37 = .ok (.getfield 33, 3) := by decide +kernel
theorem dX4_lineUp_40 : decode cX4_lineUp 40 = .ok (.istore 6, 2) := by decide +kernel
theorem dX4_lineUp_42 : decode cX4_lineUp 42 = .ok (.iload 6, 2) := by decide +kernel
theorem dX4_lineUp_44 : decode cX4_lineUp 44 = .ok (.ifCond .lt 47, 3) := by decide +kernel
theorem dX4_lineUp_47 : decode cX4_lineUp 47 = .ok (.aload_n 0, 1) := by decide +kernel
theorem dX4_lineUp_48 : decode cX4_lineUp 48 = .ok (.getfield 37, 3) := by decide +kernel
theorem dX4_lineUp_51 : decode cX4_lineUp 51 = .ok (.istore 7, 2) := by decide +kernel
theorem dX4_lineUp_53 : decode cX4_lineUp 53 = .ok (.iload 7, 2) := by decide +kernel
theorem dX4_lineUp_55 : decode cX4_lineUp 55 = .ok (.ifCond .lt 30, 3) := by decide +kernel
theorem dX4_lineUp_58 : decode cX4_lineUp 58 = .ok (.aload_n 0, 1) := by decide +kernel
theorem dX4_lineUp_59 : decode cX4_lineUp 59 = .ok (.getfield 21, 3) := by decide +kernel
theorem dX4_lineUp_62 : decode cX4_lineUp 62 = .ok (.iload 6, 2) := by decide +kernel
theorem dX4_lineUp_64 : decode cX4_lineUp 64 = .ok (.bipush 11, 2) := by decide +kernel
theorem dX4_lineUp_66 : decode cX4_lineUp 66 = .ok (.imul, 1) := by decide +kernel
theorem dX4_lineUp_67 : decode cX4_lineUp 67 = .ok (.iload 7, 2) := by decide +kernel
theorem dX4_lineUp_69 : decode cX4_lineUp 69 = .ok (.iadd, 1) := by decide +kernel
theorem dX4_lineUp_70 : decode cX4_lineUp 70 = .ok (.aload_n 0, 1) := by decide +kernel
theorem dX4_lineUp_71 : decode cX4_lineUp 71 = .ok (.iload 6, 2) := by decide +kernel
theorem dX4_lineUp_73 : decode cX4_lineUp 73 = .ok (.iload 7, 2) := by decide +kernel
theorem dX4_lineUp_75 : decode cX4_lineUp 75 = .ok (.invokevirtual 50, 3) := by decide +kernel
theorem dX4_lineUp_78 : decode cX4_lineUp 78 = .ok (.iastore, 1) := by decide +kernel
theorem dX4_lineUp_79 : decode cX4_lineUp 79 = .ok (.iinc 7 (-1), 3) := by decide +kernel
theorem dX4_lineUp_82 : decode cX4_lineUp 82 = .ok (.goto (-29), 3) := by decide +kernel
theorem dX4_lineUp_85 : decode cX4_lineUp 85 = .ok (.iinc 6 (-1), 3) := by decide +kernel
theorem dX4_lineUp_88 : decode cX4_lineUp 88 = .ok (.goto (-46), 3) := by decide +kernel
theorem dX4_lineUp_91 : decode cX4_lineUp 91 = .ok (.return_, 1) := by decide +kernel
theorem dX4_apart_0 : decode cX4_apart 0 = .ok (.aload_n 0, 1) := by decide +kernel
theorem dX4_apart_1 : decode cX4_apart 1 = .ok (.getfield 21, 3) := by decide +kernel
theorem dX4_apart_4 : decode cX4_apart 4 = .ok (.iconst 0, 1) := by decide +kernel
theorem dX4_apart_5 : decode cX4_apart 5 = .ok (.iaload, 1) := by decide +kernel
theorem dX4_apart_6 : decode cX4_apart 6 = .ok (.ireturn, 1) := by decide +kernel
theorem dX4_ways_0 : decode cX4_ways 0 = .ok (.aload_n 0, 1) := by decide +kernel
theorem dX4_ways_1 : decode cX4_ways 1 = .ok (.getfield 33, 3) := by decide +kernel
theorem dX4_ways_4 : decode cX4_ways 4 = .ok (.istore_n 1, 1) := by decide +kernel
theorem dX4_ways_5 : decode cX4_ways 5 = .ok (.iload_n 1, 1) := by decide +kernel
theorem dX4_ways_6 : decode cX4_ways 6 = .ok (.ifCond .lt 41, 3) := by decide +kernel
theorem dX4_ways_9 : decode cX4_ways 9 = .ok (.aload_n 0, 1) := by decide +kernel
theorem dX4_ways_10 : decode cX4_ways 10 = .ok (.getfield 37, 3) := by decide +kernel
theorem dX4_ways_13 : decode cX4_ways 13 = .ok (.istore_n 2, 1) := by decide +kernel
theorem dX4_ways_14 : decode cX4_ways 14 = .ok (.iload_n 2, 1) := by decide +kernel
theorem dX4_ways_15 : decode cX4_ways 15 = .ok (.ifCond .lt 26, 3) := by decide +kernel
theorem dX4_ways_18 : decode cX4_ways 18 = .ok (.aload_n 0, 1) := by decide +kernel
theorem dX4_ways_19 : decode cX4_ways 19 = .ok (.getfield 24, 3) := by decide +kernel
theorem dX4_ways_22 : decode cX4_ways 22 = .ok (.iload_n 1, 1) := by decide +kernel
theorem dX4_ways_23 : decode cX4_ways 23 = .ok (.bipush 11, 2) := by decide +kernel
theorem dX4_ways_25 : decode cX4_ways 25 = .ok (.imul, 1) := by decide +kernel
theorem dX4_ways_26 : decode cX4_ways 26 = .ok (.iload_n 2, 1) := by decide +kernel
theorem dX4_ways_27 : decode cX4_ways 27 = .ok (.iadd, 1) := by decide +kernel
theorem dX4_ways_28 : decode cX4_ways 28 = .ok (.aload_n 0, 1) := by decide +kernel
theorem dX4_ways_29 : decode cX4_ways 29 = .ok (.iload_n 1, 1) := by decide +kernel
theorem dX4_ways_30 : decode cX4_ways 30 = .ok (.iload_n 2, 1) := by decide +kernel
theorem dX4_ways_31 : decode cX4_ways 31 = .ok (.invokevirtual 54, 3) := by decide +kernel
theorem dX4_ways_34 : decode cX4_ways 34 = .ok (.iastore, 1) := by decide +kernel
theorem dX4_ways_35 : decode cX4_ways 35 = .ok (.iinc 2 (-1), 3) := by decide +kernel
theorem dX4_ways_38 : decode cX4_ways 38 = .ok (.goto (-24), 3) := by decide +kernel
theorem dX4_ways_41 : decode cX4_ways 41 = .ok (.iinc 1 (-1), 3) := by decide +kernel
theorem dX4_ways_44 : decode cX4_ways 44 = .ok (.goto (-39), 3) := by decide +kernel
theorem dX4_ways_47 : decode cX4_ways 47 = .ok (.aload_n 0, 1) := by decide +kernel
theorem dX4_ways_48 : decode cX4_ways 48 = .ok (.getfield 24, 3) := by decide +kernel
theorem dX4_ways_51 : decode cX4_ways 51 = .ok (.iconst 0, 1) := by decide +kernel
theorem dX4_ways_52 : decode cX4_ways 52 = .ok (.iaload, 1) := by decide +kernel
theorem dX4_ways_53 : decode cX4_ways 53 = .ok (.ireturn, 1) := by decide +kernel
theorem dX4_wayLength_0 : decode cX4_wayLength 0 = .ok (.iconst 0, 1) := by decide +kernel
theorem dX4_wayLength_1 : decode cX4_wayLength 1 = .ok (.istore_n 1, 1) := by decide +kernel
theorem dX4_wayLength_2 : decode cX4_wayLength 2 = .ok (.iconst 0, 1) := by decide +kernel
theorem dX4_wayLength_3 : decode cX4_wayLength 3 = .ok (.istore_n 2, 1) := by decide +kernel
theorem dX4_wayLength_4 : decode cX4_wayLength 4 = .ok (.iconst 0, 1) := by decide +kernel
theorem dX4_wayLength_5 : decode cX4_wayLength 5 = .ok (.istore_n 3, 1) := by decide +kernel
theorem dX4_wayLength_6 : decode cX4_wayLength 6 = .ok (.iload_n 3, 1) := by decide +kernel
theorem dX4_wayLength_7 : decode cX4_wayLength 7 = .ok (.bipush 20, 2) := by decide +kernel
theorem dX4_wayLength_9 : decode cX4_wayLength 9 = .ok (.if_icmp .ge 51, 3) := by decide +kernel
theorem dX4_wayLength_12 : decode cX4_wayLength 12 = .ok (.aload_n 0, 1) := by decide +kernel
theorem dX4_wayLength_13 : decode cX4_wayLength 13 = .ok (.iload_n 1, 1) := by decide +kernel
theorem dX4_wayLength_14 : decode cX4_wayLength 14 = .ok (.iload_n 2, 1) := by decide +kernel
theorem dX4_wayLength_15 : decode cX4_wayLength 15 = .ok (.invokevirtual 57, 3) := by decide +kernel
theorem dX4_wayLength_18 : decode cX4_wayLength 18 = .ok (.istore 4, 2) := by decide +kernel
theorem dX4_wayLength_20 : decode cX4_wayLength 20 = .ok (.iload 4, 2) := by decide +kernel
theorem dX4_wayLength_22 : decode cX4_wayLength 22 = .ok (.iconst (-1), 1) := by decide +kernel
theorem dX4_wayLength_23 : decode cX4_wayLength 23 = .ok (.if_icmp .ne 5, 3) := by decide +kernel
theorem dX4_wayLength_26 : decode cX4_wayLength 26 = .ok (.iload_n 3, 1) := by decide +kernel
theorem dX4_wayLength_27 : decode cX4_wayLength 27 = .ok (.ireturn, 1) := by decide +kernel
theorem dX4_wayLength_28 : decode cX4_wayLength 28 = .ok (.aload_n 0, 1) := by decide +kernel
theorem dX4_wayLength_29 : decode cX4_wayLength 29 = .ok (.getfield 30, 3) := by decide +kernel
theorem dX4_wayLength_32 : decode cX4_wayLength 32 = .ok (.iload_n 3, 1) := by decide +kernel
theorem dX4_wayLength_33 : decode cX4_wayLength 33 = .ok (.iload 4, 2) := by decide +kernel
theorem dX4_wayLength_35 : decode cX4_wayLength 35 = .ok (.iastore, 1) := by decide +kernel
theorem dX4_wayLength_36 : decode cX4_wayLength 36 = .ok (.iload_n 1, 1) := by decide +kernel
theorem dX4_wayLength_37 : decode cX4_wayLength 37 = .ok (.getstatic 60, 3) := by decide +kernel
theorem dX4_wayLength_40 : decode cX4_wayLength 40 = .ok (.iload 4, 2) := by decide +kernel
theorem dX4_wayLength_42 : decode cX4_wayLength 42 = .ok (.iaload, 1) := by decide +kernel
theorem dX4_wayLength_43 : decode cX4_wayLength 43 = .ok (.iadd, 1) := by decide +kernel
theorem dX4_wayLength_44 : decode cX4_wayLength 44 = .ok (.istore_n 1, 1) := by decide +kernel
theorem dX4_wayLength_45 : decode cX4_wayLength 45 = .ok (.iload_n 2, 1) := by decide +kernel
theorem dX4_wayLength_46 : decode cX4_wayLength 46 = .ok (.getstatic 63, 3) := by decide +kernel
theorem dX4_wayLength_49 : decode cX4_wayLength 49 = .ok (.iload 4, 2) := by decide +kernel
theorem dX4_wayLength_51 : decode cX4_wayLength 51 = .ok (.iaload, 1) := by decide +kernel
theorem dX4_wayLength_52 : decode cX4_wayLength 52 = .ok (.iadd, 1) := by decide +kernel
theorem dX4_wayLength_53 : decode cX4_wayLength 53 = .ok (.istore_n 2, 1) := by decide +kernel
theorem dX4_wayLength_54 : decode cX4_wayLength 54 = .ok (.iinc 3 1, 3) := by decide +kernel
theorem dX4_wayLength_57 : decode cX4_wayLength 57 = .ok (.goto (-51), 3) := by decide +kernel
theorem dX4_wayLength_60 : decode cX4_wayLength 60 = .ok (.bipush 20, 2) := by decide +kernel
theorem dX4_wayLength_62 : decode cX4_wayLength 62 = .ok (.ireturn, 1) := by decide +kernel
theorem dX4_stepOfWay_0 : decode cX4_stepOfWay 0 = .ok (.aload_n 0, 1) := by decide +kernel
theorem dX4_stepOfWay_1 : decode cX4_stepOfWay 1 = .ok (.invokevirtual 66, 3) := by decide +kernel
theorem dX4_stepOfWay_4 : decode cX4_stepOfWay 4 = .ok (.istore_n 2, 1) := by decide +kernel
theorem dX4_stepOfWay_5 : decode cX4_stepOfWay 5 = .ok (.iload_n 1, 1) := by decide +kernel
theorem dX4_stepOfWay_6 : decode cX4_stepOfWay 6 = .ok (.ifCond .lt 17, 3) := by decide +kernel
theorem dX4_stepOfWay_9 : decode cX4_stepOfWay 9 = .ok (.iload_n 1, 1) := by decide +kernel
theorem dX4_stepOfWay_10 : decode cX4_stepOfWay 10 = .ok (.iload_n 2, 1) := by decide +kernel
theorem dX4_stepOfWay_11 : decode cX4_stepOfWay 11 = .ok (.if_icmp .ge 12, 3) := by decide +kernel
theorem dX4_stepOfWay_14 : decode cX4_stepOfWay 14 = .ok (.aload_n 0, 1) := by decide +kernel
theorem dX4_stepOfWay_15 : decode cX4_stepOfWay 15 = .ok (.getfield 30, 3) := by decide +kernel
theorem dX4_stepOfWay_18 : decode cX4_stepOfWay 18 = .ok (.iload_n 1, 1) := by decide +kernel
theorem dX4_stepOfWay_19 : decode cX4_stepOfWay 19 = .ok (.iaload, 1) := by decide +kernel
theorem dX4_stepOfWay_20 : decode cX4_stepOfWay 20 = .ok (.goto 4, 3) := by decide +kernel
theorem dX4_stepOfWay_23 : decode cX4_stepOfWay 23 = .ok (.iconst (-1), 1) := by decide +kernel
theorem dX4_stepOfWay_24 : decode cX4_stepOfWay 24 = .ok (.ireturn, 1) := by decide +kernel
theorem dX4_commonLength_0 : decode cX4_commonLength 0 = .ok (.aload_n 0, 1) := by decide +kernel
theorem dX4_commonLength_1 : decode cX4_commonLength 1 = .ok (.getfield 33, 3) := by decide +kernel
theorem dX4_commonLength_4 : decode cX4_commonLength 4 = .ok (.istore_n 1, 1) := by decide +kernel
theorem dX4_commonLength_5 : decode cX4_commonLength 5 = .ok (.iload_n 1, 1) := by decide +kernel
theorem dX4_commonLength_6 : decode cX4_commonLength 6 = .ok (.ifCond .lt 41, 3) := by decide +kernel
theorem dX4_commonLength_9 : decode cX4_commonLength 9 = .ok (.aload_n 0, 1) := by decide +kernel
theorem dX4_commonLength_10 : decode cX4_commonLength 10 = .ok (.getfield 37, 3) := by decide +kernel
theorem dX4_commonLength_13 : decode cX4_commonLength 13 = .ok (.istore_n 2, 1) := by decide +kernel
theorem dX4_commonLength_14 : decode cX4_commonLength 14 = .ok (.iload_n 2, 1) := by decide +kernel
theorem dX4_commonLength_15 : decode cX4_commonLength 15 = .ok (.ifCond .lt 26, 3) := by decide +kernel
theorem dX4_commonLength_18 : decode cX4_commonLength 18 = .ok (.aload_n 0, 1) := by decide +kernel
theorem dX4_commonLength_19 : decode cX4_commonLength 19 = .ok (.getfield 27, 3) := by decide +kernel
theorem dX4_commonLength_22 : decode cX4_commonLength 22 = .ok (.iload_n 1, 1) := by decide +kernel
theorem dX4_commonLength_23 : decode cX4_commonLength 23 = .ok (.bipush 11, 2) := by decide +kernel
theorem dX4_commonLength_25 : decode cX4_commonLength 25 = .ok (.imul, 1) := by decide +kernel
theorem dX4_commonLength_26 : decode cX4_commonLength 26 = .ok (.iload_n 2, 1) := by decide +kernel
theorem dX4_commonLength_27 : decode cX4_commonLength 27 = .ok (.iadd, 1) := by decide +kernel
theorem dX4_commonLength_28 : decode cX4_commonLength 28 = .ok (.aload_n 0, 1) := by decide +kernel
theorem dX4_commonLength_29 : decode cX4_commonLength 29 = .ok (.iload_n 1, 1) := by decide +kernel
theorem dX4_commonLength_30 : decode cX4_commonLength 30 = .ok (.iload_n 2, 1) := by decide +kernel
theorem dX4_commonLength_31 : decode cX4_commonLength 31 = .ok (.invokevirtual 70, 3) := by decide +kernel
theorem dX4_commonLength_34 : decode cX4_commonLength 34 = .ok (.iastore, 1) := by decide +kernel
theorem dX4_commonLength_35 : decode cX4_commonLength 35 = .ok (.iinc 2 (-1), 3) := by decide +kernel
theorem dX4_commonLength_38 : decode cX4_commonLength 38 = .ok (.goto (-24), 3) := by decide +kernel
theorem dX4_commonLength_41 : decode cX4_commonLength 41 = .ok (.iinc 1 (-1), 3) := by decide +kernel
theorem dX4_commonLength_44 : decode cX4_commonLength 44 = .ok (.goto (-39), 3) := by decide +kernel
theorem dX4_commonLength_47 : decode cX4_commonLength 47 = .ok (.aload_n 0, 1) := by decide +kernel
theorem dX4_commonLength_48 : decode cX4_commonLength 48 = .ok (.getfield 27, 3) := by decide +kernel
theorem dX4_commonLength_51 : decode cX4_commonLength 51 = .ok (.iconst 0, 1) := by decide +kernel
theorem dX4_commonLength_52 : decode cX4_commonLength 52 = .ok (.iaload, 1) := by decide +kernel
theorem dX4_commonLength_53 : decode cX4_commonLength 53 = .ok (.ireturn, 1) := by decide +kernel
theorem dX4_spell_0 : decode cX4_spell 0 = .ok (.lload_n 0, 1) := by decide +kernel
theorem dX4_spell_1 : decode cX4_spell 1 = .ok (.invokestatic 73, 3) := by decide +kernel
theorem dX4_spell_4 : decode cX4_spell 4 = .ok (.bipush 10, 2) := by decide +kernel
theorem dX4_spell_6 : decode cX4_spell 6 = .ok (.invokestatic 77, 3) := by decide +kernel
theorem dX4_spell_9 : decode cX4_spell 9 = .ok (.istore_n 3, 1) := by decide +kernel
theorem dX4_spell_10 : decode cX4_spell 10 = .ok (.iconst 0, 1) := by decide +kernel
theorem dX4_spell_11 : decode cX4_spell 11 = .ok (.istore 4, 2) := by decide +kernel
theorem dX4_spell_13 : decode cX4_spell 13 = .ok (.iload 4, 2) := by decide +kernel
theorem dX4_spell_15 : decode cX4_spell 15 = .ok (.iload_n 3, 1) := by decide +kernel
theorem dX4_spell_16 : decode cX4_spell 16 = .ok (.if_icmp .ge 19, 3) := by decide +kernel
theorem dX4_spell_19 : decode cX4_spell 19 = .ok (.aload_n 2, 1) := by decide +kernel
theorem dX4_spell_20 : decode cX4_spell 20 = .ok (.iload 4, 2) := by decide +kernel
theorem dX4_spell_22 : decode cX4_spell 22 = .ok (.lload_n 0, 1) := by decide +kernel
theorem dX4_spell_23 : decode cX4_spell 23 = .ok (.iload 4, 2) := by decide +kernel
theorem dX4_spell_25 : decode cX4_spell 25 = .ok (.invokestatic 82, 3) := by decide +kernel
theorem dX4_spell_28 : decode cX4_spell 28 = .ok (.iastore, 1) := by decide +kernel
theorem dX4_spell_29 : decode cX4_spell 29 = .ok (.iinc 4 1, 3) := by decide +kernel
theorem dX4_spell_32 : decode cX4_spell 32 = .ok (.goto (-19), 3) := by decide +kernel
theorem dX4_spell_35 : decode cX4_spell 35 = .ok (.iload_n 3, 1) := by decide +kernel
theorem dX4_spell_36 : decode cX4_spell 36 = .ok (.ireturn, 1) := by decide +kernel
theorem dX4_leastFrom_0 : decode cX4_leastFrom 0 = .ok (.iload_n 1, 1) := by decide +kernel
theorem dX4_leastFrom_1 : decode cX4_leastFrom 1 = .ok (.aload_n 0, 1) := by decide +kernel
theorem dX4_leastFrom_2 : decode cX4_leastFrom 2 = .ok (.getfield 33, 3) := by decide +kernel
theorem dX4_leastFrom_5 : decode cX4_leastFrom 5 = .ok (.if_icmp .ne 13, 3) := by decide +kernel
theorem dX4_leastFrom_8 : decode cX4_leastFrom 8 = .ok (.iload_n 2, 1) := by decide +kernel
theorem dX4_leastFrom_9 : decode cX4_leastFrom 9 = .ok (.aload_n 0, 1) := by decide +kernel
theorem dX4_leastFrom_10 : decode cX4_leastFrom 10 = .ok (.getfield 37, 3) := by decide +kernel
theorem dX4_leastFrom_13 : decode cX4_leastFrom 13 = .ok (.if_icmp .ne 5, 3) := by decide +kernel
theorem dX4_leastFrom_16 : decode cX4_leastFrom 16 = .ok (.iconst 0, 1) := by decide +kernel
theorem dX4_leastFrom_17 : decode cX4_leastFrom 17 = .ok (.ireturn, 1) := by decide +kernel
theorem dX4_leastFrom_18 : decode cX4_leastFrom 18 = .ok (.ldc 86, 2) := by decide +kernel
theorem dX4_leastFrom_20 : decode cX4_leastFrom 20 = .ok (.istore_n 3, 1) := by decide +kernel
theorem dX4_leastFrom_21 : decode cX4_leastFrom 21 = .ok (.iconst 0, 1) := by decide +kernel
theorem dX4_leastFrom_22 : decode cX4_leastFrom 22 = .ok (.istore 4, 2) := by decide +kernel
theorem dX4_leastFrom_24 : decode cX4_leastFrom 24 = .ok (.iload 4, 2) := by decide +kernel
theorem dX4_leastFrom_26 : decode cX4_leastFrom 26 = .ok (.iconst 4, 1) := by decide +kernel
theorem dX4_leastFrom_27 : decode cX4_leastFrom 27 = .ok (.if_icmp .ge 22, 3) := by decide +kernel
theorem dX4_leastFrom_30 : decode cX4_leastFrom 30 = .ok (.iload_n 3, 1) := by decide +kernel
theorem dX4_leastFrom_31 : decode cX4_leastFrom 31 = .ok (.aload_n 0, 1) := by decide +kernel
theorem dX4_leastFrom_32 : decode cX4_leastFrom 32 = .ok (.iload_n 1, 1) := by decide +kernel
theorem dX4_leastFrom_33 : decode cX4_leastFrom 33 = .ok (.iload_n 2, 1) := by decide +kernel
theorem dX4_leastFrom_34 : decode cX4_leastFrom 34 = .ok (.iload 4, 2) := by decide +kernel
theorem dX4_leastFrom_36 : decode cX4_leastFrom 36 = .ok (.invokevirtual 87, 3) := by decide +kernel
theorem dX4_leastFrom_39 : decode cX4_leastFrom 39 = .ok (.invokestatic 77, 3) := by decide +kernel
theorem dX4_leastFrom_42 : decode cX4_leastFrom 42 = .ok (.istore_n 3, 1) := by decide +kernel
theorem dX4_leastFrom_43 : decode cX4_leastFrom 43 = .ok (.iinc 4 1, 3) := by decide +kernel
theorem dX4_leastFrom_46 : decode cX4_leastFrom 46 = .ok (.goto (-22), 3) := by decide +kernel
theorem dX4_leastFrom_49 : decode cX4_leastFrom 49 = .ok (.iload_n 3, 1) := by decide +kernel
theorem dX4_leastFrom_50 : decode cX4_leastFrom 50 = .ok (.ireturn, 1) := by decide +kernel
theorem dX4_rowsFrom_0 : decode cX4_rowsFrom 0 = .ok (.iload_n 1, 1) := by decide +kernel
theorem dX4_rowsFrom_1 : decode cX4_rowsFrom 1 = .ok (.aload_n 0, 1) := by decide +kernel
theorem dX4_rowsFrom_2 : decode cX4_rowsFrom 2 = .ok (.getfield 33, 3) := by decide +kernel
theorem dX4_rowsFrom_5 : decode cX4_rowsFrom 5 = .ok (.if_icmp .ne 13, 3) := by decide +kernel
theorem dX4_rowsFrom_8 : decode cX4_rowsFrom 8 = .ok (.iload_n 2, 1) := by decide +kernel
theorem dX4_rowsFrom_9 : decode cX4_rowsFrom 9 = .ok (.aload_n 0, 1) := by decide +kernel
theorem dX4_rowsFrom_10 : decode cX4_rowsFrom 10 = .ok (.getfield 37, 3) := by decide +kernel
theorem dX4_rowsFrom_13 : decode cX4_rowsFrom 13 = .ok (.if_icmp .ne 5, 3) := by decide +kernel
theorem dX4_rowsFrom_16 : decode cX4_rowsFrom 16 = .ok (.iconst 1, 1) := by decide +kernel
theorem dX4_rowsFrom_17 : decode cX4_rowsFrom 17 = .ok (.ireturn, 1) := by decide +kernel
theorem dX4_rowsFrom_18 : decode cX4_rowsFrom 18 = .ok (.iconst 0, 1) := by decide +kernel
theorem dX4_rowsFrom_19 : decode cX4_rowsFrom 19 = .ok (.istore_n 3, 1) := by decide +kernel
theorem dX4_rowsFrom_20 : decode cX4_rowsFrom 20 = .ok (.iconst 0, 1) := by decide +kernel
theorem dX4_rowsFrom_21 : decode cX4_rowsFrom 21 = .ok (.istore 4, 2) := by decide +kernel
theorem dX4_rowsFrom_23 : decode cX4_rowsFrom 23 = .ok (.iload 4, 2) := by decide +kernel
theorem dX4_rowsFrom_25 : decode cX4_rowsFrom 25 = .ok (.iconst 4, 1) := by decide +kernel
theorem dX4_rowsFrom_26 : decode cX4_rowsFrom 26 = .ok (.if_icmp .ge 59, 3) := by decide +kernel
theorem dX4_rowsFrom_29 : decode cX4_rowsFrom 29 = .ok (.aload_n 0, 1) := by decide +kernel
theorem dX4_rowsFrom_30 : decode cX4_rowsFrom 30 = .ok (.iload_n 1, 1) := by decide +kernel
theorem dX4_rowsFrom_31 : decode cX4_rowsFrom 31 = .ok (.iload_n 2, 1) := by decide +kernel
theorem dX4_rowsFrom_32 : decode cX4_rowsFrom 32 = .ok (.iload 4, 2) := by decide +kernel
theorem dX4_rowsFrom_34 : decode cX4_rowsFrom 34 = .ok (.invokevirtual 87, 3) := by decide +kernel
theorem dX4_rowsFrom_37 : decode cX4_rowsFrom 37 = .ok (.aload_n 0, 1) := by decide +kernel
theorem dX4_rowsFrom_38 : decode cX4_rowsFrom 38 = .ok (.getfield 21, 3) := by decide +kernel
theorem dX4_rowsFrom_41 : decode cX4_rowsFrom 41 = .ok (.iload_n 1, 1) := by decide +kernel
theorem dX4_rowsFrom_42 : decode cX4_rowsFrom 42 = .ok (.bipush 11, 2) := by decide +kernel
theorem dX4_rowsFrom_44 : decode cX4_rowsFrom 44 = .ok (.imul, 1) := by decide +kernel
theorem dX4_rowsFrom_45 : decode cX4_rowsFrom 45 = .ok (.iload_n 2, 1) := by decide +kernel
theorem dX4_rowsFrom_46 : decode cX4_rowsFrom 46 = .ok (.iadd, 1) := by decide +kernel
theorem dX4_rowsFrom_47 : decode cX4_rowsFrom 47 = .ok (.iaload, 1) := by decide +kernel
theorem dX4_rowsFrom_48 : decode cX4_rowsFrom 48 = .ok (.if_icmp .ne 31, 3) := by decide +kernel
theorem dX4_rowsFrom_51 : decode cX4_rowsFrom 51 = .ok (.iload_n 3, 1) := by decide +kernel
theorem dX4_rowsFrom_52 : decode cX4_rowsFrom 52 = .ok (.aload_n 0, 1) := by decide +kernel
theorem dX4_rowsFrom_53 : decode cX4_rowsFrom 53 = .ok (.getfield 24, 3) := by decide +kernel
theorem dX4_rowsFrom_56 : decode cX4_rowsFrom 56 = .ok (.iload_n 1, 1) := by decide +kernel
theorem dX4_rowsFrom_57 : decode cX4_rowsFrom 57 = .ok (.getstatic 60, 3) := by decide +kernel
theorem dX4_rowsFrom_60 : decode cX4_rowsFrom 60 = .ok (.iload 4, 2) := by decide +kernel
theorem dX4_rowsFrom_62 : decode cX4_rowsFrom 62 = .ok (.iaload, 1) := by decide +kernel
theorem dX4_rowsFrom_63 : decode cX4_rowsFrom 63 = .ok (.iadd, 1) := by decide +kernel
theorem dX4_rowsFrom_64 : decode cX4_rowsFrom 64 = .ok (.bipush 11, 2) := by decide +kernel
theorem dX4_rowsFrom_66 : decode cX4_rowsFrom 66 = .ok (.imul, 1) := by decide +kernel
theorem dX4_rowsFrom_67 : decode cX4_rowsFrom 67 = .ok (.iload_n 2, 1) := by decide +kernel
theorem dX4_rowsFrom_68 : decode cX4_rowsFrom 68 = .ok (.iadd, 1) := by decide +kernel
theorem dX4_rowsFrom_69 : decode cX4_rowsFrom 69 = .ok (.getstatic 63, 3) := by decide +kernel
theorem dX4_rowsFrom_72 : decode cX4_rowsFrom 72 = .ok (.iload 4, 2) := by decide +kernel
theorem dX4_rowsFrom_74 : decode cX4_rowsFrom 74 = .ok (.iaload, 1) := by decide +kernel
theorem dX4_rowsFrom_75 : decode cX4_rowsFrom 75 = .ok (.iadd, 1) := by decide +kernel
theorem dX4_rowsFrom_76 : decode cX4_rowsFrom 76 = .ok (.iaload, 1) := by decide +kernel
theorem dX4_rowsFrom_77 : decode cX4_rowsFrom 77 = .ok (.iadd, 1) := by decide +kernel
theorem dX4_rowsFrom_78 : decode cX4_rowsFrom 78 = .ok (.istore_n 3, 1) := by decide +kernel
theorem dX4_rowsFrom_79 : decode cX4_rowsFrom 79 = .ok (.iinc 4 1, 3) := by decide +kernel
theorem dX4_rowsFrom_82 : decode cX4_rowsFrom 82 = .ok (.goto (-59), 3) := by decide +kernel
theorem dX4_rowsFrom_85 : decode cX4_rowsFrom 85 = .ok (.iload_n 3, 1) := by decide +kernel
theorem dX4_rowsFrom_86 : decode cX4_rowsFrom 86 = .ok (.ireturn, 1) := by decide +kernel
theorem dX4_sumThrough_0 : decode cX4_sumThrough 0 = .ok (.iload_n 1, 1) := by decide +kernel
theorem dX4_sumThrough_1 : decode cX4_sumThrough 1 = .ok (.getstatic 60, 3) := by decide +kernel
theorem dX4_sumThrough_4 : decode cX4_sumThrough 4 = .ok (.iload_n 3, 1) := by decide +kernel
theorem dX4_sumThrough_5 : decode cX4_sumThrough 5 = .ok (.iaload, 1) := by decide +kernel
theorem dX4_sumThrough_6 : decode cX4_sumThrough 6 = .ok (.iadd, 1) := by decide +kernel
theorem dX4_sumThrough_7 : decode cX4_sumThrough 7 = .ok (.istore 4, 2) := by decide +kernel
theorem dX4_sumThrough_9 : decode cX4_sumThrough 9 = .ok (.iload_n 2, 1) := by decide +kernel
theorem dX4_sumThrough_10 : decode cX4_sumThrough 10 = .ok (.getstatic 63, 3) := by decide +kernel
theorem dX4_sumThrough_13 : decode cX4_sumThrough 13 = .ok (.iload_n 3, 1) := by decide +kernel
theorem dX4_sumThrough_14 : decode cX4_sumThrough 14 = .ok (.iaload, 1) := by decide +kernel
theorem dX4_sumThrough_15 : decode cX4_sumThrough 15 = .ok (.iadd, 1) := by decide +kernel
theorem dX4_sumThrough_16 : decode cX4_sumThrough 16 = .ok (.istore 5, 2) := by decide +kernel
theorem dX4_sumThrough_18 : decode cX4_sumThrough 18 = .ok (.iload 4, 2) := by decide +kernel
theorem dX4_sumThrough_20 : decode cX4_sumThrough 20 = .ok (.aload_n 0, 1) := by decide +kernel
theorem dX4_sumThrough_21 : decode cX4_sumThrough 21 = .ok (.getfield 33, 3) := by decide +kernel
theorem dX4_sumThrough_24 : decode cX4_sumThrough 24 = .ok (.if_icmp .gt 12, 3) := by decide +kernel
theorem dX4_sumThrough_27 : decode cX4_sumThrough 27 = .ok (.iload 5, 2) := by decide +kernel
theorem dX4_sumThrough_29 : decode cX4_sumThrough 29 = .ok (.aload_n 0, 1) := by decide +kernel
theorem dX4_sumThrough_30 : decode cX4_sumThrough 30 = .ok (.getfield 37, 3) := by decide +kernel
theorem dX4_sumThrough_33 : decode cX4_sumThrough 33 = .ok (.if_icmp .le 6, 3) := by decide +kernel
theorem dX4_sumThrough_36 : decode cX4_sumThrough 36 = .ok (.ldc 86, 2) := by decide +kernel
theorem dX4_sumThrough_38 : decode cX4_sumThrough 38 = .ok (.ireturn, 1) := by decide +kernel
theorem dX4_sumThrough_39 : decode cX4_sumThrough 39 = .ok (.aload_n 0, 1) := by decide +kernel
theorem dX4_sumThrough_40 : decode cX4_sumThrough 40 = .ok (.getfield 21, 3) := by decide +kernel
theorem dX4_sumThrough_43 : decode cX4_sumThrough 43 = .ok (.iload 4, 2) := by decide +kernel
theorem dX4_sumThrough_45 : decode cX4_sumThrough 45 = .ok (.bipush 11, 2) := by decide +kernel
theorem dX4_sumThrough_47 : decode cX4_sumThrough 47 = .ok (.imul, 1) := by decide +kernel
theorem dX4_sumThrough_48 : decode cX4_sumThrough 48 = .ok (.iload 5, 2) := by decide +kernel
theorem dX4_sumThrough_50 : decode cX4_sumThrough 50 = .ok (.iadd, 1) := by decide +kernel
theorem dX4_sumThrough_51 : decode cX4_sumThrough 51 = .ok (.iaload, 1) := by decide +kernel
theorem dX4_sumThrough_52 : decode cX4_sumThrough 52 = .ok (.istore 6, 2) := by decide +kernel
theorem dX4_sumThrough_54 : decode cX4_sumThrough 54 = .ok (.iload_n 3, 1) := by decide +kernel
theorem dX4_sumThrough_55 : decode cX4_sumThrough 55 = .ok (.ifCond .ne 43, 3) := by decide +kernel
theorem dX4_sumThrough_58 : decode cX4_sumThrough 58 = .ok (.aload_n 0, 1) := by decide +kernel
theorem dX4_sumThrough_59 : decode cX4_sumThrough 59 = .ok (.getfield 9, 3) := by decide +kernel
theorem dX4_sumThrough_62 : decode cX4_sumThrough 62 = .ok (.iload_n 1, 1) := by decide +kernel
theorem dX4_sumThrough_63 : decode cX4_sumThrough 63 = .ok (.iaload, 1) := by decide +kernel
theorem dX4_sumThrough_64 : decode cX4_sumThrough 64 = .ok (.aload_n 0, 1) := by decide +kernel
theorem dX4_sumThrough_65 : decode cX4_sumThrough 65 = .ok (.getfield 15, 3) := by decide +kernel
theorem dX4_sumThrough_68 : decode cX4_sumThrough 68 = .ok (.iload_n 2, 1) := by decide +kernel
theorem dX4_sumThrough_69 : decode cX4_sumThrough 69 = .ok (.iaload, 1) := by decide +kernel
theorem dX4_sumThrough_70 : decode cX4_sumThrough 70 = .ok (.isub, 1) := by decide +kernel
theorem dX4_sumThrough_71 : decode cX4_sumThrough 71 = .ok (.invokestatic 91, 3) := by decide +kernel
theorem dX4_sumThrough_74 : decode cX4_sumThrough 74 = .ok (.aload_n 0, 1) := by decide +kernel
theorem dX4_sumThrough_75 : decode cX4_sumThrough 75 = .ok (.getfield 18, 3) := by decide +kernel
theorem dX4_sumThrough_78 : decode cX4_sumThrough 78 = .ok (.iconst 2, 1) := by decide +kernel
theorem dX4_sumThrough_79 : decode cX4_sumThrough 79 = .ok (.iaload, 1) := by decide +kernel
theorem dX4_sumThrough_80 : decode cX4_sumThrough 80 = .ok (.imul, 1) := by decide +kernel
theorem dX4_sumThrough_81 : decode cX4_sumThrough 81 = .ok (.istore 7, 2) := by decide +kernel
theorem dX4_sumThrough_83 : decode cX4_sumThrough 83 = .ok (.iload 6, 2) := by decide +kernel
theorem dX4_sumThrough_85 : decode cX4_sumThrough 85 = .ok (.iload 7, 2) := by decide +kernel
theorem dX4_sumThrough_87 : decode cX4_sumThrough 87 = .ok (.aload_n 0, 1) := by decide +kernel
theorem dX4_sumThrough_88 : decode cX4_sumThrough 88 = .ok (.getfield 18, 3) := by decide +kernel
theorem dX4_sumThrough_91 : decode cX4_sumThrough 91 = .ok (.iconst 3, 1) := by decide +kernel
theorem dX4_sumThrough_92 : decode cX4_sumThrough 92 = .ok (.iaload, 1) := by decide +kernel
theorem dX4_sumThrough_93 : decode cX4_sumThrough 93 = .ok (.invokestatic 77, 3) := by decide +kernel
theorem dX4_sumThrough_96 : decode cX4_sumThrough 96 = .ok (.iadd, 1) := by decide +kernel
theorem dX4_sumThrough_97 : decode cX4_sumThrough 97 = .ok (.ireturn, 1) := by decide +kernel
theorem dX4_sumThrough_98 : decode cX4_sumThrough 98 = .ok (.iload_n 3, 1) := by decide +kernel
theorem dX4_sumThrough_99 : decode cX4_sumThrough 99 = .ok (.iconst 3, 1) := by decide +kernel
theorem dX4_sumThrough_100 : decode cX4_sumThrough 100 = .ok (.if_icmp .ne 27, 3) := by decide +kernel
theorem dX4_sumThrough_103 : decode cX4_sumThrough 103 = .ok (.aload_n 0, 1) := by decide +kernel
theorem dX4_sumThrough_104 : decode cX4_sumThrough 104 = .ok (.iload_n 1, 1) := by decide +kernel
theorem dX4_sumThrough_105 : decode cX4_sumThrough 105 = .ok (.iload_n 2, 1) := by decide +kernel
theorem dX4_sumThrough_106 : decode cX4_sumThrough 106 = .ok (.invokevirtual 95, 3) := by decide +kernel
theorem dX4_sumThrough_109 : decode cX4_sumThrough 109 = .ok (.ifCond .eq 15, 3) := by decide +kernel
theorem dX4_sumThrough_112 : decode cX4_sumThrough 112 = .ok (.iload 6, 2) := by decide +kernel
theorem dX4_sumThrough_114 : decode cX4_sumThrough 114 = .ok (.aload_n 0, 1) := by decide +kernel
theorem dX4_sumThrough_115 : decode cX4_sumThrough 115 = .ok (.getfield 18, 3) := by decide +kernel
theorem dX4_sumThrough_118 : decode cX4_sumThrough 118 = .ok (.iconst 1, 1) := by decide +kernel
theorem dX4_sumThrough_119 : decode cX4_sumThrough 119 = .ok (.iaload, 1) := by decide +kernel
theorem dX4_sumThrough_120 : decode cX4_sumThrough 120 = .ok (.iadd, 1) := by decide +kernel
theorem dX4_sumThrough_121 : decode cX4_sumThrough 121 = .ok (.goto 5, 3) := by decide +kernel
theorem dX4_sumThrough_124 : decode cX4_sumThrough 124 = .ok (.ldc 86, 2) := by decide +kernel
theorem dX4_sumThrough_126 : decode cX4_sumThrough 126 = .ok (.ireturn, 1) := by decide +kernel
theorem dX4_sumThrough_127 : decode cX4_sumThrough 127 = .ok (.iload 6, 2) := by decide +kernel
theorem dX4_sumThrough_129 : decode cX4_sumThrough 129 = .ok (.aload_n 0, 1) := by decide +kernel
theorem dX4_sumThrough_130 : decode cX4_sumThrough 130 = .ok (.getfield 18, 3) := by decide +kernel
theorem dX4_sumThrough_133 : decode cX4_sumThrough 133 = .ok (.iconst 0, 1) := by decide +kernel
theorem dX4_sumThrough_134 : decode cX4_sumThrough 134 = .ok (.iaload, 1) := by decide +kernel
theorem dX4_sumThrough_135 : decode cX4_sumThrough 135 = .ok (.iadd, 1) := by decide +kernel
theorem dX4_sumThrough_136 : decode cX4_sumThrough 136 = .ok (.ireturn, 1) := by decide +kernel
theorem dX4_isTurned_0 : decode cX4_isTurned 0 = .ok (.aload_n 0, 1) := by decide +kernel
theorem dX4_isTurned_1 : decode cX4_isTurned 1 = .ok (.getfield 9, 3) := by decide +kernel
theorem dX4_isTurned_4 : decode cX4_isTurned 4 = .ok (.iload_n 1, 1) := by decide +kernel
theorem dX4_isTurned_5 : decode cX4_isTurned 5 = .ok (.iaload, 1) := by decide +kernel
theorem dX4_isTurned_6 : decode cX4_isTurned 6 = .ok (.aload_n 0, 1) := by decide +kernel
theorem dX4_isTurned_7 : decode cX4_isTurned 7 = .ok (.getfield 15, 3) := by decide +kernel
theorem dX4_isTurned_10 : decode cX4_isTurned 10 = .ok (.iload_n 2, 1) := by decide +kernel
theorem dX4_isTurned_11 : decode cX4_isTurned 11 = .ok (.iconst 1, 1) := by decide +kernel
theorem dX4_isTurned_12 : decode cX4_isTurned 12 = .ok (.iadd, 1) := by decide +kernel
theorem dX4_isTurned_13 : decode cX4_isTurned 13 = .ok (.iaload, 1) := by decide +kernel
theorem dX4_isTurned_14 : decode cX4_isTurned 14 = .ok (.if_icmp .ne 41, 3) := by decide +kernel
theorem dX4_isTurned_17 : decode cX4_isTurned 17 = .ok (.aload_n 0, 1) := by decide +kernel
theorem dX4_isTurned_18 : decode cX4_isTurned 18 = .ok (.getfield 9, 3) := by decide +kernel
theorem dX4_isTurned_21 : decode cX4_isTurned 21 = .ok (.iload_n 1, 1) := by decide +kernel
theorem dX4_isTurned_22 : decode cX4_isTurned 22 = .ok (.iconst 1, 1) := by decide +kernel
theorem dX4_isTurned_23 : decode cX4_isTurned 23 = .ok (.iadd, 1) := by decide +kernel
theorem dX4_isTurned_24 : decode cX4_isTurned 24 = .ok (.iaload, 1) := by decide +kernel
theorem dX4_isTurned_25 : decode cX4_isTurned 25 = .ok (.aload_n 0, 1) := by decide +kernel
theorem dX4_isTurned_26 : decode cX4_isTurned 26 = .ok (.getfield 15, 3) := by decide +kernel
theorem dX4_isTurned_29 : decode cX4_isTurned 29 = .ok (.iload_n 2, 1) := by decide +kernel
theorem dX4_isTurned_30 : decode cX4_isTurned 30 = .ok (.iaload, 1) := by decide +kernel
theorem dX4_isTurned_31 : decode cX4_isTurned 31 = .ok (.if_icmp .ne 24, 3) := by decide +kernel
theorem dX4_isTurned_34 : decode cX4_isTurned 34 = .ok (.aload_n 0, 1) := by decide +kernel
theorem dX4_isTurned_35 : decode cX4_isTurned 35 = .ok (.getfield 9, 3) := by decide +kernel
theorem dX4_isTurned_38 : decode cX4_isTurned 38 = .ok (.iload_n 1, 1) := by decide +kernel
theorem dX4_isTurned_39 : decode cX4_isTurned 39 = .ok (.iaload, 1) := by decide +kernel
theorem dX4_isTurned_40 : decode cX4_isTurned 40 = .ok (.aload_n 0, 1) := by decide +kernel
theorem dX4_isTurned_41 : decode cX4_isTurned 41 = .ok (.getfield 9, 3) := by decide +kernel
theorem dX4_isTurned_44 : decode cX4_isTurned 44 = .ok (.iload_n 1, 1) := by decide +kernel
theorem dX4_isTurned_45 : decode cX4_isTurned 45 = .ok (.iconst 1, 1) := by decide +kernel
theorem dX4_isTurned_46 : decode cX4_isTurned 46 = .ok (.iadd, 1) := by decide +kernel
theorem dX4_isTurned_47 : decode cX4_isTurned 47 = .ok (.iaload, 1) := by decide +kernel
theorem dX4_isTurned_48 : decode cX4_isTurned 48 = .ok (.if_icmp .eq 7, 3) := by decide +kernel
theorem dX4_isTurned_51 : decode cX4_isTurned 51 = .ok (.iconst 1, 1) := by decide +kernel
theorem dX4_isTurned_52 : decode cX4_isTurned 52 = .ok (.goto 4, 3) := by decide +kernel
theorem dX4_isTurned_55 : decode cX4_isTurned 55 = .ok (.iconst 0, 1) := by decide +kernel
theorem dX4_isTurned_56 : decode cX4_isTurned 56 = .ok (.ireturn, 1) := by decide +kernel
theorem dX4_leastStep_0 : decode cX4_leastStep 0 = .ok (.iload_n 1, 1) := by decide +kernel
theorem dX4_leastStep_1 : decode cX4_leastStep 1 = .ok (.aload_n 0, 1) := by decide +kernel
theorem dX4_leastStep_2 : decode cX4_leastStep 2 = .ok (.getfield 33, 3) := by decide +kernel
theorem dX4_leastStep_5 : decode cX4_leastStep 5 = .ok (.if_icmp .ne 13, 3) := by decide +kernel
theorem dX4_leastStep_8 : decode cX4_leastStep 8 = .ok (.iload_n 2, 1) := by decide +kernel
theorem dX4_leastStep_9 : decode cX4_leastStep 9 = .ok (.aload_n 0, 1) := by decide +kernel
theorem dX4_leastStep_10 : decode cX4_leastStep 10 = .ok (.getfield 37, 3) := by decide +kernel
theorem dX4_leastStep_13 : decode cX4_leastStep 13 = .ok (.if_icmp .ne 5, 3) := by decide +kernel
theorem dX4_leastStep_16 : decode cX4_leastStep 16 = .ok (.iconst (-1), 1) := by decide +kernel
theorem dX4_leastStep_17 : decode cX4_leastStep 17 = .ok (.ireturn, 1) := by decide +kernel
theorem dX4_leastStep_18 : decode cX4_leastStep 18 = .ok (.iconst 0, 1) := by decide +kernel
theorem dX4_leastStep_19 : decode cX4_leastStep 19 = .ok (.istore_n 3, 1) := by decide +kernel
theorem dX4_leastStep_20 : decode cX4_leastStep 20 = .ok (.iload_n 3, 1) := by decide +kernel
theorem dX4_leastStep_21 : decode cX4_leastStep 21 = .ok (.iconst 4, 1) := by decide +kernel
theorem dX4_leastStep_22 : decode cX4_leastStep 22 = .ok (.if_icmp .ge 32, 3) := by decide +kernel
theorem dX4_leastStep_25 : decode cX4_leastStep 25 = .ok (.aload_n 0, 1) := by decide +kernel
theorem dX4_leastStep_26 : decode cX4_leastStep 26 = .ok (.iload_n 1, 1) := by decide +kernel
theorem dX4_leastStep_27 : decode cX4_leastStep 27 = .ok (.iload_n 2, 1) := by decide +kernel
theorem dX4_leastStep_28 : decode cX4_leastStep 28 = .ok (.iload_n 3, 1) := by decide +kernel
theorem dX4_leastStep_29 : decode cX4_leastStep 29 = .ok (.invokevirtual 87, 3) := by decide +kernel
theorem dX4_leastStep_32 : decode cX4_leastStep 32 = .ok (.aload_n 0, 1) := by decide +kernel
theorem dX4_leastStep_33 : decode cX4_leastStep 33 = .ok (.getfield 21, 3) := by decide +kernel
theorem dX4_leastStep_36 : decode cX4_leastStep 36 = .ok (.iload_n 1, 1) := by decide +kernel
theorem dX4_leastStep_37 : decode cX4_leastStep 37 = .ok (.bipush 11, 2) := by decide +kernel
theorem dX4_leastStep_39 : decode cX4_leastStep 39 = .ok (.imul, 1) := by decide +kernel
theorem dX4_leastStep_40 : decode cX4_leastStep 40 = .ok (.iload_n 2, 1) := by decide +kernel
theorem dX4_leastStep_41 : decode cX4_leastStep 41 = .ok (.iadd, 1) := by decide +kernel
theorem dX4_leastStep_42 : decode cX4_leastStep 42 = .ok (.iaload, 1) := by decide +kernel
theorem dX4_leastStep_43 : decode cX4_leastStep 43 = .ok (.if_icmp .ne 5, 3) := by decide +kernel
theorem dX4_leastStep_46 : decode cX4_leastStep 46 = .ok (.iload_n 3, 1) := by decide +kernel
theorem dX4_leastStep_47 : decode cX4_leastStep 47 = .ok (.ireturn, 1) := by decide +kernel
theorem dX4_leastStep_48 : decode cX4_leastStep 48 = .ok (.iinc 3 1, 3) := by decide +kernel
theorem dX4_leastStep_51 : decode cX4_leastStep 51 = .ok (.goto (-31), 3) := by decide +kernel
theorem dX4_leastStep_54 : decode cX4_leastStep 54 = .ok (.iconst (-1), 1) := by decide +kernel
theorem dX4_leastStep_55 : decode cX4_leastStep 55 = .ok (.ireturn, 1) := by decide +kernel
theorem dX4_sharedFrom_0 : decode cX4_sharedFrom 0 = .ok (.iload_n 1, 1) := by decide +kernel
theorem dX4_sharedFrom_1 : decode cX4_sharedFrom 1 = .ok (.aload_n 0, 1) := by decide +kernel
theorem dX4_sharedFrom_2 : decode cX4_sharedFrom 2 = .ok (.getfield 33, 3) := by decide +kernel
theorem dX4_sharedFrom_5 : decode cX4_sharedFrom 5 = .ok (.if_icmp .eq 11, 3) := by decide +kernel
theorem dX4_sharedFrom_8 : decode cX4_sharedFrom 8 = .ok (.iload_n 2, 1) := by decide +kernel
theorem dX4_sharedFrom_9 : decode cX4_sharedFrom 9 = .ok (.aload_n 0, 1) := by decide +kernel
theorem dX4_sharedFrom_10 : decode cX4_sharedFrom 10 = .ok (.getfield 37, 3) := by decide +kernel
theorem dX4_sharedFrom_13 : decode cX4_sharedFrom 13 = .ok (.if_icmp .ne 5, 3) := by decide +kernel
theorem dX4_sharedFrom_16 : decode cX4_sharedFrom 16 = .ok (.iconst 0, 1) := by decide +kernel
theorem dX4_sharedFrom_17 : decode cX4_sharedFrom 17 = .ok (.ireturn, 1) := by decide +kernel
theorem dX4_sharedFrom_18 : decode cX4_sharedFrom 18 = .ok (.aload_n 0, 1) := by decide +kernel
theorem dX4_sharedFrom_19 : decode cX4_sharedFrom 19 = .ok (.getfield 9, 3) := by decide +kernel
theorem dX4_sharedFrom_22 : decode cX4_sharedFrom 22 = .ok (.iload_n 1, 1) := by decide +kernel
theorem dX4_sharedFrom_23 : decode cX4_sharedFrom 23 = .ok (.iaload, 1) := by decide +kernel
theorem dX4_sharedFrom_24 : decode cX4_sharedFrom 24 = .ok (.aload_n 0, 1) := by decide +kernel
theorem dX4_sharedFrom_25 : decode cX4_sharedFrom 25 = .ok (.getfield 15, 3) := by decide +kernel
theorem dX4_sharedFrom_28 : decode cX4_sharedFrom 28 = .ok (.iload_n 2, 1) := by decide +kernel
theorem dX4_sharedFrom_29 : decode cX4_sharedFrom 29 = .ok (.iaload, 1) := by decide +kernel
theorem dX4_sharedFrom_30 : decode cX4_sharedFrom 30 = .ok (.if_icmp .ne 21, 3) := by decide +kernel
theorem dX4_sharedFrom_33 : decode cX4_sharedFrom 33 = .ok (.iconst 1, 1) := by decide +kernel
theorem dX4_sharedFrom_34 : decode cX4_sharedFrom 34 = .ok (.aload_n 0, 1) := by decide +kernel
theorem dX4_sharedFrom_35 : decode cX4_sharedFrom 35 = .ok (.getfield 27, 3) := by decide +kernel
theorem dX4_sharedFrom_38 : decode cX4_sharedFrom 38 = .ok (.iload_n 1, 1) := by decide +kernel
theorem dX4_sharedFrom_39 : decode cX4_sharedFrom 39 = .ok (.iconst 1, 1) := by decide +kernel
theorem dX4_sharedFrom_40 : decode cX4_sharedFrom 40 = .ok (.iadd, 1) := by decide +kernel
theorem dX4_sharedFrom_41 : decode cX4_sharedFrom 41 = .ok (.bipush 11, 2) := by decide +kernel
theorem dX4_sharedFrom_43 : decode cX4_sharedFrom 43 = .ok (.imul, 1) := by decide +kernel
theorem dX4_sharedFrom_44 : decode cX4_sharedFrom 44 = .ok (.iload_n 2, 1) := by decide +kernel
theorem dX4_sharedFrom_45 : decode cX4_sharedFrom 45 = .ok (.iadd, 1) := by decide +kernel
theorem dX4_sharedFrom_46 : decode cX4_sharedFrom 46 = .ok (.iconst 1, 1) := by decide +kernel
theorem dX4_sharedFrom_47 : decode cX4_sharedFrom 47 = .ok (.iadd, 1) := by decide +kernel
theorem dX4_sharedFrom_48 : decode cX4_sharedFrom 48 = .ok (.iaload, 1) := by decide +kernel
theorem dX4_sharedFrom_49 : decode cX4_sharedFrom 49 = .ok (.iadd, 1) := by decide +kernel
theorem dX4_sharedFrom_50 : decode cX4_sharedFrom 50 = .ok (.ireturn, 1) := by decide +kernel
theorem dX4_sharedFrom_51 : decode cX4_sharedFrom 51 = .ok (.aload_n 0, 1) := by decide +kernel
theorem dX4_sharedFrom_52 : decode cX4_sharedFrom 52 = .ok (.getfield 27, 3) := by decide +kernel
theorem dX4_sharedFrom_55 : decode cX4_sharedFrom 55 = .ok (.iload_n 1, 1) := by decide +kernel
theorem dX4_sharedFrom_56 : decode cX4_sharedFrom 56 = .ok (.iconst 1, 1) := by decide +kernel
theorem dX4_sharedFrom_57 : decode cX4_sharedFrom 57 = .ok (.iadd, 1) := by decide +kernel
theorem dX4_sharedFrom_58 : decode cX4_sharedFrom 58 = .ok (.bipush 11, 2) := by decide +kernel
theorem dX4_sharedFrom_60 : decode cX4_sharedFrom 60 = .ok (.imul, 1) := by decide +kernel
theorem dX4_sharedFrom_61 : decode cX4_sharedFrom 61 = .ok (.iload_n 2, 1) := by decide +kernel
theorem dX4_sharedFrom_62 : decode cX4_sharedFrom 62 = .ok (.iadd, 1) := by decide +kernel
theorem dX4_sharedFrom_63 : decode cX4_sharedFrom 63 = .ok (.iaload, 1) := by decide +kernel
theorem dX4_sharedFrom_64 : decode cX4_sharedFrom 64 = .ok (.aload_n 0, 1) := by decide +kernel
theorem dX4_sharedFrom_65 : decode cX4_sharedFrom 65 = .ok (.getfield 27, 3) := by decide +kernel
theorem dX4_sharedFrom_68 : decode cX4_sharedFrom 68 = .ok (.iload_n 1, 1) := by decide +kernel
theorem dX4_sharedFrom_69 : decode cX4_sharedFrom 69 = .ok (.bipush 11, 2) := by decide +kernel
theorem dX4_sharedFrom_71 : decode cX4_sharedFrom 71 = .ok (.imul, 1) := by decide +kernel
theorem dX4_sharedFrom_72 : decode cX4_sharedFrom 72 = .ok (.iload_n 2, 1) := by decide +kernel
theorem dX4_sharedFrom_73 : decode cX4_sharedFrom 73 = .ok (.iadd, 1) := by decide +kernel
theorem dX4_sharedFrom_74 : decode cX4_sharedFrom 74 = .ok (.iconst 1, 1) := by decide +kernel
theorem dX4_sharedFrom_75 : decode cX4_sharedFrom 75 = .ok (.iadd, 1) := by decide +kernel
theorem dX4_sharedFrom_76 : decode cX4_sharedFrom 76 = .ok (.iaload, 1) := by decide +kernel
theorem dX4_sharedFrom_77 : decode cX4_sharedFrom 77 = .ok (.invokestatic 99, 3) := by decide +kernel
theorem dX4_sharedFrom_80 : decode cX4_sharedFrom 80 = .ok (.ireturn, 1) := by decide +kernel
theorem dX5_init_0 : decode cX5_init 0 = .ok (.aload_n 0, 1) := by decide +kernel
theorem dX5_init_1 : decode cX5_init 1 = .ok (.invokespecial 3, 3) := by decide +kernel
theorem dX5_init_4 : decode cX5_init 4 = .ok (.aload_n 0, 1) := by decide +kernel
theorem dX5_init_5 : decode cX5_init 5 = .ok (.bipush 8, 2) := by decide +kernel
theorem dX5_init_7 : decode cX5_init 7 = .ok (.newarray .long, 2) := by decide +kernel
theorem dX5_init_9 : decode cX5_init 9 = .ok (.putfield 9, 3) := by decide +kernel
theorem dX5_init_12 : decode cX5_init 12 = .ok (.aload_n 0, 1) := by decide +kernel
theorem dX5_init_13 : decode cX5_init 13 = .ok (.bipush 8, 2) := by decide +kernel
theorem dX5_init_15 : decode cX5_init 15 = .ok (.newarray .int, 2) := by decide +kernel
theorem dX5_init_17 : decode cX5_init 17 = .ok (.putfield 15, 3) := by decide +kernel
theorem dX5_init_20 : decode cX5_init 20 = .ok (.aload_n 0, 1) := by decide +kernel
theorem dX5_init_21 : decode cX5_init 21 = .ok (.iconst 4, 1) := by decide +kernel
theorem dX5_init_22 : decode cX5_init 22 = .ok (.newarray .int, 2) := by decide +kernel
theorem dX5_init_24 : decode cX5_init 24 = .ok (.putfield 19, 3) := by decide +kernel
theorem dX5_init_27 : decode cX5_init 27 = .ok (.aload_n 0, 1) := by decide +kernel
theorem dX5_init_28 : decode cX5_init 28 = .ok (.bipush 8, 2) := by decide +kernel
theorem dX5_init_30 : decode cX5_init 30 = .ok (.newarray .int, 2) := by decide +kernel
theorem dX5_init_32 : decode cX5_init 32 = .ok (.putfield 22, 3) := by decide +kernel
theorem dX5_init_35 : decode cX5_init 35 = .ok (.aload_n 0, 1) := by decide +kernel
theorem dX5_init_36 : decode cX5_init 36 = .ok (.iconst 0, 1) := by decide +kernel
theorem dX5_init_37 : decode cX5_init 37 = .ok (.putfield 25, 3) := by decide +kernel
theorem dX5_init_40 : decode cX5_init 40 = .ok (.aload_n 0, 1) := by decide +kernel
theorem dX5_init_41 : decode cX5_init 41 = .ok (.iconst 0, 1) := by decide +kernel
theorem dX5_init_42 : decode cX5_init 42 = .ok (.putfield 29, 3) := by decide +kernel
theorem dX5_init_45 : decode cX5_init 45 = .ok (.aload_n 0, 1) := by decide +kernel
theorem dX5_init_46 : decode cX5_init 46 = .ok (.getfield 19, 3) := by decide +kernel
theorem dX5_init_49 : decode cX5_init 49 = .ok (.iconst 0, 1) := by decide +kernel
theorem dX5_init_50 : decode cX5_init 50 = .ok (.iconst 2, 1) := by decide +kernel
theorem dX5_init_51 : decode cX5_init 51 = .ok (.iastore, 1) := by decide +kernel
theorem dX5_init_52 : decode cX5_init 52 = .ok (.aload_n 0, 1) := by decide +kernel
theorem dX5_init_53 : decode cX5_init 53 = .ok (.getfield 19, 3) := by decide +kernel
theorem dX5_init_56 : decode cX5_init 56 = .ok (.iconst 1, 1) := by decide +kernel
theorem dX5_init_57 : decode cX5_init 57 = .ok (.iconst 2, 1) := by decide +kernel
theorem dX5_init_58 : decode cX5_init 58 = .ok (.iastore, 1) := by decide +kernel
theorem dX5_init_59 : decode cX5_init 59 = .ok (.aload_n 0, 1) := by decide +kernel
theorem dX5_init_60 : decode cX5_init 60 = .ok (.getfield 19, 3) := by decide +kernel
theorem dX5_init_63 : decode cX5_init 63 = .ok (.iconst 2, 1) := by decide +kernel
theorem dX5_init_64 : decode cX5_init 64 = .ok (.iconst 1, 1) := by decide +kernel
theorem dX5_init_65 : decode cX5_init 65 = .ok (.iastore, 1) := by decide +kernel
theorem dX5_init_66 : decode cX5_init 66 = .ok (.aload_n 0, 1) := by decide +kernel
theorem dX5_init_67 : decode cX5_init 67 = .ok (.getfield 19, 3) := by decide +kernel
theorem dX5_init_70 : decode cX5_init 70 = .ok (.iconst 3, 1) := by decide +kernel
theorem dX5_init_71 : decode cX5_init 71 = .ok (.iconst 3, 1) := by decide +kernel
theorem dX5_init_72 : decode cX5_init 72 = .ok (.iastore, 1) := by decide +kernel
theorem dX5_init_73 : decode cX5_init 73 = .ok (.return_, 1) := by decide +kernel
theorem dX5_become_0 : decode cX5_become 0 = .ok (.aload_n 1, 1) := by decide +kernel
theorem dX5_become_1 : decode cX5_become 1 = .ok (.getfield 9, 3) := by decide +kernel
theorem dX5_become_4 : decode cX5_become 4 = .ok (.iconst 0, 1) := by decide +kernel
theorem dX5_become_5 : decode cX5_become 5 = .ok (.aload_n 0, 1) := by decide +kernel
theorem dX5_become_6 : decode cX5_become 6 = .ok (.getfield 9, 3) := by decide +kernel
theorem dX5_become_9 : decode cX5_become 9 = .ok (.iconst 0, 1) := by decide +kernel
theorem dX5_become_10 : decode cX5_become 10 = .ok (.bipush 8, 2) := by decide +kernel
theorem dX5_become_12 : decode cX5_become 12 = .ok (.invokestatic 32, 3) := by decide +kernel
theorem dX5_become_15 : decode cX5_become 15 = .ok (.aload_n 1, 1) := by decide +kernel
theorem dX5_become_16 : decode cX5_become 16 = .ok (.getfield 15, 3) := by decide +kernel
theorem dX5_become_19 : decode cX5_become 19 = .ok (.iconst 0, 1) := by decide +kernel
theorem dX5_become_20 : decode cX5_become 20 = .ok (.aload_n 0, 1) := by decide +kernel
theorem dX5_become_21 : decode cX5_become 21 = .ok (.getfield 15, 3) := by decide +kernel
theorem dX5_become_24 : decode cX5_become 24 = .ok (.iconst 0, 1) := by decide +kernel
theorem dX5_become_25 : decode cX5_become 25 = .ok (.bipush 8, 2) := by decide +kernel
theorem dX5_become_27 : decode cX5_become 27 = .ok (.invokestatic 32, 3) := by decide +kernel
theorem dX5_become_30 : decode cX5_become 30 = .ok (.aload_n 1, 1) := by decide +kernel
theorem dX5_become_31 : decode cX5_become 31 = .ok (.getfield 19, 3) := by decide +kernel
theorem dX5_become_34 : decode cX5_become 34 = .ok (.iconst 0, 1) := by decide +kernel
theorem dX5_become_35 : decode cX5_become 35 = .ok (.aload_n 0, 1) := by decide +kernel
theorem dX5_become_36 : decode cX5_become 36 = .ok (.getfield 19, 3) := by decide +kernel
theorem dX5_become_39 : decode cX5_become 39 = .ok (.iconst 0, 1) := by decide +kernel
theorem dX5_become_40 : decode cX5_become 40 = .ok (.iconst 4, 1) := by decide +kernel
theorem dX5_become_41 : decode cX5_become 41 = .ok (.invokestatic 32, 3) := by decide +kernel
theorem dX5_become_44 : decode cX5_become 44 = .ok (.aload_n 1, 1) := by decide +kernel
theorem dX5_become_45 : decode cX5_become 45 = .ok (.getfield 22, 3) := by decide +kernel
theorem dX5_become_48 : decode cX5_become 48 = .ok (.iconst 0, 1) := by decide +kernel
theorem dX5_become_49 : decode cX5_become 49 = .ok (.aload_n 0, 1) := by decide +kernel
theorem dX5_become_50 : decode cX5_become 50 = .ok (.getfield 22, 3) := by decide +kernel
theorem dX5_become_53 : decode cX5_become 53 = .ok (.iconst 0, 1) := by decide +kernel
theorem dX5_become_54 : decode cX5_become 54 = .ok (.bipush 8, 2) := by decide +kernel
theorem dX5_become_56 : decode cX5_become 56 = .ok (.invokestatic 32, 3) := by decide +kernel
theorem dX5_become_59 : decode cX5_become 59 = .ok (.aload_n 0, 1) := by decide +kernel
theorem dX5_become_60 : decode cX5_become 60 = .ok (.aload_n 1, 1) := by decide +kernel
theorem dX5_become_61 : decode cX5_become 61 = .ok (.getfield 25, 3) := by decide +kernel
theorem dX5_become_64 : decode cX5_become 64 = .ok (.putfield 25, 3) := by decide +kernel
theorem dX5_become_67 : decode cX5_become 67 = .ok (.aload_n 0, 1) := by decide +kernel
theorem dX5_become_68 : decode cX5_become 68 = .ok (.aload_n 1, 1) := by decide +kernel
theorem dX5_become_69 : decode cX5_become 69 = .ok (.getfield 29, 3) := by decide +kernel
theorem dX5_become_72 : decode cX5_become 72 = .ok (.putfield 29, 3) := by decide +kernel
theorem dX5_become_75 : decode cX5_become 75 = .ok (.return_, 1) := by decide +kernel
theorem dX5_add_0 : decode cX5_add 0 = .ok (.aload_n 0, 1) := by decide +kernel
theorem dX5_add_1 : decode cX5_add 1 = .ok (.getfield 25, 3) := by decide +kernel
theorem dX5_add_4 : decode cX5_add 4 = .ok (.bipush 8, 2) := by decide +kernel
theorem dX5_add_6 : decode cX5_add 6 = .ok (.if_icmp .lt 4, 3) := by decide +kernel
theorem dX5_add_9 : decode cX5_add 9 = .ok (.return_, 1) := by decide +kernel
theorem dX5_add_10 : decode cX5_add 10 = .ok (.aload_n 0, 1) := by decide +kernel
theorem dX5_add_11 : decode cX5_add 11 = .ok (.getfield 9, 3) := by decide +kernel
theorem dX5_add_14 : decode cX5_add 14 = .ok (.aload_n 0, 1) := by decide +kernel
theorem dX5_add_15 : decode cX5_add 15 = .ok (.getfield 25, 3) := by decide +kernel
theorem dX5_add_18 : decode cX5_add 18 = .ok (.lload_n 1, 1) := by decide +kernel
theorem dX5_add_19 : decode cX5_add 19 = .ok (.lastore, 1) := by decide +kernel
theorem dX5_add_20 : decode cX5_add 20 = .ok (.aload_n 0, 1) := by decide +kernel
theorem dX5_add_21 : decode cX5_add 21 = .ok (.getfield 15, 3) := by decide +kernel
theorem dX5_add_24 : decode cX5_add 24 = .ok (.aload_n 0, 1) := by decide +kernel
theorem dX5_add_25 : decode cX5_add 25 = .ok (.getfield 25, 3) := by decide +kernel
theorem dX5_add_28 : decode cX5_add 28 = .ok (.iload_n 3, 1) := by decide +kernel
theorem dX5_add_29 : decode cX5_add 29 = .ok (.iastore, 1) := by decide +kernel
theorem dX5_add_30 : decode cX5_add 30 = .ok (.aload_n 0, 1) := by decide +kernel
theorem dX5_add_31 : decode cX5_add 31 = .ok (.dup, 1) := by decide +kernel
theorem dX5_add_32 : decode cX5_add 32 = .ok (.getfield 25, 3) := by decide +kernel
theorem dX5_add_35 : decode cX5_add 35 = .ok (.iconst 1, 1) := by decide +kernel
theorem dX5_add_36 : decode cX5_add 36 = .ok (.iadd, 1) := by decide +kernel
theorem dX5_add_37 : decode cX5_add 37 = .ok (.putfield 25, 3) := by decide +kernel
theorem dX5_add_40 : decode cX5_add 40 = .ok (.return_, 1) := by decide +kernel
theorem dX5_remove_0 : decode cX5_remove 0 = .ok (.iload_n 1, 1) := by decide +kernel
theorem dX5_remove_1 : decode cX5_remove 1 = .ok (.ifCond .lt 11, 3) := by decide +kernel
theorem dX5_remove_4 : decode cX5_remove 4 = .ok (.iload_n 1, 1) := by decide +kernel
theorem dX5_remove_5 : decode cX5_remove 5 = .ok (.aload_n 0, 1) := by decide +kernel
theorem dX5_remove_6 : decode cX5_remove 6 = .ok (.getfield 25, 3) := by decide +kernel
theorem dX5_remove_9 : decode cX5_remove 9 = .ok (.if_icmp .lt 4, 3) := by decide +kernel
theorem dX5_remove_12 : decode cX5_remove 12 = .ok (.return_, 1) := by decide +kernel
theorem dX5_remove_13 : decode cX5_remove 13 = .ok (.aload_n 0, 1) := by decide +kernel
theorem dX5_remove_14 : decode cX5_remove 14 = .ok (.dup, 1) := by decide +kernel
theorem dX5_remove_15 : decode cX5_remove 15 = .ok (.getfield 25, 3) := by decide +kernel
theorem dX5_remove_18 : decode cX5_remove 18 = .ok (.iconst 1, 1) := by decide +kernel
theorem dX5_remove_19 : decode cX5_remove 19 = .ok (.isub, 1) := by decide +kernel
theorem dX5_remove_20 : decode cX5_remove 20 = .ok (.putfield 25, 3) := by decide +kernel
theorem dX5_remove_23 : decode cX5_remove 23 = .ok (.iload_n 1, 1) := by decide +kernel
theorem dX5_remove_24 : decode cX5_remove 24 = .ok (.istore_n 2, 1) := by decide +kernel
theorem dX5_remove_25 : decode cX5_remove 25 = .ok (.iload_n 2, 1) := by decide +kernel
theorem dX5_remove_26 : decode cX5_remove 26 = .ok (.aload_n 0, 1) := by decide +kernel
theorem dX5_remove_27 : decode cX5_remove 27 = .ok (.getfield 25, 3) := by decide +kernel
theorem dX5_remove_30 : decode cX5_remove 30 = .ok (.if_icmp .ge 37, 3) := by decide +kernel
theorem dX5_remove_33 : decode cX5_remove 33 = .ok (.aload_n 0, 1) := by decide +kernel
theorem dX5_remove_34 : decode cX5_remove 34 = .ok (.getfield 9, 3) := by decide +kernel
theorem dX5_remove_37 : decode cX5_remove 37 = .ok (.iload_n 2, 1) := by decide +kernel
theorem dX5_remove_38 : decode cX5_remove 38 = .ok (.aload_n 0, 1) := by decide +kernel
theorem dX5_remove_39 : decode cX5_remove 39 = .ok (.getfield 9, 3) := by decide +kernel
theorem dX5_remove_42 : decode cX5_remove 42 = .ok (.iload_n 2, 1) := by decide +kernel
theorem dX5_remove_43 : decode cX5_remove 43 = .ok (.iconst 1, 1) := by decide +kernel
theorem dX5_remove_44 : decode cX5_remove 44 = .ok (.iadd, 1) := by decide +kernel
theorem dX5_remove_45 : decode cX5_remove 45 = .ok (.laload, 1) := by decide +kernel
theorem dX5_remove_46 : decode cX5_remove 46 = .ok (.lastore, 1) := by decide +kernel
theorem dX5_remove_47 : decode cX5_remove 47 = .ok (.aload_n 0, 1) := by decide +kernel
theorem dX5_remove_48 : decode cX5_remove 48 = .ok (.getfield 15, 3) := by decide +kernel
theorem dX5_remove_51 : decode cX5_remove 51 = .ok (.iload_n 2, 1) := by decide +kernel
theorem dX5_remove_52 : decode cX5_remove 52 = .ok (.aload_n 0, 1) := by decide +kernel
theorem dX5_remove_53 : decode cX5_remove 53 = .ok (.getfield 15, 3) := by decide +kernel
theorem dX5_remove_56 : decode cX5_remove 56 = .ok (.iload_n 2, 1) := by decide +kernel
theorem dX5_remove_57 : decode cX5_remove 57 = .ok (.iconst 1, 1) := by decide +kernel
theorem dX5_remove_58 : decode cX5_remove 58 = .ok (.iadd, 1) := by decide +kernel
theorem dX5_remove_59 : decode cX5_remove 59 = .ok (.iaload, 1) := by decide +kernel
theorem dX5_remove_60 : decode cX5_remove 60 = .ok (.iastore, 1) := by decide +kernel
theorem dX5_remove_61 : decode cX5_remove 61 = .ok (.iinc 2 1, 3) := by decide +kernel
theorem dX5_remove_64 : decode cX5_remove 64 = .ok (.goto (-39), 3) := by decide +kernel
theorem dX5_remove_67 : decode cX5_remove 67 = .ok (.return_, 1) := by decide +kernel
theorem dX5_setRoad_0 : decode cX5_setRoad 0 = .ok (.iload_n 3, 1) := by decide +kernel
theorem dX5_setRoad_1 : decode cX5_setRoad 1 = .ok (.ifCond .eq 30, 3) := by decide +kernel
theorem dX5_setRoad_4 : decode cX5_setRoad 4 = .ok (.aload_n 0, 1) := by decide +kernel
theorem dX5_setRoad_5 : decode cX5_setRoad 5 = .ok (.getfield 22, 3) := by decide +kernel
theorem dX5_setRoad_8 : decode cX5_setRoad 8 = .ok (.iload_n 1, 1) := by decide +kernel
theorem dX5_setRoad_9 : decode cX5_setRoad 9 = .ok (.dup2, 1) := by decide +kernel
theorem dX5_setRoad_10 : decode cX5_setRoad 10 = .ok (.iaload, 1) := by decide +kernel
theorem dX5_setRoad_11 : decode cX5_setRoad 11 = .ok (.iconst 1, 1) := by decide +kernel
theorem dX5_setRoad_12 : decode cX5_setRoad 12 = .ok (.iload_n 2, 1) := by decide +kernel
theorem dX5_setRoad_13 : decode cX5_setRoad 13 = .ok (.ishl, 1) := by decide +kernel
theorem dX5_setRoad_14 : decode cX5_setRoad 14 = .ok (.ior, 1) := by decide +kernel
theorem dX5_setRoad_15 : decode cX5_setRoad 15 = .ok (.iastore, 1) := by decide +kernel
theorem dX5_setRoad_16 : decode cX5_setRoad 16 = .ok (.aload_n 0, 1) := by decide +kernel
theorem dX5_setRoad_17 : decode cX5_setRoad 17 = .ok (.getfield 22, 3) := by decide +kernel
theorem dX5_setRoad_20 : decode cX5_setRoad 20 = .ok (.iload_n 2, 1) := by decide +kernel
theorem dX5_setRoad_21 : decode cX5_setRoad 21 = .ok (.dup2, 1) := by decide +kernel
theorem dX5_setRoad_22 : decode cX5_setRoad 22 = .ok (.iaload, 1) := by decide +kernel
theorem dX5_setRoad_23 : decode cX5_setRoad 23 = .ok (.iconst 1, 1) := by decide +kernel
theorem dX5_setRoad_24 : decode cX5_setRoad 24 = .ok (.iload_n 1, 1) := by decide +kernel
theorem dX5_setRoad_25 : decode cX5_setRoad 25 = .ok (.ishl, 1) := by decide +kernel
theorem dX5_setRoad_26 : decode cX5_setRoad 26 = .ok (.ior, 1) := by decide +kernel
theorem dX5_setRoad_27 : decode cX5_setRoad 27 = .ok (.iastore, 1) := by decide +kernel
theorem dX5_setRoad_28 : decode cX5_setRoad 28 = .ok (.goto 31, 3) := by decide +kernel
theorem dX5_setRoad_31 : decode cX5_setRoad 31 = .ok (.aload_n 0, 1) := by decide +kernel
theorem dX5_setRoad_32 : decode cX5_setRoad 32 = .ok (.getfield 22, 3) := by decide +kernel
theorem dX5_setRoad_35 : decode cX5_setRoad 35 = .ok (.iload_n 1, 1) := by decide +kernel
theorem dX5_setRoad_36 : decode cX5_setRoad 36 = .ok (.dup2, 1) := by decide +kernel
theorem dX5_setRoad_37 : decode cX5_setRoad 37 = .ok (.iaload, 1) := by decide +kernel
theorem dX5_setRoad_38 : decode cX5_setRoad 38 = .ok (.iconst 1, 1) := by decide +kernel
theorem dX5_setRoad_39 : decode cX5_setRoad 39 = .ok (.iload_n 2, 1) := by decide +kernel
theorem dX5_setRoad_40 : decode cX5_setRoad 40 = .ok (.ishl, 1) := by decide +kernel
theorem dX5_setRoad_41 : decode cX5_setRoad 41 = .ok (.iconst (-1), 1) := by decide +kernel
theorem dX5_setRoad_42 : decode cX5_setRoad 42 = .ok (.ixor, 1) := by decide +kernel
theorem dX5_setRoad_43 : decode cX5_setRoad 43 = .ok (.iand, 1) := by decide +kernel
theorem dX5_setRoad_44 : decode cX5_setRoad 44 = .ok (.iastore, 1) := by decide +kernel
theorem dX5_setRoad_45 : decode cX5_setRoad 45 = .ok (.aload_n 0, 1) := by decide +kernel
theorem dX5_setRoad_46 : decode cX5_setRoad 46 = .ok (.getfield 22, 3) := by decide +kernel
theorem dX5_setRoad_49 : decode cX5_setRoad 49 = .ok (.iload_n 2, 1) := by decide +kernel
theorem dX5_setRoad_50 : decode cX5_setRoad 50 = .ok (.dup2, 1) := by decide +kernel
theorem dX5_setRoad_51 : decode cX5_setRoad 51 = .ok (.iaload, 1) := by decide +kernel
theorem dX5_setRoad_52 : decode cX5_setRoad 52 = .ok (.iconst 1, 1) := by decide +kernel
theorem dX5_setRoad_53 : decode cX5_setRoad 53 = .ok (.iload_n 1, 1) := by decide +kernel
theorem dX5_setRoad_54 : decode cX5_setRoad 54 = .ok (.ishl, 1) := by decide +kernel
theorem dX5_setRoad_55 : decode cX5_setRoad 55 = .ok (.iconst (-1), 1) := by decide +kernel
theorem dX5_setRoad_56 : decode cX5_setRoad 56 = .ok (.ixor, 1) := by decide +kernel
theorem dX5_setRoad_57 : decode cX5_setRoad 57 = .ok (.iand, 1) := by decide +kernel
theorem dX5_setRoad_58 : decode cX5_setRoad 58 = .ok (.iastore, 1) := by decide +kernel
theorem dX5_setRoad_59 : decode cX5_setRoad 59 = .ok (.return_, 1) := by decide +kernel
theorem dX5_countRoads_0 : decode cX5_countRoads 0 = .ok (.iconst 0, 1) := by decide +kernel
theorem dX5_countRoads_1 : decode cX5_countRoads 1 = .ok (.istore_n 1, 1) := by decide +kernel
theorem dX5_countRoads_2 : decode cX5_countRoads 2 = .ok (.iconst 0, 1) := by decide +kernel
theorem dX5_countRoads_3 : decode cX5_countRoads 3 = .ok (.istore_n 2, 1) := by decide +kernel
theorem dX5_countRoads_4 : decode cX5_countRoads 4 = .ok (.iload_n 2, 1) := by decide +kernel
theorem dX5_countRoads_5 : decode cX5_countRoads 5 = .ok (.bipush 8, 2) := by decide +kernel
theorem dX5_countRoads_7 : decode cX5_countRoads 7 = .ok (.if_icmp .ge 21, 3) := by decide +kernel
theorem dX5_countRoads_10 : decode cX5_countRoads 10 = .ok (.iload_n 1, 1) := by decide +kernel
theorem dX5_countRoads_11 : decode cX5_countRoads 11 = .ok (.aload_n 0, 1) := by decide +kernel
theorem dX5_countRoads_12 : decode cX5_countRoads 12 = .ok (.getfield 22, 3) := by decide +kernel
theorem dX5_countRoads_15 : decode cX5_countRoads 15 = .ok (.iload_n 2, 1) := by decide +kernel
theorem dX5_countRoads_16 : decode cX5_countRoads 16 = .ok (.iaload, 1) := by decide +kernel
theorem dX5_countRoads_17 : decode cX5_countRoads 17 = .ok (.invokestatic 38, 3) := by decide +kernel
theorem dX5_countRoads_20 : decode cX5_countRoads 20 = .ok (.iadd, 1) := by decide +kernel
theorem dX5_countRoads_21 : decode cX5_countRoads 21 = .ok (.istore_n 1, 1) := by decide +kernel
theorem dX5_countRoads_22 : decode cX5_countRoads 22 = .ok (.iinc 2 1, 3) := by decide +kernel
theorem dX5_countRoads_25 : decode cX5_countRoads 25 = .ok (.goto (-21), 3) := by decide +kernel
theorem dX5_countRoads_28 : decode cX5_countRoads 28 = .ok (.iload_n 1, 1) := by decide +kernel
theorem dX5_countRoads_29 : decode cX5_countRoads 29 = .ok (.iconst 2, 1) := by decide +kernel
theorem dX5_countRoads_30 : decode cX5_countRoads 30 = .ok (.idiv, 1) := by decide +kernel
theorem dX5_countRoads_31 : decode cX5_countRoads 31 = .ok (.ireturn, 1) := by decide +kernel
theorem dX5_motifsOfAll_0 : decode cX5_motifsOfAll 0 = .ok (.sipush 255, 3) := by decide +kernel
theorem dX5_motifsOfAll_3 : decode cX5_motifsOfAll 3 = .ok (.istore_n 2, 1) := by decide +kernel
theorem dX5_motifsOfAll_4 : decode cX5_motifsOfAll 4 = .ok (.iconst 0, 1) := by decide +kernel
theorem dX5_motifsOfAll_5 : decode cX5_motifsOfAll 5 = .ok (.istore_n 3, 1) := by decide +kernel
theorem dX5_motifsOfAll_6 : decode cX5_motifsOfAll 6 = .ok (.iload_n 3, 1) := by decide +kernel
theorem dX5_motifsOfAll_7 : decode cX5_motifsOfAll 7 = .ok (.aload_n 0, 1) := by decide +kernel
theorem dX5_motifsOfAll_8 : decode cX5_motifsOfAll 8 = .ok (.getfield 25, 3) := by decide +kernel
theorem dX5_motifsOfAll_11 : decode cX5_motifsOfAll 11 = .ok (.if_icmp .ge 30, 3) := by decide +kernel
theorem dX5_motifsOfAll_14 : decode cX5_motifsOfAll 14 = .ok (.iload_n 1, 1) := by decide +kernel
theorem dX5_motifsOfAll_15 : decode cX5_motifsOfAll 15 = .ok (.iload_n 3, 1) := by decide +kernel
theorem dX5_motifsOfAll_16 : decode cX5_motifsOfAll 16 = .ok (.ishr, 1) := by decide +kernel
theorem dX5_motifsOfAll_17 : decode cX5_motifsOfAll 17 = .ok (.iconst 1, 1) := by decide +kernel
theorem dX5_motifsOfAll_18 : decode cX5_motifsOfAll 18 = .ok (.iand, 1) := by decide +kernel
theorem dX5_motifsOfAll_19 : decode cX5_motifsOfAll 19 = .ok (.iconst 1, 1) := by decide +kernel
theorem dX5_motifsOfAll_20 : decode cX5_motifsOfAll 20 = .ok (.if_icmp .ne 15, 3) := by decide +kernel
theorem dX5_motifsOfAll_23 : decode cX5_motifsOfAll 23 = .ok (.iload_n 2, 1) := by decide +kernel
theorem dX5_motifsOfAll_24 : decode cX5_motifsOfAll 24 = .ok (.aload_n 0, 1) := by decide +kernel
theorem dX5_motifsOfAll_25 : decode cX5_motifsOfAll 25 = .ok (.getfield 9, 3) := by decide +kernel
theorem dX5_motifsOfAll_28 : decode cX5_motifsOfAll 28 = .ok (.iload_n 3, 1) := by decide +kernel
theorem dX5_motifsOfAll_29 : decode cX5_motifsOfAll 29 = .ok (.laload, 1) := by decide +kernel
theorem dX5_motifsOfAll_30 : decode cX5_motifsOfAll 30 = .ok (.invokestatic 44, 3) := by decide +kernel
theorem dX5_motifsOfAll_33 : decode cX5_motifsOfAll 33 = .ok (.iand, 1) := by decide +kernel
theorem dX5_motifsOfAll_34 : decode cX5_motifsOfAll 34 = .ok (.istore_n 2, 1) := by decide +kernel
theorem dX5_motifsOfAll_35 : decode cX5_motifsOfAll 35 = .ok (.iinc 3 1, 3) := by decide +kernel
theorem dX5_motifsOfAll_38 : decode cX5_motifsOfAll 38 = .ok (.goto (-32), 3) := by decide +kernel
theorem dX5_motifsOfAll_41 : decode cX5_motifsOfAll 41 = .ok (.iload_n 2, 1) := by decide +kernel
theorem dX5_motifsOfAll_42 : decode cX5_motifsOfAll 42 = .ok (.ireturn, 1) := by decide +kernel
theorem dX6_init_0 : decode cX6_init 0 = .ok (.aload_n 0, 1) := by decide +kernel
theorem dX6_init_1 : decode cX6_init 1 = .ok (.invokespecial 3, 3) := by decide +kernel
theorem dX6_init_4 : decode cX6_init 4 = .ok (.aload_n 0, 1) := by decide +kernel
theorem dX6_init_5 : decode cX6_init 5 = .ok (.bipush 8, 2) := by decide +kernel
theorem dX6_init_7 : decode cX6_init 7 = .ok (.newarray .int, 2) := by decide +kernel
theorem dX6_init_9 : decode cX6_init 9 = .ok (.putfield 9, 3) := by decide +kernel
theorem dX6_init_12 : decode cX6_init 12 = .ok (.aload_n 0, 1) := by decide +kernel
theorem dX6_init_13 : decode cX6_init 13 = .ok (.bipush 8, 2) := by decide +kernel
theorem dX6_init_15 : decode cX6_init 15 = .ok (.newarray .int, 2) := by decide +kernel
theorem dX6_init_17 : decode cX6_init 17 = .ok (.putfield 15, 3) := by decide +kernel
theorem dX6_init_20 : decode cX6_init 20 = .ok (.aload_n 0, 1) := by decide +kernel
theorem dX6_init_21 : decode cX6_init 21 = .ok (.bipush 8, 2) := by decide +kernel
theorem dX6_init_23 : decode cX6_init 23 = .ok (.newarray .int, 2) := by decide +kernel
theorem dX6_init_25 : decode cX6_init 25 = .ok (.putfield 18, 3) := by decide +kernel
theorem dX6_init_28 : decode cX6_init 28 = .ok (.aload_n 0, 1) := by decide +kernel
theorem dX6_init_29 : decode cX6_init 29 = .ok (.bipush 8, 2) := by decide +kernel
theorem dX6_init_31 : decode cX6_init 31 = .ok (.newarray .int, 2) := by decide +kernel
theorem dX6_init_33 : decode cX6_init 33 = .ok (.putfield 21, 3) := by decide +kernel
theorem dX6_init_36 : decode cX6_init 36 = .ok (.aload_n 0, 1) := by decide +kernel
theorem dX6_init_37 : decode cX6_init 37 = .ok (.iconst 0, 1) := by decide +kernel
theorem dX6_init_38 : decode cX6_init 38 = .ok (.putfield 24, 3) := by decide +kernel
theorem dX6_init_41 : decode cX6_init 41 = .ok (.aload_n 0, 1) := by decide +kernel
theorem dX6_init_42 : decode cX6_init 42 = .ok (.iconst 0, 1) := by decide +kernel
theorem dX6_init_43 : decode cX6_init 43 = .ok (.putfield 28, 3) := by decide +kernel
theorem dX6_init_46 : decode cX6_init 46 = .ok (.aload_n 0, 1) := by decide +kernel
theorem dX6_init_47 : decode cX6_init 47 = .ok (.iconst 1, 1) := by decide +kernel
theorem dX6_init_48 : decode cX6_init 48 = .ok (.putfield 31, 3) := by decide +kernel
theorem dX6_init_51 : decode cX6_init 51 = .ok (.aload_n 0, 1) := by decide +kernel
theorem dX6_init_52 : decode cX6_init 52 = .ok (.iconst 0, 1) := by decide +kernel
theorem dX6_init_53 : decode cX6_init 53 = .ok (.putfield 34, 3) := by decide +kernel
theorem dX6_init_56 : decode cX6_init 56 = .ok (.aload_n 0, 1) := by decide +kernel
theorem dX6_init_57 : decode cX6_init 57 = .ok (.iconst 1, 1) := by decide +kernel
theorem dX6_init_58 : decode cX6_init 58 = .ok (.putfield 37, 3) := by decide +kernel
theorem dX6_init_61 : decode cX6_init 61 = .ok (.aload_n 0, 1) := by decide +kernel
theorem dX6_init_62 : decode cX6_init 62 = .ok (.iconst 0, 1) := by decide +kernel
theorem dX6_init_63 : decode cX6_init 63 = .ok (.putfield 40, 3) := by decide +kernel
theorem dX6_init_66 : decode cX6_init 66 = .ok (.aload_n 0, 1) := by decide +kernel
theorem dX6_init_67 : decode cX6_init 67 = .ok (.iconst 0, 1) := by decide +kernel
theorem dX6_init_68 : decode cX6_init 68 = .ok (.putfield 43, 3) := by decide +kernel
theorem dX6_init_71 : decode cX6_init 71 = .ok (.return_, 1) := by decide +kernel
theorem dX6_grow_0 : decode cX6_grow 0 = .ok (.aload_n 0, 1) := by decide +kernel
theorem dX6_grow_1 : decode cX6_grow 1 = .ok (.iconst 0, 1) := by decide +kernel
theorem dX6_grow_2 : decode cX6_grow 2 = .ok (.putfield 24, 3) := by decide +kernel
theorem dX6_grow_5 : decode cX6_grow 5 = .ok (.iconst 0, 1) := by decide +kernel
theorem dX6_grow_6 : decode cX6_grow 6 = .ok (.istore 4, 2) := by decide +kernel
theorem dX6_grow_8 : decode cX6_grow 8 = .ok (.iload 4, 2) := by decide +kernel
theorem dX6_grow_10 : decode cX6_grow 10 = .ok (.iload_n 2, 1) := by decide +kernel
theorem dX6_grow_11 : decode cX6_grow 11 = .ok (.if_icmp .ge 27, 3) := by decide +kernel
theorem dX6_grow_14 : decode cX6_grow 14 = .ok (.iload 4, 2) := by decide +kernel
theorem dX6_grow_16 : decode cX6_grow 16 = .ok (.bipush 8, 2) := by decide +kernel
theorem dX6_grow_18 : decode cX6_grow 18 = .ok (.if_icmp .ge 20, 3) := by decide +kernel
theorem dX6_grow_21 : decode cX6_grow 21 = .ok (.aload_n 0, 1) := by decide +kernel
theorem dX6_grow_22 : decode cX6_grow 22 = .ok (.getfield 21, 3) := by decide +kernel
theorem dX6_grow_25 : decode cX6_grow 25 = .ok (.iload 4, 2) := by decide +kernel
theorem dX6_grow_27 : decode cX6_grow 27 = .ok (.iconst 1, 1) := by decide +kernel
theorem dX6_grow_28 : decode cX6_grow 28 = .ok (.iload 4, 2) := by decide +kernel
theorem dX6_grow_30 : decode cX6_grow 30 = .ok (.ishl, 1) := by decide +kernel
theorem dX6_grow_31 : decode cX6_grow 31 = .ok (.iastore, 1) := by decide +kernel
theorem dX6_grow_32 : decode cX6_grow 32 = .ok (.iinc 4 1, 3) := by decide +kernel
theorem dX6_grow_35 : decode cX6_grow 35 = .ok (.goto (-27), 3) := by decide +kernel
theorem dX6_grow_38 : decode cX6_grow 38 = .ok (.iload_n 2, 1) := by decide +kernel
theorem dX6_grow_39 : decode cX6_grow 39 = .ok (.istore 4, 2) := by decide +kernel
theorem dX6_grow_41 : decode cX6_grow 41 = .ok (.iload 4, 2) := by decide +kernel
theorem dX6_grow_43 : decode cX6_grow 43 = .ok (.iconst 1, 1) := by decide +kernel
theorem dX6_grow_44 : decode cX6_grow 44 = .ok (.if_icmp .le 23, 3) := by decide +kernel
theorem dX6_grow_47 : decode cX6_grow 47 = .ok (.aload_n 0, 1) := by decide +kernel
theorem dX6_grow_48 : decode cX6_grow 48 = .ok (.aload_n 1, 1) := by decide +kernel
theorem dX6_grow_49 : decode cX6_grow 49 = .ok (.iload 4, 2) := by decide +kernel
theorem dX6_grow_51 : decode cX6_grow 51 = .ok (.iload_n 3, 1) := by decide +kernel
theorem dX6_grow_52 : decode cX6_grow 52 = .ok (.invokevirtual 46, 3) := by decide +kernel
theorem dX6_grow_55 : decode cX6_grow 55 = .ok (.aload_n 0, 1) := by decide +kernel
theorem dX6_grow_56 : decode cX6_grow 56 = .ok (.iload 4, 2) := by decide +kernel
theorem dX6_grow_58 : decode cX6_grow 58 = .ok (.invokevirtual 50, 3) := by decide +kernel
theorem dX6_grow_61 : decode cX6_grow 61 = .ok (.iinc 4 (-1), 3) := by decide +kernel
theorem dX6_grow_64 : decode cX6_grow 64 = .ok (.goto (-23), 3) := by decide +kernel
theorem dX6_grow_67 : decode cX6_grow 67 = .ok (.return_, 1) := by decide +kernel
theorem dX6_nodesUpTo_0 : decode cX6_nodesUpTo 0 = .ok (.iconst 0, 1) := by decide +kernel
theorem dX6_nodesUpTo_1 : decode cX6_nodesUpTo 1 = .ok (.istore_n 2, 1) := by decide +kernel
theorem dX6_nodesUpTo_2 : decode cX6_nodesUpTo 2 = .ok (.iload_n 2, 1) := by decide +kernel
theorem dX6_nodesUpTo_3 : decode cX6_nodesUpTo 3 = .ok (.aload_n 0, 1) := by decide +kernel
theorem dX6_nodesUpTo_4 : decode cX6_nodesUpTo 4 = .ok (.getfield 24, 3) := by decide +kernel
theorem dX6_nodesUpTo_7 : decode cX6_nodesUpTo 7 = .ok (.if_icmp .ge 19, 3) := by decide +kernel
theorem dX6_nodesUpTo_10 : decode cX6_nodesUpTo 10 = .ok (.aload_n 0, 1) := by decide +kernel
theorem dX6_nodesUpTo_11 : decode cX6_nodesUpTo 11 = .ok (.getfield 9, 3) := by decide +kernel
theorem dX6_nodesUpTo_14 : decode cX6_nodesUpTo 14 = .ok (.iload_n 2, 1) := by decide +kernel
theorem dX6_nodesUpTo_15 : decode cX6_nodesUpTo 15 = .ok (.iaload, 1) := by decide +kernel
theorem dX6_nodesUpTo_16 : decode cX6_nodesUpTo 16 = .ok (.iload_n 1, 1) := by decide +kernel
theorem dX6_nodesUpTo_17 : decode cX6_nodesUpTo 17 = .ok (.if_icmp .gt 9, 3) := by decide +kernel
theorem dX6_nodesUpTo_20 : decode cX6_nodesUpTo 20 = .ok (.iinc 2 1, 3) := by decide +kernel
theorem dX6_nodesUpTo_23 : decode cX6_nodesUpTo 23 = .ok (.goto (-21), 3) := by decide +kernel
theorem dX6_nodesUpTo_26 : decode cX6_nodesUpTo 26 = .ok (.iload_n 2, 1) := by decide +kernel
theorem dX6_nodesUpTo_27 : decode cX6_nodesUpTo 27 = .ok (.ireturn, 1) := by decide +kernel
theorem dX6_typeOf_0 : decode cX6_typeOf 0 = .ok (.iconst 1, 1) := by decide +kernel
theorem dX6_typeOf_1 : decode cX6_typeOf 1 = .ok (.iload_n 1, 1) := by decide +kernel
theorem dX6_typeOf_2 : decode cX6_typeOf 2 = .ok (.ishl, 1) := by decide +kernel
theorem dX6_typeOf_3 : decode cX6_typeOf 3 = .ok (.istore_n 3, 1) := by decide +kernel
theorem dX6_typeOf_4 : decode cX6_typeOf 4 = .ok (.aload_n 0, 1) := by decide +kernel
theorem dX6_typeOf_5 : decode cX6_typeOf 5 = .ok (.iload_n 2, 1) := by decide +kernel
theorem dX6_typeOf_6 : decode cX6_typeOf 6 = .ok (.invokevirtual 54, 3) := by decide +kernel
theorem dX6_typeOf_9 : decode cX6_typeOf 9 = .ok (.istore 4, 2) := by decide +kernel
theorem dX6_typeOf_11 : decode cX6_typeOf 11 = .ok (.iconst 0, 1) := by decide +kernel
theorem dX6_typeOf_12 : decode cX6_typeOf 12 = .ok (.istore 5, 2) := by decide +kernel
theorem dX6_typeOf_14 : decode cX6_typeOf 14 = .ok (.iload 5, 2) := by decide +kernel
theorem dX6_typeOf_16 : decode cX6_typeOf 16 = .ok (.iload 4, 2) := by decide +kernel
theorem dX6_typeOf_18 : decode cX6_typeOf 18 = .ok (.if_icmp .ge 32, 3) := by decide +kernel
theorem dX6_typeOf_21 : decode cX6_typeOf 21 = .ok (.aload_n 0, 1) := by decide +kernel
theorem dX6_typeOf_22 : decode cX6_typeOf 22 = .ok (.getfield 15, 3) := by decide +kernel
theorem dX6_typeOf_25 : decode cX6_typeOf 25 = .ok (.iload 5, 2) := by decide +kernel
theorem dX6_typeOf_27 : decode cX6_typeOf 27 = .ok (.iaload, 1) := by decide +kernel
theorem dX6_typeOf_28 : decode cX6_typeOf 28 = .ok (.iload_n 1, 1) := by decide +kernel
theorem dX6_typeOf_29 : decode cX6_typeOf 29 = .ok (.ishr, 1) := by decide +kernel
theorem dX6_typeOf_30 : decode cX6_typeOf 30 = .ok (.iconst 1, 1) := by decide +kernel
theorem dX6_typeOf_31 : decode cX6_typeOf 31 = .ok (.iand, 1) := by decide +kernel
theorem dX6_typeOf_32 : decode cX6_typeOf 32 = .ok (.iconst 1, 1) := by decide +kernel
theorem dX6_typeOf_33 : decode cX6_typeOf 33 = .ok (.if_icmp .ne 11, 3) := by decide +kernel
theorem dX6_typeOf_36 : decode cX6_typeOf 36 = .ok (.aload_n 0, 1) := by decide +kernel
theorem dX6_typeOf_37 : decode cX6_typeOf 37 = .ok (.getfield 15, 3) := by decide +kernel
theorem dX6_typeOf_40 : decode cX6_typeOf 40 = .ok (.iload 5, 2) := by decide +kernel
theorem dX6_typeOf_42 : decode cX6_typeOf 42 = .ok (.iaload, 1) := by decide +kernel
theorem dX6_typeOf_43 : decode cX6_typeOf 43 = .ok (.istore_n 3, 1) := by decide +kernel
theorem dX6_typeOf_44 : decode cX6_typeOf 44 = .ok (.iinc 5 1, 3) := by decide +kernel
theorem dX6_typeOf_47 : decode cX6_typeOf 47 = .ok (.goto (-33), 3) := by decide +kernel
theorem dX6_typeOf_50 : decode cX6_typeOf 50 = .ok (.iload_n 3, 1) := by decide +kernel
theorem dX6_typeOf_51 : decode cX6_typeOf 51 = .ok (.ireturn, 1) := by decide +kernel
theorem dX6_findNearest_0 : decode cX6_findNearest 0 = .ok (.iconst 0, 1) := by decide +kernel
theorem dX6_findNearest_1 : decode cX6_findNearest 1 = .ok (.istore 4, 2) := by decide +kernel
theorem dX6_findNearest_3 : decode cX6_findNearest 3 = .ok (.iconst 0, 1) := by decide +kernel
theorem dX6_findNearest_4 : decode cX6_findNearest 4 = .ok (.istore 5, 2) := by decide +kernel
theorem dX6_findNearest_6 : decode cX6_findNearest 6 = .ok (.iload 5, 2) := by decide +kernel
theorem dX6_findNearest_8 : decode cX6_findNearest 8 = .ok (.iload_n 2, 1) := by decide +kernel
theorem dX6_findNearest_9 : decode cX6_findNearest 9 = .ok (.if_icmp .ge 104, 3) := by decide +kernel
theorem dX6_findNearest_12 : decode cX6_findNearest 12 = .ok (.iload 5, 2) := by decide +kernel
theorem dX6_findNearest_14 : decode cX6_findNearest 14 = .ok (.iconst 1, 1) := by decide +kernel
theorem dX6_findNearest_15 : decode cX6_findNearest 15 = .ok (.iadd, 1) := by decide +kernel
theorem dX6_findNearest_16 : decode cX6_findNearest 16 = .ok (.istore 6, 2) := by decide +kernel
theorem dX6_findNearest_18 : decode cX6_findNearest 18 = .ok (.iload 6, 2) := by decide +kernel
theorem dX6_findNearest_20 : decode cX6_findNearest 20 = .ok (.iload_n 2, 1) := by decide +kernel
theorem dX6_findNearest_21 : decode cX6_findNearest 21 = .ok (.if_icmp .ge 86, 3) := by decide +kernel
theorem dX6_findNearest_24 : decode cX6_findNearest 24 = .ok (.aload_n 0, 1) := by decide +kernel
theorem dX6_findNearest_25 : decode cX6_findNearest 25 = .ok (.aload_n 1, 1) := by decide +kernel
theorem dX6_findNearest_26 : decode cX6_findNearest 26 = .ok (.aload_n 0, 1) := by decide +kernel
theorem dX6_findNearest_27 : decode cX6_findNearest 27 = .ok (.getfield 21, 3) := by decide +kernel
theorem dX6_findNearest_30 : decode cX6_findNearest 30 = .ok (.iload 5, 2) := by decide +kernel
theorem dX6_findNearest_32 : decode cX6_findNearest 32 = .ok (.iaload, 1) := by decide +kernel
theorem dX6_findNearest_33 : decode cX6_findNearest 33 = .ok (.aload_n 0, 1) := by decide +kernel
theorem dX6_findNearest_34 : decode cX6_findNearest 34 = .ok (.getfield 21, 3) := by decide +kernel
theorem dX6_findNearest_37 : decode cX6_findNearest 37 = .ok (.iload 6, 2) := by decide +kernel
theorem dX6_findNearest_39 : decode cX6_findNearest 39 = .ok (.iaload, 1) := by decide +kernel
theorem dX6_findNearest_40 : decode cX6_findNearest 40 = .ok (.iload_n 3, 1) := by decide +kernel
theorem dX6_findNearest_41 : decode cX6_findNearest 41 = .ok (.invokevirtual 58, 3) := by decide +kernel
theorem dX6_findNearest_44 : decode cX6_findNearest 44 = .ok (.iload 4, 2) := by decide +kernel
theorem dX6_findNearest_46 : decode cX6_findNearest 46 = .ok (.ifCond .eq 24, 3) := by decide +kernel
theorem dX6_findNearest_49 : decode cX6_findNearest 49 = .ok (.aload_n 0, 1) := by decide +kernel
theorem dX6_findNearest_50 : decode cX6_findNearest 50 = .ok (.getfield 28, 3) := by decide +kernel
theorem dX6_findNearest_53 : decode cX6_findNearest 53 = .ok (.aload_n 0, 1) := by decide +kernel
theorem dX6_findNearest_54 : decode cX6_findNearest 54 = .ok (.getfield 37, 3) := by decide +kernel
theorem dX6_findNearest_57 : decode cX6_findNearest 57 = .ok (.imul, 1) := by decide +kernel
theorem dX6_findNearest_58 : decode cX6_findNearest 58 = .ok (.aload_n 0, 1) := by decide +kernel
theorem dX6_findNearest_59 : decode cX6_findNearest 59 = .ok (.getfield 34, 3) := by decide +kernel
theorem dX6_findNearest_62 : decode cX6_findNearest 62 = .ok (.aload_n 0, 1) := by decide +kernel
theorem dX6_findNearest_63 : decode cX6_findNearest 63 = .ok (.getfield 31, 3) := by decide +kernel
theorem dX6_findNearest_66 : decode cX6_findNearest 66 = .ok (.imul, 1) := by decide +kernel
theorem dX6_findNearest_67 : decode cX6_findNearest 67 = .ok (.if_icmp .ge 34, 3) := by decide +kernel
theorem dX6_findNearest_70 : decode cX6_findNearest 70 = .ok (.iconst 1, 1) := by decide +kernel
theorem dX6_findNearest_71 : decode cX6_findNearest 71 = .ok (.istore 4, 2) := by decide +kernel
theorem dX6_findNearest_73 : decode cX6_findNearest 73 = .ok (.aload_n 0, 1) := by decide +kernel
theorem dX6_findNearest_74 : decode cX6_findNearest 74 = .ok (.aload_n 0, 1) := by decide +kernel
theorem dX6_findNearest_75 : decode cX6_findNearest 75 = .ok (.getfield 28, 3) := by decide +kernel
theorem dX6_findNearest_78 : decode cX6_findNearest 78 = .ok (.putfield 34, 3) := by decide +kernel
theorem dX6_findNearest_81 : decode cX6_findNearest 81 = .ok (.aload_n 0, 1) := by decide +kernel
theorem dX6_findNearest_82 : decode cX6_findNearest 82 = .ok (.aload_n 0, 1) := by decide +kernel
theorem dX6_findNearest_83 : decode cX6_findNearest 83 = .ok (.getfield 31, 3) := by decide +kernel
theorem dX6_findNearest_86 : decode cX6_findNearest 86 = .ok (.putfield 37, 3) := by decide +kernel
theorem dX6_findNearest_89 : decode cX6_findNearest 89 = .ok (.aload_n 0, 1) := by decide +kernel
theorem dX6_findNearest_90 : decode cX6_findNearest 90 = .ok (.iload 5, 2) := by decide +kernel
theorem dX6_findNearest_92 : decode cX6_findNearest 92 = .ok (.putfield 40, 3) := by decide +kernel
theorem dX6_findNearest_95 : decode cX6_findNearest 95 = .ok (.aload_n 0, 1) := by decide +kernel
theorem dX6_findNearest_96 : decode cX6_findNearest 96 = .ok (.iload 6, 2) := by decide +kernel
theorem dX6_findNearest_98 : decode cX6_findNearest 98 = .ok (.putfield 43, 3) := by decide +kernel
theorem dX6_findNearest_101 : decode cX6_findNearest 101 = .ok (.iinc 6 1, 3) := by decide +kernel
theorem dX6_findNearest_104 : decode cX6_findNearest 104 = .ok (.goto (-86), 3) := by decide +kernel
theorem dX6_findNearest_107 : decode cX6_findNearest 107 = .ok (.iinc 5 1, 3) := by decide +kernel
theorem dX6_findNearest_110 : decode cX6_findNearest 110 = .ok (.goto (-104), 3) := by decide +kernel
theorem dX6_findNearest_113 : decode cX6_findNearest 113 = .ok (.return_, 1) := by decide +kernel
theorem dX6_compareTypes_0 : decode cX6_compareTypes 0 = .ok (.ldc 62, 2) := by decide +kernel
theorem dX6_compareTypes_2 : decode cX6_compareTypes 2 = .ok (.istore 5, 2) := by decide +kernel
theorem dX6_compareTypes_4 : decode cX6_compareTypes 4 = .ok (.iconst 0, 1) := by decide +kernel
theorem dX6_compareTypes_5 : decode cX6_compareTypes 5 = .ok (.istore 6, 2) := by decide +kernel
theorem dX6_compareTypes_7 : decode cX6_compareTypes 7 = .ok (.iconst 0, 1) := by decide +kernel
theorem dX6_compareTypes_8 : decode cX6_compareTypes 8 = .ok (.istore 7, 2) := by decide +kernel
theorem dX6_compareTypes_10 : decode cX6_compareTypes 10 = .ok (.iconst 0, 1) := by decide +kernel
theorem dX6_compareTypes_11 : decode cX6_compareTypes 11 = .ok (.istore 8, 2) := by decide +kernel
theorem dX6_compareTypes_13 : decode cX6_compareTypes 13 = .ok (.iload 8, 2) := by decide +kernel
theorem dX6_compareTypes_15 : decode cX6_compareTypes 15 = .ok (.bipush 8, 2) := by decide +kernel
theorem dX6_compareTypes_17 : decode cX6_compareTypes 17 = .ok (.if_icmp .ge 82, 3) := by decide +kernel
theorem dX6_compareTypes_20 : decode cX6_compareTypes 20 = .ok (.iload_n 2, 1) := by decide +kernel
theorem dX6_compareTypes_21 : decode cX6_compareTypes 21 = .ok (.iload 8, 2) := by decide +kernel
theorem dX6_compareTypes_23 : decode cX6_compareTypes 23 = .ok (.ishr, 1) := by decide +kernel
theorem dX6_compareTypes_24 : decode cX6_compareTypes 24 = .ok (.iconst 1, 1) := by decide +kernel
theorem dX6_compareTypes_25 : decode cX6_compareTypes 25 = .ok (.iand, 1) := by decide +kernel
theorem dX6_compareTypes_26 : decode cX6_compareTypes 26 = .ok (.ifCond .ne 6, 3) := by decide +kernel
theorem dX6_compareTypes_29 : decode cX6_compareTypes 29 = .ok (.goto 64, 3) := by decide +kernel
theorem dX6_compareTypes_32 : decode cX6_compareTypes 32 = .ok (.iconst 0, 1) := by decide +kernel
theorem dX6_compareTypes_33 : decode cX6_compareTypes 33 = .ok (.istore 9, 2) := by decide +kernel
theorem dX6_compareTypes_35 : decode cX6_compareTypes 35 = .ok (.iload 9, 2) := by decide +kernel
theorem dX6_compareTypes_37 : decode cX6_compareTypes 37 = .ok (.bipush 8, 2) := by decide +kernel
theorem dX6_compareTypes_39 : decode cX6_compareTypes 39 = .ok (.if_icmp .ge 54, 3) := by decide +kernel
theorem dX6_compareTypes_42 : decode cX6_compareTypes 42 = .ok (.iload_n 3, 1) := by decide +kernel
theorem dX6_compareTypes_43 : decode cX6_compareTypes 43 = .ok (.iload 9, 2) := by decide +kernel
theorem dX6_compareTypes_45 : decode cX6_compareTypes 45 = .ok (.ishr, 1) := by decide +kernel
theorem dX6_compareTypes_46 : decode cX6_compareTypes 46 = .ok (.iconst 1, 1) := by decide +kernel
theorem dX6_compareTypes_47 : decode cX6_compareTypes 47 = .ok (.iand, 1) := by decide +kernel
theorem dX6_compareTypes_48 : decode cX6_compareTypes 48 = .ok (.iconst 1, 1) := by decide +kernel
theorem dX6_compareTypes_49 : decode cX6_compareTypes 49 = .ok (.if_icmp .ne 38, 3) := by decide +kernel
theorem dX6_compareTypes_52 : decode cX6_compareTypes 52 = .ok (.aload_n 1, 1) := by decide +kernel
theorem dX6_compareTypes_53 : decode cX6_compareTypes 53 = .ok (.iload 8, 2) := by decide +kernel
theorem dX6_compareTypes_55 : decode cX6_compareTypes 55 = .ok (.iload 9, 2) := by decide +kernel
theorem dX6_compareTypes_57 : decode cX6_compareTypes 57 = .ok (.invokevirtual 63, 3) := by decide +kernel
theorem dX6_compareTypes_60 : decode cX6_compareTypes 60 = .ok (.istore 10, 2) := by decide +kernel
theorem dX6_compareTypes_62 : decode cX6_compareTypes 62 = .ok (.iload 5, 2) := by decide +kernel
theorem dX6_compareTypes_64 : decode cX6_compareTypes 64 = .ok (.iload 10, 2) := by decide +kernel
theorem dX6_compareTypes_66 : decode cX6_compareTypes 66 = .ok (.invokestatic 69, 3) := by decide +kernel
theorem dX6_compareTypes_69 : decode cX6_compareTypes 69 = .ok (.istore 5, 2) := by decide +kernel
theorem dX6_compareTypes_71 : decode cX6_compareTypes 71 = .ok (.iload 6, 2) := by decide +kernel
theorem dX6_compareTypes_73 : decode cX6_compareTypes 73 = .ok (.iload 10, 2) := by decide +kernel
theorem dX6_compareTypes_75 : decode cX6_compareTypes 75 = .ok (.invokestatic 74, 3) := by decide +kernel
theorem dX6_compareTypes_78 : decode cX6_compareTypes 78 = .ok (.istore 6, 2) := by decide +kernel
theorem dX6_compareTypes_80 : decode cX6_compareTypes 80 = .ok (.iload 7, 2) := by decide +kernel
theorem dX6_compareTypes_82 : decode cX6_compareTypes 82 = .ok (.iload 10, 2) := by decide +kernel
theorem dX6_compareTypes_84 : decode cX6_compareTypes 84 = .ok (.iadd, 1) := by decide +kernel
theorem dX6_compareTypes_85 : decode cX6_compareTypes 85 = .ok (.istore 7, 2) := by decide +kernel
theorem dX6_compareTypes_87 : decode cX6_compareTypes 87 = .ok (.iinc 9 1, 3) := by decide +kernel
theorem dX6_compareTypes_90 : decode cX6_compareTypes 90 = .ok (.goto (-55), 3) := by decide +kernel
theorem dX6_compareTypes_93 : decode cX6_compareTypes 93 = .ok (.iinc 8 1, 3) := by decide +kernel
theorem dX6_compareTypes_96 : decode cX6_compareTypes 96 = .ok (.goto (-83), 3) := by decide +kernel
theorem dX6_compareTypes_99 : decode cX6_compareTypes 99 = .ok (.aload_n 0, 1) := by decide +kernel
theorem dX6_compareTypes_100 : decode cX6_compareTypes 100 = .ok (.iconst 1, 1) := by decide +kernel
theorem dX6_compareTypes_101 : decode cX6_compareTypes 101 = .ok (.putfield 31, 3) := by decide +kernel
theorem dX6_compareTypes_104 : decode cX6_compareTypes 104 = .ok (.iload 4, 2) := by decide +kernel
theorem dX6_compareTypes_106 : decode cX6_compareTypes 106 = .ok (.ifCond .ne 12, 3) := by decide +kernel
theorem dX6_compareTypes_109 : decode cX6_compareTypes 109 = .ok (.aload_n 0, 1) := by decide +kernel
theorem dX6_compareTypes_110 : decode cX6_compareTypes 110 = .ok (.iload 5, 2) := by decide +kernel
theorem dX6_compareTypes_112 : decode cX6_compareTypes 112 = .ok (.putfield 28, 3) := by decide +kernel
theorem dX6_compareTypes_115 : decode cX6_compareTypes 115 = .ok (.goto 37, 3) := by decide +kernel
theorem dX6_compareTypes_118 : decode cX6_compareTypes 118 = .ok (.iload 4, 2) := by decide +kernel
theorem dX6_compareTypes_120 : decode cX6_compareTypes 120 = .ok (.iconst 1, 1) := by decide +kernel
theorem dX6_compareTypes_121 : decode cX6_compareTypes 121 = .ok (.if_icmp .ne 12, 3) := by decide +kernel
theorem dX6_compareTypes_124 : decode cX6_compareTypes 124 = .ok (.aload_n 0, 1) := by decide +kernel
theorem dX6_compareTypes_125 : decode cX6_compareTypes 125 = .ok (.iload 6, 2) := by decide +kernel
theorem dX6_compareTypes_127 : decode cX6_compareTypes 127 = .ok (.putfield 28, 3) := by decide +kernel
theorem dX6_compareTypes_130 : decode cX6_compareTypes 130 = .ok (.goto 22, 3) := by decide +kernel
theorem dX6_compareTypes_133 : decode cX6_compareTypes 133 = .ok (.aload_n 0, 1) := by decide +kernel
theorem dX6_compareTypes_134 : decode cX6_compareTypes 134 = .ok (.iload 7, 2) := by decide +kernel
theorem dX6_compareTypes_136 : decode cX6_compareTypes 136 = .ok (.putfield 28, 3) := by decide +kernel
theorem dX6_compareTypes_139 : decode cX6_compareTypes 139 = .ok (.aload_n 0, 1) := by decide +kernel
theorem dX6_compareTypes_140 : decode cX6_compareTypes 140 = .ok (.iload_n 2, 1) := by decide +kernel
theorem dX6_compareTypes_141 : decode cX6_compareTypes 141 = .ok (.invokestatic 77, 3) := by decide +kernel
theorem dX6_compareTypes_144 : decode cX6_compareTypes 144 = .ok (.iload_n 3, 1) := by decide +kernel
theorem dX6_compareTypes_145 : decode cX6_compareTypes 145 = .ok (.invokestatic 77, 3) := by decide +kernel
theorem dX6_compareTypes_148 : decode cX6_compareTypes 148 = .ok (.imul, 1) := by decide +kernel
theorem dX6_compareTypes_149 : decode cX6_compareTypes 149 = .ok (.putfield 31, 3) := by decide +kernel
theorem dX6_compareTypes_152 : decode cX6_compareTypes 152 = .ok (.return_, 1) := by decide +kernel
theorem dX6_joinNearest_0 : decode cX6_joinNearest 0 = .ok (.aload_n 0, 1) := by decide +kernel
theorem dX6_joinNearest_1 : decode cX6_joinNearest 1 = .ok (.getfield 9, 3) := by decide +kernel
theorem dX6_joinNearest_4 : decode cX6_joinNearest 4 = .ok (.aload_n 0, 1) := by decide +kernel
theorem dX6_joinNearest_5 : decode cX6_joinNearest 5 = .ok (.getfield 24, 3) := by decide +kernel
theorem dX6_joinNearest_8 : decode cX6_joinNearest 8 = .ok (.aload_n 0, 1) := by decide +kernel
theorem dX6_joinNearest_9 : decode cX6_joinNearest 9 = .ok (.getfield 37, 3) := by decide +kernel
theorem dX6_joinNearest_12 : decode cX6_joinNearest 12 = .ok (.ifCond .le 15, 3) := by decide +kernel
theorem dX6_joinNearest_15 : decode cX6_joinNearest 15 = .ok (.aload_n 0, 1) := by decide +kernel
theorem dX6_joinNearest_16 : decode cX6_joinNearest 16 = .ok (.getfield 34, 3) := by decide +kernel
theorem dX6_joinNearest_19 : decode cX6_joinNearest 19 = .ok (.aload_n 0, 1) := by decide +kernel
theorem dX6_joinNearest_20 : decode cX6_joinNearest 20 = .ok (.getfield 37, 3) := by decide +kernel
theorem dX6_joinNearest_23 : decode cX6_joinNearest 23 = .ok (.idiv, 1) := by decide +kernel
theorem dX6_joinNearest_24 : decode cX6_joinNearest 24 = .ok (.goto 4, 3) := by decide +kernel
theorem dX6_joinNearest_27 : decode cX6_joinNearest 27 = .ok (.iconst 0, 1) := by decide +kernel
theorem dX6_joinNearest_28 : decode cX6_joinNearest 28 = .ok (.iastore, 1) := by decide +kernel
theorem dX6_joinNearest_29 : decode cX6_joinNearest 29 = .ok (.aload_n 0, 1) := by decide +kernel
theorem dX6_joinNearest_30 : decode cX6_joinNearest 30 = .ok (.getfield 18, 3) := by decide +kernel
theorem dX6_joinNearest_33 : decode cX6_joinNearest 33 = .ok (.aload_n 0, 1) := by decide +kernel
theorem dX6_joinNearest_34 : decode cX6_joinNearest 34 = .ok (.getfield 24, 3) := by decide +kernel
theorem dX6_joinNearest_37 : decode cX6_joinNearest 37 = .ok (.aload_n 0, 1) := by decide +kernel
theorem dX6_joinNearest_38 : decode cX6_joinNearest 38 = .ok (.getfield 21, 3) := by decide +kernel
theorem dX6_joinNearest_41 : decode cX6_joinNearest 41 = .ok (.aload_n 0, 1) := by decide +kernel
theorem dX6_joinNearest_42 : decode cX6_joinNearest 42 = .ok (.getfield 40, 3) := by decide +kernel
theorem dX6_joinNearest_45 : decode cX6_joinNearest 45 = .ok (.iaload, 1) := by decide +kernel
theorem dX6_joinNearest_46 : decode cX6_joinNearest 46 = .ok (.iastore, 1) := by decide +kernel
theorem dX6_joinNearest_47 : decode cX6_joinNearest 47 = .ok (.aload_n 0, 1) := by decide +kernel
theorem dX6_joinNearest_48 : decode cX6_joinNearest 48 = .ok (.getfield 21, 3) := by decide +kernel
theorem dX6_joinNearest_51 : decode cX6_joinNearest 51 = .ok (.aload_n 0, 1) := by decide +kernel
theorem dX6_joinNearest_52 : decode cX6_joinNearest 52 = .ok (.getfield 40, 3) := by decide +kernel
theorem dX6_joinNearest_55 : decode cX6_joinNearest 55 = .ok (.dup2, 1) := by decide +kernel
theorem dX6_joinNearest_56 : decode cX6_joinNearest 56 = .ok (.iaload, 1) := by decide +kernel
theorem dX6_joinNearest_57 : decode cX6_joinNearest 57 = .ok (.aload_n 0, 1) := by decide +kernel
theorem dX6_joinNearest_58 : decode cX6_joinNearest 58 = .ok (.getfield 21, 3) := by decide +kernel
theorem dX6_joinNearest_61 : decode cX6_joinNearest 61 = .ok (.aload_n 0, 1) := by decide +kernel
theorem dX6_joinNearest_62 : decode cX6_joinNearest 62 = .ok (.getfield 43, 3) := by decide +kernel
theorem dX6_joinNearest_65 : decode cX6_joinNearest 65 = .ok (.iaload, 1) := by decide +kernel
theorem dX6_joinNearest_66 : decode cX6_joinNearest 66 = .ok (.ior, 1) := by decide +kernel
theorem dX6_joinNearest_67 : decode cX6_joinNearest 67 = .ok (.iastore, 1) := by decide +kernel
theorem dX6_joinNearest_68 : decode cX6_joinNearest 68 = .ok (.aload_n 0, 1) := by decide +kernel
theorem dX6_joinNearest_69 : decode cX6_joinNearest 69 = .ok (.getfield 15, 3) := by decide +kernel
theorem dX6_joinNearest_72 : decode cX6_joinNearest 72 = .ok (.aload_n 0, 1) := by decide +kernel
theorem dX6_joinNearest_73 : decode cX6_joinNearest 73 = .ok (.getfield 24, 3) := by decide +kernel
theorem dX6_joinNearest_76 : decode cX6_joinNearest 76 = .ok (.aload_n 0, 1) := by decide +kernel
theorem dX6_joinNearest_77 : decode cX6_joinNearest 77 = .ok (.getfield 21, 3) := by decide +kernel
theorem dX6_joinNearest_80 : decode cX6_joinNearest 80 = .ok (.aload_n 0, 1) := by decide +kernel
theorem dX6_joinNearest_81 : decode cX6_joinNearest 81 = .ok (.getfield 40, 3) := by decide +kernel
theorem dX6_joinNearest_84 : decode cX6_joinNearest 84 = .ok (.iaload, 1) := by decide +kernel
theorem dX6_joinNearest_85 : decode cX6_joinNearest 85 = .ok (.iastore, 1) := by decide +kernel
theorem dX6_joinNearest_86 : decode cX6_joinNearest 86 = .ok (.aload_n 0, 1) := by decide +kernel
theorem dX6_joinNearest_87 : decode cX6_joinNearest 87 = .ok (.dup, 1) := by decide +kernel
theorem dX6_joinNearest_88 : decode cX6_joinNearest 88 = .ok (.getfield 24, 3) := by decide +kernel
theorem dX6_joinNearest_91 : decode cX6_joinNearest 91 = .ok (.iconst 1, 1) := by decide +kernel
theorem dX6_joinNearest_92 : decode cX6_joinNearest 92 = .ok (.iadd, 1) := by decide +kernel
theorem dX6_joinNearest_93 : decode cX6_joinNearest 93 = .ok (.putfield 24, 3) := by decide +kernel
theorem dX6_joinNearest_96 : decode cX6_joinNearest 96 = .ok (.aload_n 0, 1) := by decide +kernel
theorem dX6_joinNearest_97 : decode cX6_joinNearest 97 = .ok (.getfield 43, 3) := by decide +kernel
theorem dX6_joinNearest_100 : decode cX6_joinNearest 100 = .ok (.istore_n 2, 1) := by decide +kernel
