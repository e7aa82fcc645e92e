theorem dX6_joinNearest_101 : decode cX6_joinNearest 101 = .ok (.iload_n 2, 1) := by decide +kernel
theorem dX6_joinNearest_102 : decode cX6_joinNearest 102 = .ok (.iload_n 1, 1) := by decide +kernel
theorem dX6_joinNearest_103 : decode cX6_joinNearest 103 = .ok (.iconst 1, 1) := by decide +kernel
theorem dX6_joinNearest_104 : decode cX6_joinNearest 104 = .ok (.isub, 1) := by decide +kernel
theorem dX6_joinNearest_105 : decode cX6_joinNearest 105 = .ok (.if_icmp .ge 23, 3) := by decide +kernel
theorem dX6_joinNearest_108 : decode cX6_joinNearest 108 = .ok (.aload_n 0, 1) := by decide +kernel
theorem dX6_joinNearest_109 : decode cX6_joinNearest 109 = .ok (.getfield 21, 3) := by decide +kernel
theorem dX6_joinNearest_112 : decode cX6_joinNearest 112 = .ok (.iload_n 2, 1) := by decide +kernel
theorem dX6_joinNearest_113 : decode cX6_joinNearest 113 = .ok (.aload_n 0, 1) := by decide +kernel
theorem dX6_joinNearest_114 : decode cX6_joinNearest 114 = .ok (.getfield 21, 3) := by decide +kernel
theorem dX6_joinNearest_117 : decode cX6_joinNearest 117 = .ok (.iload_n 2, 1) := by decide +kernel
theorem dX6_joinNearest_118 : decode cX6_joinNearest 118 = .ok (.iconst 1, 1) := by decide +kernel
theorem dX6_joinNearest_119 : decode cX6_joinNearest 119 = .ok (.iadd, 1) := by decide +kernel
theorem dX6_joinNearest_120 : decode cX6_joinNearest 120 = .ok (.iaload, 1) := by decide +kernel
theorem dX6_joinNearest_121 : decode cX6_joinNearest 121 = .ok (.iastore, 1) := by decide +kernel
theorem dX6_joinNearest_122 : decode cX6_joinNearest 122 = .ok (.iinc 2 1, 3) := by decide +kernel
theorem dX6_joinNearest_125 : decode cX6_joinNearest 125 = .ok (.goto (-24), 3) := by decide +kernel
theorem dX6_joinNearest_128 : decode cX6_joinNearest 128 = .ok (.return_, 1) := by decide +kernel
theorem dX7_init_0 : decode cX7_init 0 = .ok (.aload_n 0, 1) := by decide +kernel
theorem dX7_init_1 : decode cX7_init 1 = .ok (.invokespecial 1, 3) := by decide +kernel
theorem dX7_init_4 : decode cX7_init 4 = .ok (.aload_n 0, 1) := by decide +kernel
theorem dX7_init_5 : decode cX7_init 5 = .ok (.new 7, 3) := by decide +kernel
theorem dX7_init_8 : decode cX7_init 8 = .ok (.dup, 1) := by decide +kernel
theorem dX7_init_9 : decode cX7_init 9 = .ok (.invokespecial 9, 3) := by decide +kernel
theorem dX7_init_12 : decode cX7_init 12 = .ok (.putfield 10, 3) := by decide +kernel
theorem dX7_init_15 : decode cX7_init 15 = .ok (.aload_n 0, 1) := by decide +kernel
theorem dX7_init_16 : decode cX7_init 16 = .ok (.new 16, 3) := by decide +kernel
theorem dX7_init_19 : decode cX7_init 19 = .ok (.dup, 1) := by decide +kernel
theorem dX7_init_20 : decode cX7_init 20 = .ok (.invokespecial 18, 3) := by decide +kernel
theorem dX7_init_23 : decode cX7_init 23 = .ok (.putfield 19, 3) := by decide +kernel
theorem dX7_init_26 : decode cX7_init 26 = .ok (.aload_n 0, 1) := by decide +kernel
theorem dX7_init_27 : decode cX7_init 27 = .ok (.new 23, 3) := by decide +kernel
theorem dX7_init_30 : decode cX7_init 30 = .ok (.dup, 1) := by decide +kernel
theorem dX7_init_31 : decode cX7_init 31 = .ok (.invokespecial 25, 3) := by decide +kernel
theorem dX7_init_34 : decode cX7_init 34 = .ok (.putfield 26, 3) := by decide +kernel
theorem dX7_init_37 : decode cX7_init 37 = .ok (.aload_n 0, 1) := by decide +kernel
theorem dX7_init_38 : decode cX7_init 38 = .ok (.new 30, 3) := by decide +kernel
theorem dX7_init_41 : decode cX7_init 41 = .ok (.dup, 1) := by decide +kernel
theorem dX7_init_42 : decode cX7_init 42 = .ok (.invokespecial 32, 3) := by decide +kernel
theorem dX7_init_45 : decode cX7_init 45 = .ok (.putfield 33, 3) := by decide +kernel
theorem dX7_init_48 : decode cX7_init 48 = .ok (.aload_n 0, 1) := by decide +kernel
theorem dX7_init_49 : decode cX7_init 49 = .ok (.new 37, 3) := by decide +kernel
theorem dX7_init_52 : decode cX7_init 52 = .ok (.dup, 1) := by decide +kernel
theorem dX7_init_53 : decode cX7_init 53 = .ok (.invokespecial 39, 3) := by decide +kernel
theorem dX7_init_56 : decode cX7_init 56 = .ok (.putfield 40, 3) := by decide +kernel
theorem dX7_init_59 : decode cX7_init 59 = .ok (.aload_n 0, 1) := by decide +kernel
theorem dX7_init_60 : decode cX7_init 60 = .ok (.new 44, 3) := by decide +kernel
theorem dX7_init_63 : decode cX7_init 63 = .ok (.dup, 1) := by decide +kernel
theorem dX7_init_64 : decode cX7_init 64 = .ok (.invokespecial 46, 3) := by decide +kernel
theorem dX7_init_67 : decode cX7_init 67 = .ok (.putfield 47, 3) := by decide +kernel
theorem dX7_init_70 : decode cX7_init 70 = .ok (.aload_n 0, 1) := by decide +kernel
theorem dX7_init_71 : decode cX7_init 71 = .ok (.iconst 2, 1) := by decide +kernel
theorem dX7_init_72 : decode cX7_init 72 = .ok (.anewarray 51, 3) := by decide +kernel
theorem dX7_init_75 : decode cX7_init 75 = .ok (.putfield 53, 3) := by decide +kernel
theorem dX7_init_78 : decode cX7_init 78 = .ok (.aload_n 0, 1) := by decide +kernel
theorem dX7_init_79 : decode cX7_init 79 = .ok (.lconst 0, 1) := by decide +kernel
theorem dX7_init_80 : decode cX7_init 80 = .ok (.putfield 57, 3) := by decide +kernel
theorem dX7_init_83 : decode cX7_init 83 = .ok (.aload_n 0, 1) := by decide +kernel
theorem dX7_init_84 : decode cX7_init 84 = .ok (.iconst 0, 1) := by decide +kernel
theorem dX7_init_85 : decode cX7_init 85 = .ok (.putfield 61, 3) := by decide +kernel
theorem dX7_init_88 : decode cX7_init 88 = .ok (.aload_n 0, 1) := by decide +kernel
theorem dX7_init_89 : decode cX7_init 89 = .ok (.iconst 0, 1) := by decide +kernel
theorem dX7_init_90 : decode cX7_init 90 = .ok (.putfield 65, 3) := by decide +kernel
theorem dX7_init_93 : decode cX7_init 93 = .ok (.iconst 0, 1) := by decide +kernel
theorem dX7_init_94 : decode cX7_init 94 = .ok (.istore_n 1, 1) := by decide +kernel
theorem dX7_init_95 : decode cX7_init 95 = .ok (.iload_n 1, 1) := by decide +kernel
theorem dX7_init_96 : decode cX7_init 96 = .ok (.iconst 2, 1) := by decide +kernel
theorem dX7_init_97 : decode cX7_init 97 = .ok (.if_icmp .ge 22, 3) := by decide +kernel
theorem dX7_init_100 : decode cX7_init 100 = .ok (.aload_n 0, 1) := by decide +kernel
theorem dX7_init_101 : decode cX7_init 101 = .ok (.getfield 53, 3) := by decide +kernel
theorem dX7_init_104 : decode cX7_init 104 = .ok (.iload_n 1, 1) := by decide +kernel
theorem dX7_init_105 : decode cX7_init 105 = .ok (.new 51, 3) := by decide +kernel
theorem dX7_init_108 : decode cX7_init 108 = .ok (.dup, 1) := by decide +kernel
theorem dX7_init_109 : decode cX7_init 109 = .ok (.invokespecial 69, 3) := by decide +kernel
theorem dX7_init_112 : decode cX7_init 112 = .ok (.aastore, 1) := by decide +kernel
theorem dX7_init_113 : decode cX7_init 113 = .ok (.iinc 1 1, 3) := by decide +kernel
theorem dX7_init_116 : decode cX7_init 116 = .ok (.goto (-21), 3) := by decide +kernel
theorem dX7_init_119 : decode cX7_init 119 = .ok (.return_, 1) := by decide +kernel
theorem dX7_feed_0 : decode cX7_feed 0 = .ok (.iload_n 1, 1) := by decide +kernel
theorem dX7_feed_1 : decode cX7_feed 1 = .ok (.bipush 97, 2) := by decide +kernel
theorem dX7_feed_3 : decode cX7_feed 3 = .ok (.if_icmp .lt 9, 3) := by decide +kernel
theorem dX7_feed_6 : decode cX7_feed 6 = .ok (.iload_n 1, 1) := by decide +kernel
theorem dX7_feed_7 : decode cX7_feed 7 = .ok (.bipush 104, 2) := by decide +kernel
theorem dX7_feed_9 : decode cX7_feed 9 = .ok (.if_icmp .le 6, 3) := by decide +kernel
theorem dX7_feed_12 : decode cX7_feed 12 = .ok (.ldc 70, 2) := by decide +kernel
theorem dX7_feed_14 : decode cX7_feed 14 = .ok (.ireturn, 1) := by decide +kernel
theorem dX7_feed_15 : decode cX7_feed 15 = .ok (.aload_n 0, 1) := by decide +kernel
theorem dX7_feed_16 : decode cX7_feed 16 = .ok (.getfield 57, 3) := by decide +kernel
theorem dX7_feed_19 : decode cX7_feed 19 = .ok (.invokestatic 71, 3) := by decide +kernel
theorem dX7_feed_22 : decode cX7_feed 22 = .ok (.bipush 10, 2) := by decide +kernel
theorem dX7_feed_24 : decode cX7_feed 24 = .ok (.if_icmp .lt 6, 3) := by decide +kernel
theorem dX7_feed_27 : decode cX7_feed 27 = .ok (.ldc 75, 2) := by decide +kernel
theorem dX7_feed_29 : decode cX7_feed 29 = .ok (.ireturn, 1) := by decide +kernel
theorem dX7_feed_30 : decode cX7_feed 30 = .ok (.aload_n 0, 1) := by decide +kernel
theorem dX7_feed_31 : decode cX7_feed 31 = .ok (.aload_n 0, 1) := by decide +kernel
theorem dX7_feed_32 : decode cX7_feed 32 = .ok (.getfield 57, 3) := by decide +kernel
theorem dX7_feed_35 : decode cX7_feed 35 = .ok (.iload_n 1, 1) := by decide +kernel
theorem dX7_feed_36 : decode cX7_feed 36 = .ok (.bipush 97, 2) := by decide +kernel
theorem dX7_feed_38 : decode cX7_feed 38 = .ok (.isub, 1) := by decide +kernel
theorem dX7_feed_39 : decode cX7_feed 39 = .ok (.invokestatic 76, 3) := by decide +kernel
theorem dX7_feed_42 : decode cX7_feed 42 = .ok (.putfield 57, 3) := by decide +kernel
theorem dX7_feed_45 : decode cX7_feed 45 = .ok (.aload_n 0, 1) := by decide +kernel
theorem dX7_feed_46 : decode cX7_feed 46 = .ok (.getfield 57, 3) := by decide +kernel
theorem dX7_feed_49 : decode cX7_feed 49 = .ok (.invokestatic 71, 3) := by decide +kernel
theorem dX7_feed_52 : decode cX7_feed 52 = .ok (.ireturn, 1) := by decide +kernel
theorem dX7_tale_0 : decode cX7_tale 0 = .ok (.aload_n 0, 1) := by decide +kernel
theorem dX7_tale_1 : decode cX7_tale 1 = .ok (.getfield 10, 3) := by decide +kernel
theorem dX7_tale_4 : decode cX7_tale 4 = .ok (.getfield 80, 3) := by decide +kernel
theorem dX7_tale_7 : decode cX7_tale 7 = .ok (.bipush 8, 2) := by decide +kernel
theorem dX7_tale_9 : decode cX7_tale 9 = .ok (.if_icmp .lt 6, 3) := by decide +kernel
theorem dX7_tale_12 : decode cX7_tale 12 = .ok (.ldc 75, 2) := by decide +kernel
theorem dX7_tale_14 : decode cX7_tale 14 = .ok (.ireturn, 1) := by decide +kernel
theorem dX7_tale_15 : decode cX7_tale 15 = .ok (.aload_n 0, 1) := by decide +kernel
theorem dX7_tale_16 : decode cX7_tale 16 = .ok (.getfield 57, 3) := by decide +kernel
theorem dX7_tale_19 : decode cX7_tale 19 = .ok (.invokestatic 71, 3) := by decide +kernel
theorem dX7_tale_22 : decode cX7_tale 22 = .ok (.ifCond .ne 6, 3) := by decide +kernel
theorem dX7_tale_25 : decode cX7_tale 25 = .ok (.ldc 83, 2) := by decide +kernel
theorem dX7_tale_27 : decode cX7_tale 27 = .ok (.ireturn, 1) := by decide +kernel
theorem dX7_tale_28 : decode cX7_tale 28 = .ok (.aload_n 0, 1) := by decide +kernel
theorem dX7_tale_29 : decode cX7_tale 29 = .ok (.invokevirtual 84, 3) := by decide +kernel
theorem dX7_tale_32 : decode cX7_tale 32 = .ok (.aload_n 0, 1) := by decide +kernel
theorem dX7_tale_33 : decode cX7_tale 33 = .ok (.getfield 10, 3) := by decide +kernel
theorem dX7_tale_36 : decode cX7_tale 36 = .ok (.aload_n 0, 1) := by decide +kernel
theorem dX7_tale_37 : decode cX7_tale 37 = .ok (.getfield 57, 3) := by decide +kernel
theorem dX7_tale_40 : decode cX7_tale 40 = .ok (.iconst 0, 1) := by decide +kernel
theorem dX7_tale_41 : decode cX7_tale 41 = .ok (.invokevirtual 87, 3) := by decide +kernel
theorem dX7_tale_44 : decode cX7_tale 44 = .ok (.aload_n 0, 1) := by decide +kernel
theorem dX7_tale_45 : decode cX7_tale 45 = .ok (.lconst 0, 1) := by decide +kernel
theorem dX7_tale_46 : decode cX7_tale 46 = .ok (.putfield 57, 3) := by decide +kernel
theorem dX7_tale_49 : decode cX7_tale 49 = .ok (.aload_n 0, 1) := by decide +kernel
theorem dX7_tale_50 : decode cX7_tale 50 = .ok (.getfield 10, 3) := by decide +kernel
theorem dX7_tale_53 : decode cX7_tale 53 = .ok (.getfield 80, 3) := by decide +kernel
theorem dX7_tale_56 : decode cX7_tale 56 = .ok (.iconst 1, 1) := by decide +kernel
theorem dX7_tale_57 : decode cX7_tale 57 = .ok (.isub, 1) := by decide +kernel
theorem dX7_tale_58 : decode cX7_tale 58 = .ok (.ireturn, 1) := by decide +kernel
theorem dX7_told_0 : decode cX7_told 0 = .ok (.iload_n 1, 1) := by decide +kernel
theorem dX7_told_1 : decode cX7_told 1 = .ok (.tableswitch 136 0 8 #[51, 59, 67, 75, 80, 85, 97, 105, 128], 51) := by decide +kernel
theorem dX7_told_52 : decode cX7_told 52 = .ok (.aload_n 0, 1) := by decide +kernel
theorem dX7_told_53 : decode cX7_told 53 = .ok (.getfield 10, 3) := by decide +kernel
theorem dX7_told_56 : decode cX7_told 56 = .ok (.getfield 80, 3) := by decide +kernel
theorem dX7_told_59 : decode cX7_told 59 = .ok (.ireturn, 1) := by decide +kernel
theorem dX7_told_60 : decode cX7_told 60 = .ok (.aload_n 0, 1) := by decide +kernel
theorem dX7_told_61 : decode cX7_told 61 = .ok (.getfield 57, 3) := by decide +kernel
theorem dX7_told_64 : decode cX7_told 64 = .ok (.invokestatic 71, 3) := by decide +kernel
theorem dX7_told_67 : decode cX7_told 67 = .ok (.ireturn, 1) := by decide +kernel
theorem dX7_told_68 : decode cX7_told 68 = .ok (.aload_n 0, 1) := by decide +kernel
theorem dX7_told_69 : decode cX7_told 69 = .ok (.getfield 10, 3) := by decide +kernel
theorem dX7_told_72 : decode cX7_told 72 = .ok (.getfield 91, 3) := by decide +kernel
theorem dX7_told_75 : decode cX7_told 75 = .ok (.ireturn, 1) := by decide +kernel
theorem dX7_told_76 : decode cX7_told 76 = .ok (.aload_n 0, 1) := by decide +kernel
theorem dX7_told_77 : decode cX7_told 77 = .ok (.invokevirtual 94, 3) := by decide +kernel
theorem dX7_told_80 : decode cX7_told 80 = .ok (.ireturn, 1) := by decide +kernel
theorem dX7_told_81 : decode cX7_told 81 = .ok (.aload_n 0, 1) := by decide +kernel
theorem dX7_told_82 : decode cX7_told 82 = .ok (.invokevirtual 98, 3) := by decide +kernel
theorem dX7_told_85 : decode cX7_told 85 = .ok (.ireturn, 1) := by decide +kernel
theorem dX7_told_86 : decode cX7_told 86 = .ok (.aload_n 0, 1) := by decide +kernel
theorem dX7_told_87 : decode cX7_told 87 = .ok (.getfield 10, 3) := by decide +kernel
theorem dX7_told_90 : decode cX7_told 90 = .ok (.aload_n 0, 1) := by decide +kernel
theorem dX7_told_91 : decode cX7_told 91 = .ok (.invokevirtual 101, 3) := by decide +kernel
theorem dX7_told_94 : decode cX7_told 94 = .ok (.invokevirtual 104, 3) := by decide +kernel
theorem dX7_told_97 : decode cX7_told 97 = .ok (.ireturn, 1) := by decide +kernel
theorem dX7_told_98 : decode cX7_told 98 = .ok (.aload_n 0, 1) := by decide +kernel
theorem dX7_told_99 : decode cX7_told 99 = .ok (.getfield 26, 3) := by decide +kernel
theorem dX7_told_102 : decode cX7_told 102 = .ok (.getfield 108, 3) := by decide +kernel
theorem dX7_told_105 : decode cX7_told 105 = .ok (.ireturn, 1) := by decide +kernel
theorem dX7_told_106 : decode cX7_told 106 = .ok (.aload_n 0, 1) := by decide +kernel
theorem dX7_told_107 : decode cX7_told 107 = .ok (.invokevirtual 111, 3) := by decide +kernel
theorem dX7_told_110 : decode cX7_told 110 = .ok (.aload_n 0, 1) := by decide +kernel
theorem dX7_told_111 : decode cX7_told 111 = .ok (.getfield 26, 3) := by decide +kernel
theorem dX7_told_114 : decode cX7_told 114 = .ok (.aload_n 0, 1) := by decide +kernel
theorem dX7_told_115 : decode cX7_told 115 = .ok (.getfield 40, 3) := by decide +kernel
theorem dX7_told_118 : decode cX7_told 118 = .ok (.aload_n 0, 1) := by decide +kernel
theorem dX7_told_119 : decode cX7_told 119 = .ok (.getfield 10, 3) := by decide +kernel
theorem dX7_told_122 : decode cX7_told 122 = .ok (.getfield 80, 3) := by decide +kernel
theorem dX7_told_125 : decode cX7_told 125 = .ok (.invokevirtual 114, 3) := by decide +kernel
theorem dX7_told_128 : decode cX7_told 128 = .ok (.ireturn, 1) := by decide +kernel
theorem dX7_told_129 : decode cX7_told 129 = .ok (.aload_n 0, 1) := by decide +kernel
theorem dX7_told_130 : decode cX7_told 130 = .ok (.getfield 19, 3) := by decide +kernel
theorem dX7_told_133 : decode cX7_told 133 = .ok (.getfield 118, 3) := by decide +kernel
theorem dX7_told_136 : decode cX7_told 136 = .ok (.ireturn, 1) := by decide +kernel
theorem dX7_told_137 : decode cX7_told 137 = .ok (.ldc 70, 2) := by decide +kernel
theorem dX7_told_139 : decode cX7_told 139 = .ok (.ireturn, 1) := by decide +kernel
theorem dX7_taleAt_0 : decode cX7_taleAt 0 = .ok (.aload_n 0, 1) := by decide +kernel
theorem dX7_taleAt_1 : decode cX7_taleAt 1 = .ok (.iload_n 1, 1) := by decide +kernel
theorem dX7_taleAt_2 : decode cX7_taleAt 2 = .ok (.invokevirtual 119, 3) := by decide +kernel
theorem dX7_taleAt_5 : decode cX7_taleAt 5 = .ok (.ifCond .ne 6, 3) := by decide +kernel
theorem dX7_taleAt_8 : decode cX7_taleAt 8 = .ok (.ldc 123, 2) := by decide +kernel
theorem dX7_taleAt_10 : decode cX7_taleAt 10 = .ok (.ireturn, 1) := by decide +kernel
theorem dX7_taleAt_11 : decode cX7_taleAt 11 = .ok (.iload_n 2, 1) := by decide +kernel
theorem dX7_taleAt_12 : decode cX7_taleAt 12 = .ok (.tableswitch 98 0 3 #[32, 45, 55, 78], 32) := by decide +kernel
theorem dX7_taleAt_44 : decode cX7_taleAt 44 = .ok (.aload_n 0, 1) := by decide +kernel
theorem dX7_taleAt_45 : decode cX7_taleAt 45 = .ok (.getfield 10, 3) := by decide +kernel
theorem dX7_taleAt_48 : decode cX7_taleAt 48 = .ok (.getfield 124, 3) := by decide +kernel
theorem dX7_taleAt_51 : decode cX7_taleAt 51 = .ok (.iload_n 1, 1) := by decide +kernel
theorem dX7_taleAt_52 : decode cX7_taleAt 52 = .ok (.laload, 1) := by decide +kernel
theorem dX7_taleAt_53 : decode cX7_taleAt 53 = .ok (.invokestatic 71, 3) := by decide +kernel
theorem dX7_taleAt_56 : decode cX7_taleAt 56 = .ok (.ireturn, 1) := by decide +kernel
theorem dX7_taleAt_57 : decode cX7_taleAt 57 = .ok (.aload_n 0, 1) := by decide +kernel
theorem dX7_taleAt_58 : decode cX7_taleAt 58 = .ok (.getfield 10, 3) := by decide +kernel
theorem dX7_taleAt_61 : decode cX7_taleAt 61 = .ok (.getfield 128, 3) := by decide +kernel
theorem dX7_taleAt_64 : decode cX7_taleAt 64 = .ok (.iload_n 1, 1) := by decide +kernel
theorem dX7_taleAt_65 : decode cX7_taleAt 65 = .ok (.iaload, 1) := by decide +kernel
theorem dX7_taleAt_66 : decode cX7_taleAt 66 = .ok (.ireturn, 1) := by decide +kernel
theorem dX7_taleAt_67 : decode cX7_taleAt 67 = .ok (.aload_n 0, 1) := by decide +kernel
theorem dX7_taleAt_68 : decode cX7_taleAt 68 = .ok (.getfield 10, 3) := by decide +kernel
theorem dX7_taleAt_71 : decode cX7_taleAt 71 = .ok (.getfield 128, 3) := by decide +kernel
theorem dX7_taleAt_74 : decode cX7_taleAt 74 = .ok (.iload_n 1, 1) := by decide +kernel
theorem dX7_taleAt_75 : decode cX7_taleAt 75 = .ok (.iaload, 1) := by decide +kernel
theorem dX7_taleAt_76 : decode cX7_taleAt 76 = .ok (.aload_n 0, 1) := by decide +kernel
theorem dX7_taleAt_77 : decode cX7_taleAt 77 = .ok (.getfield 10, 3) := by decide +kernel
theorem dX7_taleAt_80 : decode cX7_taleAt 80 = .ok (.getfield 132, 3) := by decide +kernel
theorem dX7_taleAt_83 : decode cX7_taleAt 83 = .ok (.invokestatic 135, 3) := by decide +kernel
theorem dX7_taleAt_86 : decode cX7_taleAt 86 = .ok (.invokestatic 139, 3) := by decide +kernel
theorem dX7_taleAt_89 : decode cX7_taleAt 89 = .ok (.ireturn, 1) := by decide +kernel
theorem dX7_taleAt_90 : decode cX7_taleAt 90 = .ok (.aload_n 0, 1) := by decide +kernel
theorem dX7_taleAt_91 : decode cX7_taleAt 91 = .ok (.getfield 10, 3) := by decide +kernel
theorem dX7_taleAt_94 : decode cX7_taleAt 94 = .ok (.getfield 128, 3) := by decide +kernel
theorem dX7_taleAt_97 : decode cX7_taleAt 97 = .ok (.iload_n 1, 1) := by decide +kernel
theorem dX7_taleAt_98 : decode cX7_taleAt 98 = .ok (.iaload, 1) := by decide +kernel
theorem dX7_taleAt_99 : decode cX7_taleAt 99 = .ok (.aload_n 0, 1) := by decide +kernel
theorem dX7_taleAt_100 : decode cX7_taleAt 100 = .ok (.getfield 10, 3) := by decide +kernel
theorem dX7_taleAt_103 : decode cX7_taleAt 103 = .ok (.getfield 132, 3) := by decide +kernel
theorem dX7_taleAt_106 : decode cX7_taleAt 106 = .ok (.invokestatic 135, 3) := by decide +kernel
theorem dX7_taleAt_109 : decode cX7_taleAt 109 = .ok (.ireturn, 1) := by decide +kernel
theorem dX7_taleAt_110 : decode cX7_taleAt 110 = .ok (.ldc 70, 2) := by decide +kernel
theorem dX7_taleAt_112 : decode cX7_taleAt 112 = .ok (.ireturn, 1) := by decide +kernel
theorem dX7_motif_0 : decode cX7_motif 0 = .ok (.aload_n 0, 1) := by decide +kernel
theorem dX7_motif_1 : decode cX7_motif 1 = .ok (.iload_n 1, 1) := by decide +kernel
theorem dX7_motif_2 : decode cX7_motif 2 = .ok (.invokevirtual 119, 3) := by decide +kernel
theorem dX7_motif_5 : decode cX7_motif 5 = .ok (.ifCond .ne 6, 3) := by decide +kernel
theorem dX7_motif_8 : decode cX7_motif 8 = .ok (.ldc 123, 2) := by decide +kernel
theorem dX7_motif_10 : decode cX7_motif 10 = .ok (.ireturn, 1) := by decide +kernel
theorem dX7_motif_11 : decode cX7_motif 11 = .ok (.iload_n 2, 1) := by decide +kernel
theorem dX7_motif_12 : decode cX7_motif 12 = .ok (.ifCond .lt 19, 3) := by decide +kernel
theorem dX7_motif_15 : decode cX7_motif 15 = .ok (.iload_n 2, 1) := by decide +kernel
theorem dX7_motif_16 : decode cX7_motif 16 = .ok (.aload_n 0, 1) := by decide +kernel
theorem dX7_motif_17 : decode cX7_motif 17 = .ok (.getfield 10, 3) := by decide +kernel
theorem dX7_motif_20 : decode cX7_motif 20 = .ok (.getfield 124, 3) := by decide +kernel
theorem dX7_motif_23 : decode cX7_motif 23 = .ok (.iload_n 1, 1) := by decide +kernel
theorem dX7_motif_24 : decode cX7_motif 24 = .ok (.laload, 1) := by decide +kernel
theorem dX7_motif_25 : decode cX7_motif 25 = .ok (.invokestatic 71, 3) := by decide +kernel
theorem dX7_motif_28 : decode cX7_motif 28 = .ok (.if_icmp .lt 5, 3) := by decide +kernel
theorem dX7_motif_31 : decode cX7_motif 31 = .ok (.iconst (-1), 1) := by decide +kernel
theorem dX7_motif_32 : decode cX7_motif 32 = .ok (.ireturn, 1) := by decide +kernel
theorem dX7_motif_33 : decode cX7_motif 33 = .ok (.aload_n 0, 1) := by decide +kernel
theorem dX7_motif_34 : decode cX7_motif 34 = .ok (.getfield 10, 3) := by decide +kernel
theorem dX7_motif_37 : decode cX7_motif 37 = .ok (.getfield 124, 3) := by decide +kernel
theorem dX7_motif_40 : decode cX7_motif 40 = .ok (.iload_n 1, 1) := by decide +kernel
theorem dX7_motif_41 : decode cX7_motif 41 = .ok (.laload, 1) := by decide +kernel
theorem dX7_motif_42 : decode cX7_motif 42 = .ok (.iload_n 2, 1) := by decide +kernel
theorem dX7_motif_43 : decode cX7_motif 43 = .ok (.invokestatic 142, 3) := by decide +kernel
theorem dX7_motif_46 : decode cX7_motif 46 = .ok (.ireturn, 1) := by decide +kernel
theorem dX7_costAt_0 : decode cX7_costAt 0 = .ok (.iload_n 1, 1) := by decide +kernel
theorem dX7_costAt_1 : decode cX7_costAt 1 = .ok (.ifCond .lt 8, 3) := by decide +kernel
theorem dX7_costAt_4 : decode cX7_costAt 4 = .ok (.iload_n 1, 1) := by decide +kernel
theorem dX7_costAt_5 : decode cX7_costAt 5 = .ok (.iconst 4, 1) := by decide +kernel
theorem dX7_costAt_6 : decode cX7_costAt 6 = .ok (.if_icmp .lt 6, 3) := by decide +kernel
theorem dX7_costAt_9 : decode cX7_costAt 9 = .ok (.ldc 70, 2) := by decide +kernel
theorem dX7_costAt_11 : decode cX7_costAt 11 = .ok (.ireturn, 1) := by decide +kernel
theorem dX7_costAt_12 : decode cX7_costAt 12 = .ok (.aload_n 0, 1) := by decide +kernel
theorem dX7_costAt_13 : decode cX7_costAt 13 = .ok (.getfield 10, 3) := by decide +kernel
theorem dX7_costAt_16 : decode cX7_costAt 16 = .ok (.getfield 146, 3) := by decide +kernel
theorem dX7_costAt_19 : decode cX7_costAt 19 = .ok (.iload_n 1, 1) := by decide +kernel
theorem dX7_costAt_20 : decode cX7_costAt 20 = .ok (.iaload, 1) := by decide +kernel
theorem dX7_costAt_21 : decode cX7_costAt 21 = .ok (.ireturn, 1) := by decide +kernel
theorem dX7_pair_0 : decode cX7_pair 0 = .ok (.aload_n 0, 1) := by decide +kernel
theorem dX7_pair_1 : decode cX7_pair 1 = .ok (.iload_n 1, 1) := by decide +kernel
theorem dX7_pair_2 : decode cX7_pair 2 = .ok (.invokevirtual 119, 3) := by decide +kernel
theorem dX7_pair_5 : decode cX7_pair 5 = .ok (.ifCond .eq 11, 3) := by decide +kernel
theorem dX7_pair_8 : decode cX7_pair 8 = .ok (.aload_n 0, 1) := by decide +kernel
theorem dX7_pair_9 : decode cX7_pair 9 = .ok (.iload_n 2, 1) := by decide +kernel
theorem dX7_pair_10 : decode cX7_pair 10 = .ok (.invokevirtual 119, 3) := by decide +kernel
theorem dX7_pair_13 : decode cX7_pair 13 = .ok (.ifCond .ne 6, 3) := by decide +kernel
theorem dX7_pair_16 : decode cX7_pair 16 = .ok (.ldc 123, 2) := by decide +kernel
theorem dX7_pair_18 : decode cX7_pair 18 = .ok (.ireturn, 1) := by decide +kernel
theorem dX7_pair_19 : decode cX7_pair 19 = .ok (.iload_n 3, 1) := by decide +kernel
theorem dX7_pair_20 : decode cX7_pair 20 = .ok (.ifCond .lt 8, 3) := by decide +kernel
theorem dX7_pair_23 : decode cX7_pair 23 = .ok (.iload_n 3, 1) := by decide +kernel
theorem dX7_pair_24 : decode cX7_pair 24 = .ok (.iconst 3, 1) := by decide +kernel
theorem dX7_pair_25 : decode cX7_pair 25 = .ok (.if_icmp .le 6, 3) := by decide +kernel
theorem dX7_pair_28 : decode cX7_pair 28 = .ok (.ldc 70, 2) := by decide +kernel
theorem dX7_pair_30 : decode cX7_pair 30 = .ok (.ireturn, 1) := by decide +kernel
theorem dX7_pair_31 : decode cX7_pair 31 = .ok (.aload_n 0, 1) := by decide +kernel
theorem dX7_pair_32 : decode cX7_pair 32 = .ok (.getfield 33, 3) := by decide +kernel
theorem dX7_pair_35 : decode cX7_pair 35 = .ok (.aload_n 0, 1) := by decide +kernel
theorem dX7_pair_36 : decode cX7_pair 36 = .ok (.getfield 10, 3) := by decide +kernel
theorem dX7_pair_39 : decode cX7_pair 39 = .ok (.getfield 124, 3) := by decide +kernel
theorem dX7_pair_42 : decode cX7_pair 42 = .ok (.iload_n 1, 1) := by decide +kernel
theorem dX7_pair_43 : decode cX7_pair 43 = .ok (.laload, 1) := by decide +kernel
theorem dX7_pair_44 : decode cX7_pair 44 = .ok (.aload_n 0, 1) := by decide +kernel
theorem dX7_pair_45 : decode cX7_pair 45 = .ok (.getfield 10, 3) := by decide +kernel
theorem dX7_pair_48 : decode cX7_pair 48 = .ok (.getfield 124, 3) := by decide +kernel
theorem dX7_pair_51 : decode cX7_pair 51 = .ok (.iload_n 2, 1) := by decide +kernel
theorem dX7_pair_52 : decode cX7_pair 52 = .ok (.laload, 1) := by decide +kernel
theorem dX7_pair_53 : decode cX7_pair 53 = .ok (.aload_n 0, 1) := by decide +kernel
theorem dX7_pair_54 : decode cX7_pair 54 = .ok (.getfield 10, 3) := by decide +kernel
theorem dX7_pair_57 : decode cX7_pair 57 = .ok (.getfield 146, 3) := by decide +kernel
theorem dX7_pair_60 : decode cX7_pair 60 = .ok (.invokevirtual 149, 3) := by decide +kernel
theorem dX7_pair_63 : decode cX7_pair 63 = .ok (.iload_n 3, 1) := by decide +kernel
theorem dX7_pair_64 : decode cX7_pair 64 = .ok (.tableswitch 52 0 2 #[28, 36, 44], 28) := by decide +kernel
theorem dX7_pair_92 : decode cX7_pair 92 = .ok (.aload_n 0, 1) := by decide +kernel
theorem dX7_pair_93 : decode cX7_pair 93 = .ok (.getfield 33, 3) := by decide +kernel
theorem dX7_pair_96 : decode cX7_pair 96 = .ok (.invokevirtual 153, 3) := by decide +kernel
theorem dX7_pair_99 : decode cX7_pair 99 = .ok (.ireturn, 1) := by decide +kernel
theorem dX7_pair_100 : decode cX7_pair 100 = .ok (.aload_n 0, 1) := by decide +kernel
theorem dX7_pair_101 : decode cX7_pair 101 = .ok (.getfield 33, 3) := by decide +kernel
theorem dX7_pair_104 : decode cX7_pair 104 = .ok (.invokevirtual 156, 3) := by decide +kernel
theorem dX7_pair_107 : decode cX7_pair 107 = .ok (.ireturn, 1) := by decide +kernel
theorem dX7_pair_108 : decode cX7_pair 108 = .ok (.aload_n 0, 1) := by decide +kernel
theorem dX7_pair_109 : decode cX7_pair 109 = .ok (.getfield 33, 3) := by decide +kernel
theorem dX7_pair_112 : decode cX7_pair 112 = .ok (.invokevirtual 159, 3) := by decide +kernel
theorem dX7_pair_115 : decode cX7_pair 115 = .ok (.ireturn, 1) := by decide +kernel
theorem dX7_pair_116 : decode cX7_pair 116 = .ok (.aload_n 0, 1) := by decide +kernel
theorem dX7_pair_117 : decode cX7_pair 117 = .ok (.getfield 33, 3) := by decide +kernel
theorem dX7_pair_120 : decode cX7_pair 120 = .ok (.invokevirtual 162, 3) := by decide +kernel
theorem dX7_pair_123 : decode cX7_pair 123 = .ok (.ireturn, 1) := by decide +kernel
theorem dX7_step_0 : decode cX7_step 0 = .ok (.aload_n 0, 1) := by decide +kernel
theorem dX7_step_1 : decode cX7_step 1 = .ok (.iload_n 1, 1) := by decide +kernel
theorem dX7_step_2 : decode cX7_step 2 = .ok (.invokevirtual 119, 3) := by decide +kernel
theorem dX7_step_5 : decode cX7_step 5 = .ok (.ifCond .eq 11, 3) := by decide +kernel
theorem dX7_step_8 : decode cX7_step 8 = .ok (.aload_n 0, 1) := by decide +kernel
theorem dX7_step_9 : decode cX7_step 9 = .ok (.iload_n 2, 1) := by decide +kernel
theorem dX7_step_10 : decode cX7_step 10 = .ok (.invokevirtual 119, 3) := by decide +kernel
theorem dX7_step_13 : decode cX7_step 13 = .ok (.ifCond .ne 6, 3) := by decide +kernel
theorem dX7_step_16 : decode cX7_step 16 = .ok (.ldc 123, 2) := by decide +kernel
theorem dX7_step_18 : decode cX7_step 18 = .ok (.ireturn, 1) := by decide +kernel
theorem dX7_step_19 : decode cX7_step 19 = .ok (.aload_n 0, 1) := by decide +kernel
theorem dX7_step_20 : decode cX7_step 20 = .ok (.getfield 33, 3) := by decide +kernel
theorem dX7_step_23 : decode cX7_step 23 = .ok (.aload_n 0, 1) := by decide +kernel
theorem dX7_step_24 : decode cX7_step 24 = .ok (.getfield 10, 3) := by decide +kernel
theorem dX7_step_27 : decode cX7_step 27 = .ok (.getfield 124, 3) := by decide +kernel
theorem dX7_step_30 : decode cX7_step 30 = .ok (.iload_n 1, 1) := by decide +kernel
theorem dX7_step_31 : decode cX7_step 31 = .ok (.laload, 1) := by decide +kernel
theorem dX7_step_32 : decode cX7_step 32 = .ok (.aload_n 0, 1) := by decide +kernel
theorem dX7_step_33 : decode cX7_step 33 = .ok (.getfield 10, 3) := by decide +kernel
theorem dX7_step_36 : decode cX7_step 36 = .ok (.getfield 124, 3) := by decide +kernel
theorem dX7_step_39 : decode cX7_step 39 = .ok (.iload_n 2, 1) := by decide +kernel
theorem dX7_step_40 : decode cX7_step 40 = .ok (.laload, 1) := by decide +kernel
theorem dX7_step_41 : decode cX7_step 41 = .ok (.aload_n 0, 1) := by decide +kernel
theorem dX7_step_42 : decode cX7_step 42 = .ok (.getfield 10, 3) := by decide +kernel
theorem dX7_step_45 : decode cX7_step 45 = .ok (.getfield 146, 3) := by decide +kernel
theorem dX7_step_48 : decode cX7_step 48 = .ok (.invokevirtual 149, 3) := by decide +kernel
theorem dX7_step_51 : decode cX7_step 51 = .ok (.aload_n 0, 1) := by decide +kernel
theorem dX7_step_52 : decode cX7_step 52 = .ok (.getfield 33, 3) := by decide +kernel
theorem dX7_step_55 : decode cX7_step 55 = .ok (.iload_n 3, 1) := by decide +kernel
theorem dX7_step_56 : decode cX7_step 56 = .ok (.invokevirtual 165, 3) := by decide +kernel
theorem dX7_step_59 : decode cX7_step 59 = .ok (.ireturn, 1) := by decide +kernel
theorem dX7_node_0 : decode cX7_node 0 = .ok (.iload_n 1, 1) := by decide +kernel
theorem dX7_node_1 : decode cX7_node 1 = .ok (.ifCond .lt 11, 3) := by decide +kernel
theorem dX7_node_4 : decode cX7_node 4 = .ok (.iload_n 1, 1) := by decide +kernel
theorem dX7_node_5 : decode cX7_node 5 = .ok (.aload_n 0, 1) := by decide +kernel
theorem dX7_node_6 : decode cX7_node 6 = .ok (.invokevirtual 94, 3) := by decide +kernel
theorem dX7_node_9 : decode cX7_node 9 = .ok (.if_icmp .lt 6, 3) := by decide +kernel
theorem dX7_node_12 : decode cX7_node 12 = .ok (.ldc 123, 2) := by decide +kernel
theorem dX7_node_14 : decode cX7_node 14 = .ok (.ireturn, 1) := by decide +kernel
theorem dX7_node_15 : decode cX7_node 15 = .ok (.aload_n 0, 1) := by decide +kernel
theorem dX7_node_16 : decode cX7_node 16 = .ok (.invokevirtual 111, 3) := by decide +kernel
theorem dX7_node_19 : decode cX7_node 19 = .ok (.iload_n 2, 1) := by decide +kernel
theorem dX7_node_20 : decode cX7_node 20 = .ok (.tableswitch 79 0 3 #[32, 42, 52, 62], 32) := by decide +kernel
theorem dX7_node_52 : decode cX7_node 52 = .ok (.aload_n 0, 1) := by decide +kernel
theorem dX7_node_53 : decode cX7_node 53 = .ok (.getfield 47, 3) := by decide +kernel
theorem dX7_node_56 : decode cX7_node 56 = .ok (.getfield 168, 3) := by decide +kernel
theorem dX7_node_59 : decode cX7_node 59 = .ok (.iload_n 1, 1) := by decide +kernel
theorem dX7_node_60 : decode cX7_node 60 = .ok (.iaload, 1) := by decide +kernel
theorem dX7_node_61 : decode cX7_node 61 = .ok (.ireturn, 1) := by decide +kernel
theorem dX7_node_62 : decode cX7_node 62 = .ok (.aload_n 0, 1) := by decide +kernel
theorem dX7_node_63 : decode cX7_node 63 = .ok (.getfield 47, 3) := by decide +kernel
theorem dX7_node_66 : decode cX7_node 66 = .ok (.getfield 171, 3) := by decide +kernel
theorem dX7_node_69 : decode cX7_node 69 = .ok (.iload_n 1, 1) := by decide +kernel
theorem dX7_node_70 : decode cX7_node 70 = .ok (.iaload, 1) := by decide +kernel
theorem dX7_node_71 : decode cX7_node 71 = .ok (.ireturn, 1) := by decide +kernel
theorem dX7_node_72 : decode cX7_node 72 = .ok (.aload_n 0, 1) := by decide +kernel
theorem dX7_node_73 : decode cX7_node 73 = .ok (.getfield 47, 3) := by decide +kernel
theorem dX7_node_76 : decode cX7_node 76 = .ok (.getfield 174, 3) := by decide +kernel
theorem dX7_node_79 : decode cX7_node 79 = .ok (.iload_n 1, 1) := by decide +kernel
theorem dX7_node_80 : decode cX7_node 80 = .ok (.iaload, 1) := by decide +kernel
theorem dX7_node_81 : decode cX7_node 81 = .ok (.ireturn, 1) := by decide +kernel
theorem dX7_node_82 : decode cX7_node 82 = .ok (.aload_n 0, 1) := by decide +kernel
theorem dX7_node_83 : decode cX7_node 83 = .ok (.getfield 40, 3) := by decide +kernel
theorem dX7_node_86 : decode cX7_node 86 = .ok (.aload_n 0, 1) := by decide +kernel
theorem dX7_node_87 : decode cX7_node 87 = .ok (.getfield 47, 3) := by decide +kernel
theorem dX7_node_90 : decode cX7_node 90 = .ok (.getfield 171, 3) := by decide +kernel
theorem dX7_node_93 : decode cX7_node 93 = .ok (.iload_n 1, 1) := by decide +kernel
theorem dX7_node_94 : decode cX7_node 94 = .ok (.iaload, 1) := by decide +kernel
theorem dX7_node_95 : decode cX7_node 95 = .ok (.invokevirtual 177, 3) := by decide +kernel
theorem dX7_node_98 : decode cX7_node 98 = .ok (.ireturn, 1) := by decide +kernel
theorem dX7_node_99 : decode cX7_node 99 = .ok (.ldc 70, 2) := by decide +kernel
theorem dX7_node_101 : decode cX7_node 101 = .ok (.ireturn, 1) := by decide +kernel
theorem dX7_types_0 : decode cX7_types 0 = .ok (.iload_n 2, 1) := by decide +kernel
theorem dX7_types_1 : decode cX7_types 1 = .ok (.ifCond .lt 14, 3) := by decide +kernel
theorem dX7_types_4 : decode cX7_types 4 = .ok (.iload_n 2, 1) := by decide +kernel
theorem dX7_types_5 : decode cX7_types 5 = .ok (.aload_n 0, 1) := by decide +kernel
theorem dX7_types_6 : decode cX7_types 6 = .ok (.getfield 10, 3) := by decide +kernel
theorem dX7_types_9 : decode cX7_types 9 = .ok (.getfield 80, 3) := by decide +kernel
theorem dX7_types_12 : decode cX7_types 12 = .ok (.if_icmp .le 6, 3) := by decide +kernel
theorem dX7_types_15 : decode cX7_types 15 = .ok (.ldc 123, 2) := by decide +kernel
theorem dX7_types_17 : decode cX7_types 17 = .ok (.ireturn, 1) := by decide +kernel
theorem dX7_types_18 : decode cX7_types 18 = .ok (.iload_n 1, 1) := by decide +kernel
theorem dX7_types_19 : decode cX7_types 19 = .ok (.ifCond .lt 10, 3) := by decide +kernel
theorem dX7_types_22 : decode cX7_types 22 = .ok (.iload_n 1, 1) := by decide +kernel
theorem dX7_types_23 : decode cX7_types 23 = .ok (.sipush 999, 3) := by decide +kernel
theorem dX7_types_26 : decode cX7_types 26 = .ok (.if_icmp .le 6, 3) := by decide +kernel
theorem dX7_types_29 : decode cX7_types 29 = .ok (.ldc 70, 2) := by decide +kernel
theorem dX7_types_31 : decode cX7_types 31 = .ok (.ireturn, 1) := by decide +kernel
theorem dX7_types_32 : decode cX7_types 32 = .ok (.aload_n 0, 1) := by decide +kernel
theorem dX7_types_33 : decode cX7_types 33 = .ok (.invokevirtual 111, 3) := by decide +kernel
theorem dX7_types_36 : decode cX7_types 36 = .ok (.iload_n 2, 1) := by decide +kernel
theorem dX7_types_37 : decode cX7_types 37 = .ok (.ifCond .ne 20, 3) := by decide +kernel
theorem dX7_types_40 : decode cX7_types 40 = .ok (.aload_n 0, 1) := by decide +kernel
theorem dX7_types_41 : decode cX7_types 41 = .ok (.getfield 10, 3) := by decide +kernel
theorem dX7_types_44 : decode cX7_types 44 = .ok (.getfield 80, 3) := by decide +kernel
theorem dX7_types_47 : decode cX7_types 47 = .ok (.aload_n 0, 1) := by decide +kernel
theorem dX7_types_48 : decode cX7_types 48 = .ok (.getfield 47, 3) := by decide +kernel
theorem dX7_types_51 : decode cX7_types 51 = .ok (.iload_n 1, 1) := by decide +kernel
theorem dX7_types_52 : decode cX7_types 52 = .ok (.invokevirtual 180, 3) := by decide +kernel
theorem dX7_types_55 : decode cX7_types 55 = .ok (.isub, 1) := by decide +kernel
theorem dX7_types_56 : decode cX7_types 56 = .ok (.ireturn, 1) := by decide +kernel
theorem dX7_types_57 : decode cX7_types 57 = .ok (.aload_n 0, 1) := by decide +kernel
theorem dX7_types_58 : decode cX7_types 58 = .ok (.getfield 47, 3) := by decide +kernel
theorem dX7_types_61 : decode cX7_types 61 = .ok (.iload_n 2, 1) := by decide +kernel
theorem dX7_types_62 : decode cX7_types 62 = .ok (.iconst 1, 1) := by decide +kernel
theorem dX7_types_63 : decode cX7_types 63 = .ok (.isub, 1) := by decide +kernel
theorem dX7_types_64 : decode cX7_types 64 = .ok (.iload_n 1, 1) := by decide +kernel
theorem dX7_types_65 : decode cX7_types 65 = .ok (.invokevirtual 183, 3) := by decide +kernel
theorem dX7_types_68 : decode cX7_types 68 = .ok (.ireturn, 1) := by decide +kernel
theorem dX7_middle_0 : decode cX7_middle 0 = .ok (.aload_n 0, 1) := by decide +kernel
theorem dX7_middle_1 : decode cX7_middle 1 = .ok (.iload_n 1, 1) := by decide +kernel
theorem dX7_middle_2 : decode cX7_middle 2 = .ok (.invokevirtual 187, 3) := by decide +kernel
theorem dX7_middle_5 : decode cX7_middle 5 = .ok (.ifCond .ne 6, 3) := by decide +kernel
theorem dX7_middle_8 : decode cX7_middle 8 = .ok (.ldc 123, 2) := by decide +kernel
theorem dX7_middle_10 : decode cX7_middle 10 = .ok (.ireturn, 1) := by decide +kernel
theorem dX7_middle_11 : decode cX7_middle 11 = .ok (.aload_n 0, 1) := by decide +kernel
theorem dX7_middle_12 : decode cX7_middle 12 = .ok (.invokevirtual 111, 3) := by decide +kernel
theorem dX7_middle_15 : decode cX7_middle 15 = .ok (.aload_n 0, 1) := by decide +kernel
theorem dX7_middle_16 : decode cX7_middle 16 = .ok (.getfield 40, 3) := by decide +kernel
theorem dX7_middle_19 : decode cX7_middle 19 = .ok (.iload_n 1, 1) := by decide +kernel
theorem dX7_middle_20 : decode cX7_middle 20 = .ok (.invokevirtual 177, 3) := by decide +kernel
theorem dX7_middle_23 : decode cX7_middle 23 = .ok (.ireturn, 1) := by decide +kernel
theorem dX7_common_0 : decode cX7_common 0 = .ok (.aload_n 0, 1) := by decide +kernel
theorem dX7_common_1 : decode cX7_common 1 = .ok (.iload_n 1, 1) := by decide +kernel
theorem dX7_common_2 : decode cX7_common 2 = .ok (.invokevirtual 187, 3) := by decide +kernel
theorem dX7_common_5 : decode cX7_common 5 = .ok (.ifCond .ne 6, 3) := by decide +kernel
theorem dX7_common_8 : decode cX7_common 8 = .ok (.ldc 123, 2) := by decide +kernel
theorem dX7_common_10 : decode cX7_common 10 = .ok (.ireturn, 1) := by decide +kernel
theorem dX7_common_11 : decode cX7_common 11 = .ok (.aload_n 0, 1) := by decide +kernel
theorem dX7_common_12 : decode cX7_common 12 = .ok (.getfield 10, 3) := by decide +kernel
theorem dX7_common_15 : decode cX7_common 15 = .ok (.iload_n 1, 1) := by decide +kernel
theorem dX7_common_16 : decode cX7_common 16 = .ok (.invokevirtual 104, 3) := by decide +kernel
theorem dX7_common_19 : decode cX7_common 19 = .ok (.ireturn, 1) := by decide +kernel
theorem dX7_wandered_0 : decode cX7_wandered 0 = .ok (.iload_n 1, 1) := by decide +kernel
theorem dX7_wandered_1 : decode cX7_wandered 1 = .ok (.invokestatic 190, 3) := by decide +kernel
theorem dX7_wandered_4 : decode cX7_wandered 4 = .ok (.ifCond .ne 6, 3) := by decide +kernel
theorem dX7_wandered_7 : decode cX7_wandered 7 = .ok (.ldc 123, 2) := by decide +kernel
theorem dX7_wandered_9 : decode cX7_wandered 9 = .ok (.ireturn, 1) := by decide +kernel
theorem dX7_wandered_10 : decode cX7_wandered 10 = .ok (.iload_n 2, 1) := by decide +kernel
theorem dX7_wandered_11 : decode cX7_wandered 11 = .ok (.lookupswitch 52 #[(0, 25), (1, 40)], 25) := by decide +kernel
theorem dX7_wandered_36 : decode cX7_wandered 36 = .ok (.iload_n 1, 1) := by decide +kernel
theorem dX7_wandered_37 : decode cX7_wandered 37 = .ok (.aload_n 0, 1) := by decide +kernel
theorem dX7_wandered_38 : decode cX7_wandered 38 = .ok (.getfield 10, 3) := by decide +kernel
theorem dX7_wandered_41 : decode cX7_wandered 41 = .ok (.getfield 132, 3) := by decide +kernel
theorem dX7_wandered_44 : decode cX7_wandered 44 = .ok (.invokestatic 135, 3) := by decide +kernel
theorem dX7_wandered_47 : decode cX7_wandered 47 = .ok (.invokestatic 139, 3) := by decide +kernel
theorem dX7_wandered_50 : decode cX7_wandered 50 = .ok (.ireturn, 1) := by decide +kernel
theorem dX7_wandered_51 : decode cX7_wandered 51 = .ok (.iload_n 1, 1) := by decide +kernel
theorem dX7_wandered_52 : decode cX7_wandered 52 = .ok (.aload_n 0, 1) := by decide +kernel
theorem dX7_wandered_53 : decode cX7_wandered 53 = .ok (.getfield 10, 3) := by decide +kernel
theorem dX7_wandered_56 : decode cX7_wandered 56 = .ok (.getfield 132, 3) := by decide +kernel
theorem dX7_wandered_59 : decode cX7_wandered 59 = .ok (.invokestatic 135, 3) := by decide +kernel
theorem dX7_wandered_62 : decode cX7_wandered 62 = .ok (.ireturn, 1) := by decide +kernel
theorem dX7_wandered_63 : decode cX7_wandered 63 = .ok (.ldc 70, 2) := by decide +kernel
theorem dX7_wandered_65 : decode cX7_wandered 65 = .ok (.ireturn, 1) := by decide +kernel
theorem dX7_take_0 : decode cX7_take 0 = .ok (.aload_n 0, 1) := by decide +kernel
theorem dX7_take_1 : decode cX7_take 1 = .ok (.iload_n 1, 1) := by decide +kernel
theorem dX7_take_2 : decode cX7_take 2 = .ok (.invokevirtual 119, 3) := by decide +kernel
theorem dX7_take_5 : decode cX7_take 5 = .ok (.ifCond .ne 6, 3) := by decide +kernel
theorem dX7_take_8 : decode cX7_take 8 = .ok (.ldc 123, 2) := by decide +kernel
theorem dX7_take_10 : decode cX7_take 10 = .ok (.ireturn, 1) := by decide +kernel
theorem dX7_take_11 : decode cX7_take 11 = .ok (.aload_n 0, 1) := by decide +kernel
theorem dX7_take_12 : decode cX7_take 12 = .ok (.invokevirtual 84, 3) := by decide +kernel
theorem dX7_take_15 : decode cX7_take 15 = .ok (.aload_n 0, 1) := by decide +kernel
theorem dX7_take_16 : decode cX7_take 16 = .ok (.getfield 10, 3) := by decide +kernel
theorem dX7_take_19 : decode cX7_take 19 = .ok (.iload_n 1, 1) := by decide +kernel
theorem dX7_take_20 : decode cX7_take 20 = .ok (.invokevirtual 193, 3) := by decide +kernel
theorem dX7_take_23 : decode cX7_take 23 = .ok (.aload_n 0, 1) := by decide +kernel
theorem dX7_take_24 : decode cX7_take 24 = .ok (.getfield 10, 3) := by decide +kernel
theorem dX7_take_27 : decode cX7_take 27 = .ok (.getfield 80, 3) := by decide +kernel
theorem dX7_take_30 : decode cX7_take 30 = .ok (.ireturn, 1) := by decide +kernel
theorem dX7_cost_0 : decode cX7_cost 0 = .ok (.iload_n 1, 1) := by decide +kernel
theorem dX7_cost_1 : decode cX7_cost 1 = .ok (.ifCond .lt 8, 3) := by decide +kernel
theorem dX7_cost_4 : decode cX7_cost 4 = .ok (.iload_n 1, 1) := by decide +kernel
theorem dX7_cost_5 : decode cX7_cost 5 = .ok (.iconst 4, 1) := by decide +kernel
theorem dX7_cost_6 : decode cX7_cost 6 = .ok (.if_icmp .lt 6, 3) := by decide +kernel
theorem dX7_cost_9 : decode cX7_cost 9 = .ok (.ldc 70, 2) := by decide +kernel
theorem dX7_cost_11 : decode cX7_cost 11 = .ok (.ireturn, 1) := by decide +kernel
theorem dX7_cost_12 : decode cX7_cost 12 = .ok (.iload_n 1, 1) := by decide +kernel
theorem dX7_cost_13 : decode cX7_cost 13 = .ok (.iconst 2, 1) := by decide +kernel
theorem dX7_cost_14 : decode cX7_cost 14 = .ok (.if_icmp .ne 7, 3) := by decide +kernel
theorem dX7_cost_17 : decode cX7_cost 17 = .ok (.iconst 0, 1) := by decide +kernel
theorem dX7_cost_18 : decode cX7_cost 18 = .ok (.goto 4, 3) := by decide +kernel
theorem dX7_cost_21 : decode cX7_cost 21 = .ok (.iconst 1, 1) := by decide +kernel
theorem dX7_cost_22 : decode cX7_cost 22 = .ok (.istore_n 3, 1) := by decide +kernel
theorem dX7_cost_23 : decode cX7_cost 23 = .ok (.iload_n 2, 1) := by decide +kernel
theorem dX7_cost_24 : decode cX7_cost 24 = .ok (.iload_n 3, 1) := by decide +kernel
theorem dX7_cost_25 : decode cX7_cost 25 = .ok (.if_icmp .lt 9, 3) := by decide +kernel
theorem dX7_cost_28 : decode cX7_cost 28 = .ok (.iload_n 2, 1) := by decide +kernel
theorem dX7_cost_29 : decode cX7_cost 29 = .ok (.bipush 9, 2) := by decide +kernel
theorem dX7_cost_31 : decode cX7_cost 31 = .ok (.if_icmp .le 6, 3) := by decide +kernel
theorem dX7_cost_34 : decode cX7_cost 34 = .ok (.ldc 70, 2) := by decide +kernel
theorem dX7_cost_36 : decode cX7_cost 36 = .ok (.ireturn, 1) := by decide +kernel
theorem dX7_cost_37 : decode cX7_cost 37 = .ok (.aload_n 0, 1) := by decide +kernel
theorem dX7_cost_38 : decode cX7_cost 38 = .ok (.invokevirtual 84, 3) := by decide +kernel
theorem dX7_cost_41 : decode cX7_cost 41 = .ok (.aload_n 0, 1) := by decide +kernel
theorem dX7_cost_42 : decode cX7_cost 42 = .ok (.getfield 10, 3) := by decide +kernel
theorem dX7_cost_45 : decode cX7_cost 45 = .ok (.getfield 146, 3) := by decide +kernel
theorem dX7_cost_48 : decode cX7_cost 48 = .ok (.iload_n 1, 1) := by decide +kernel
theorem dX7_cost_49 : decode cX7_cost 49 = .ok (.iaload, 1) := by decide +kernel
theorem dX7_cost_50 : decode cX7_cost 50 = .ok (.istore 4, 2) := by decide +kernel
theorem dX7_cost_52 : decode cX7_cost 52 = .ok (.aload_n 0, 1) := by decide +kernel
theorem dX7_cost_53 : decode cX7_cost 53 = .ok (.getfield 10, 3) := by decide +kernel
theorem dX7_cost_56 : decode cX7_cost 56 = .ok (.getfield 146, 3) := by decide +kernel
theorem dX7_cost_59 : decode cX7_cost 59 = .ok (.iload_n 1, 1) := by decide +kernel
theorem dX7_cost_60 : decode cX7_cost 60 = .ok (.iload_n 2, 1) := by decide +kernel
theorem dX7_cost_61 : decode cX7_cost 61 = .ok (.iastore, 1) := by decide +kernel
theorem dX7_cost_62 : decode cX7_cost 62 = .ok (.iload 4, 2) := by decide +kernel
theorem dX7_cost_64 : decode cX7_cost 64 = .ok (.ireturn, 1) := by decide +kernel
theorem dX7_kind_0 : decode cX7_kind 0 = .ok (.iload_n 1, 1) := by decide +kernel
theorem dX7_kind_1 : decode cX7_kind 1 = .ok (.ifCond .lt 8, 3) := by decide +kernel
theorem dX7_kind_4 : decode cX7_kind 4 = .ok (.iload_n 1, 1) := by decide +kernel
theorem dX7_kind_5 : decode cX7_kind 5 = .ok (.iconst 2, 1) := by decide +kernel
theorem dX7_kind_6 : decode cX7_kind 6 = .ok (.if_icmp .le 6, 3) := by decide +kernel
theorem dX7_kind_9 : decode cX7_kind 9 = .ok (.ldc 70, 2) := by decide +kernel
theorem dX7_kind_11 : decode cX7_kind 11 = .ok (.ireturn, 1) := by decide +kernel
theorem dX7_kind_12 : decode cX7_kind 12 = .ok (.aload_n 0, 1) := by decide +kernel
theorem dX7_kind_13 : decode cX7_kind 13 = .ok (.invokevirtual 84, 3) := by decide +kernel
theorem dX7_kind_16 : decode cX7_kind 16 = .ok (.aload_n 0, 1) := by decide +kernel
theorem dX7_kind_17 : decode cX7_kind 17 = .ok (.getfield 10, 3) := by decide +kernel
theorem dX7_kind_20 : decode cX7_kind 20 = .ok (.getfield 91, 3) := by decide +kernel
theorem dX7_kind_23 : decode cX7_kind 23 = .ok (.istore_n 2, 1) := by decide +kernel
theorem dX7_kind_24 : decode cX7_kind 24 = .ok (.aload_n 0, 1) := by decide +kernel
theorem dX7_kind_25 : decode cX7_kind 25 = .ok (.getfield 10, 3) := by decide +kernel
theorem dX7_kind_28 : decode cX7_kind 28 = .ok (.iload_n 1, 1) := by decide +kernel
theorem dX7_kind_29 : decode cX7_kind 29 = .ok (.putfield 91, 3) := by decide +kernel
theorem dX7_kind_32 : decode cX7_kind 32 = .ok (.iload_n 2, 1) := by decide +kernel
theorem dX7_kind_33 : decode cX7_kind 33 = .ok (.ireturn, 1) := by decide +kernel
theorem dX7_road_0 : decode cX7_road 0 = .ok (.iload_n 1, 1) := by decide +kernel
theorem dX7_road_1 : decode cX7_road 1 = .ok (.invokestatic 197, 3) := by decide +kernel
theorem dX7_road_4 : decode cX7_road 4 = .ok (.ifCond .eq 15, 3) := by decide +kernel
theorem dX7_road_7 : decode cX7_road 7 = .ok (.iload_n 2, 1) := by decide +kernel
theorem dX7_road_8 : decode cX7_road 8 = .ok (.invokestatic 197, 3) := by decide +kernel
theorem dX7_road_11 : decode cX7_road 11 = .ok (.ifCond .eq 8, 3) := by decide +kernel
theorem dX7_road_14 : decode cX7_road 14 = .ok (.iload_n 1, 1) := by decide +kernel
theorem dX7_road_15 : decode cX7_road 15 = .ok (.iload_n 2, 1) := by decide +kernel
theorem dX7_road_16 : decode cX7_road 16 = .ok (.if_icmp .ne 6, 3) := by decide +kernel
theorem dX7_road_19 : decode cX7_road 19 = .ok (.ldc 123, 2) := by decide +kernel
theorem dX7_road_21 : decode cX7_road 21 = .ok (.ireturn, 1) := by decide +kernel
theorem dX7_road_22 : decode cX7_road 22 = .ok (.aload_n 0, 1) := by decide +kernel
theorem dX7_road_23 : decode cX7_road 23 = .ok (.invokevirtual 84, 3) := by decide +kernel
theorem dX7_road_26 : decode cX7_road 26 = .ok (.aload_n 0, 1) := by decide +kernel
theorem dX7_road_27 : decode cX7_road 27 = .ok (.getfield 10, 3) := by decide +kernel
theorem dX7_road_30 : decode cX7_road 30 = .ok (.iload_n 1, 1) := by decide +kernel
theorem dX7_road_31 : decode cX7_road 31 = .ok (.iload_n 2, 1) := by decide +kernel
theorem dX7_road_32 : decode cX7_road 32 = .ok (.iload_n 3, 1) := by decide +kernel
theorem dX7_road_33 : decode cX7_road 33 = .ok (.invokevirtual 200, 3) := by decide +kernel
theorem dX7_road_36 : decode cX7_road 36 = .ok (.aload_n 0, 1) := by decide +kernel
theorem dX7_road_37 : decode cX7_road 37 = .ok (.getfield 10, 3) := by decide +kernel
theorem dX7_road_40 : decode cX7_road 40 = .ok (.invokevirtual 204, 3) := by decide +kernel
theorem dX7_road_43 : decode cX7_road 43 = .ok (.ireturn, 1) := by decide +kernel
theorem dX7_at_0 : decode cX7_at 0 = .ok (.aload_n 0, 1) := by decide +kernel
theorem dX7_at_1 : decode cX7_at 1 = .ok (.iload_n 1, 1) := by decide +kernel
theorem dX7_at_2 : decode cX7_at 2 = .ok (.invokevirtual 119, 3) := by decide +kernel
theorem dX7_at_5 : decode cX7_at 5 = .ok (.ifCond .ne 6, 3) := by decide +kernel
theorem dX7_at_8 : decode cX7_at 8 = .ok (.ldc 123, 2) := by decide +kernel
theorem dX7_at_10 : decode cX7_at 10 = .ok (.ireturn, 1) := by decide +kernel
theorem dX7_at_11 : decode cX7_at 11 = .ok (.iload_n 2, 1) := by decide +kernel
theorem dX7_at_12 : decode cX7_at 12 = .ok (.invokestatic 190, 3) := by decide +kernel
theorem dX7_at_15 : decode cX7_at 15 = .ok (.ifCond .ne 6, 3) := by decide +kernel
theorem dX7_at_18 : decode cX7_at 18 = .ok (.ldc 70, 2) := by decide +kernel
theorem dX7_at_20 : decode cX7_at 20 = .ok (.ireturn, 1) := by decide +kernel
theorem dX7_at_21 : decode cX7_at 21 = .ok (.aload_n 0, 1) := by decide +kernel
theorem dX7_at_22 : decode cX7_at 22 = .ok (.invokevirtual 84, 3) := by decide +kernel
theorem dX7_at_25 : decode cX7_at 25 = .ok (.aload_n 0, 1) := by decide +kernel
theorem dX7_at_26 : decode cX7_at 26 = .ok (.getfield 10, 3) := by decide +kernel
theorem dX7_at_29 : decode cX7_at 29 = .ok (.getfield 128, 3) := by decide +kernel
theorem dX7_at_32 : decode cX7_at 32 = .ok (.iload_n 1, 1) := by decide +kernel
theorem dX7_at_33 : decode cX7_at 33 = .ok (.iload_n 2, 1) := by decide +kernel
theorem dX7_at_34 : decode cX7_at 34 = .ok (.iastore, 1) := by decide +kernel
theorem dX7_at_35 : decode cX7_at 35 = .ok (.iload_n 2, 1) := by decide +kernel
theorem dX7_at_36 : decode cX7_at 36 = .ok (.aload_n 0, 1) := by decide +kernel
theorem dX7_at_37 : decode cX7_at 37 = .ok (.getfield 10, 3) := by decide +kernel
theorem dX7_at_40 : decode cX7_at 40 = .ok (.getfield 132, 3) := by decide +kernel
theorem dX7_at_43 : decode cX7_at 43 = .ok (.invokestatic 135, 3) := by decide +kernel
theorem dX7_at_46 : decode cX7_at 46 = .ok (.invokestatic 139, 3) := by decide +kernel
theorem dX7_at_49 : decode cX7_at 49 = .ok (.ireturn, 1) := by decide +kernel
theorem dX7_drift_0 : decode cX7_drift 0 = .ok (.iload_n 1, 1) := by decide +kernel
theorem dX7_drift_1 : decode cX7_drift 1 = .ok (.iconst 1, 1) := by decide +kernel
theorem dX7_drift_2 : decode cX7_drift 2 = .ok (.if_icmp .lt 9, 3) := by decide +kernel
theorem dX7_drift_5 : decode cX7_drift 5 = .ok (.iload_n 1, 1) := by decide +kernel
theorem dX7_drift_6 : decode cX7_drift 6 = .ok (.bipush 8, 2) := by decide +kernel
theorem dX7_drift_8 : decode cX7_drift 8 = .ok (.if_icmp .le 6, 3) := by decide +kernel
theorem dX7_drift_11 : decode cX7_drift 11 = .ok (.ldc 70, 2) := by decide +kernel
theorem dX7_drift_13 : decode cX7_drift 13 = .ok (.ireturn, 1) := by decide +kernel
theorem dX7_drift_14 : decode cX7_drift 14 = .ok (.iconst 0, 1) := by decide +kernel
theorem dX7_drift_15 : decode cX7_drift 15 = .ok (.istore_n 2, 1) := by decide +kernel
theorem dX7_drift_16 : decode cX7_drift 16 = .ok (.iload_n 2, 1) := by decide +kernel
theorem dX7_drift_17 : decode cX7_drift 17 = .ok (.iload_n 1, 1) := by decide +kernel
theorem dX7_drift_18 : decode cX7_drift 18 = .ok (.if_icmp .ge 29, 3) := by decide +kernel
theorem dX7_drift_21 : decode cX7_drift 21 = .ok (.aload_n 0, 1) := by decide +kernel
theorem dX7_drift_22 : decode cX7_drift 22 = .ok (.getfield 10, 3) := by decide +kernel
theorem dX7_drift_25 : decode cX7_drift 25 = .ok (.getfield 80, 3) := by decide +kernel
theorem dX7_drift_28 : decode cX7_drift 28 = .ok (.bipush 8, 2) := by decide +kernel
theorem dX7_drift_30 : decode cX7_drift 30 = .ok (.if_icmp .ge 17, 3) := by decide +kernel
theorem dX7_drift_33 : decode cX7_drift 33 = .ok (.aload_n 0, 1) := by decide +kernel
theorem dX7_drift_34 : decode cX7_drift 34 = .ok (.invokevirtual 84, 3) := by decide +kernel
theorem dX7_drift_37 : decode cX7_drift 37 = .ok (.aload_n 0, 1) := by decide +kernel
theorem dX7_drift_38 : decode cX7_drift 38 = .ok (.invokevirtual 207, 3) := by decide +kernel
theorem dX7_drift_41 : decode cX7_drift 41 = .ok (.iinc 2 1, 3) := by decide +kernel
theorem dX7_drift_44 : decode cX7_drift 44 = .ok (.goto (-28), 3) := by decide +kernel
theorem dX7_drift_47 : decode cX7_drift 47 = .ok (.aload_n 0, 1) := by decide +kernel
theorem dX7_drift_48 : decode cX7_drift 48 = .ok (.getfield 10, 3) := by decide +kernel
theorem dX7_drift_51 : decode cX7_drift 51 = .ok (.getfield 80, 3) := by decide +kernel
theorem dX7_drift_54 : decode cX7_drift 54 = .ok (.ireturn, 1) := by decide +kernel
theorem dX7_undo_0 : decode cX7_undo 0 = .ok (.iload_n 1, 1) := by decide +kernel
theorem dX7_undo_1 : decode cX7_undo 1 = .ok (.iconst 1, 1) := by decide +kernel
theorem dX7_undo_2 : decode cX7_undo 2 = .ok (.if_icmp .lt 9, 3) := by decide +kernel
theorem dX7_undo_5 : decode cX7_undo 5 = .ok (.iload_n 1, 1) := by decide +kernel
theorem dX7_undo_6 : decode cX7_undo 6 = .ok (.bipush 16, 2) := by decide +kernel
theorem dX7_undo_8 : decode cX7_undo 8 = .ok (.if_icmp .le 6, 3) := by decide +kernel
theorem dX7_undo_11 : decode cX7_undo 11 = .ok (.ldc 70, 2) := by decide +kernel
theorem dX7_undo_13 : decode cX7_undo 13 = .ok (.ireturn, 1) := by decide +kernel
theorem dX7_undo_14 : decode cX7_undo 14 = .ok (.iload_n 1, 1) := by decide +kernel
theorem dX7_undo_15 : decode cX7_undo 15 = .ok (.aload_n 0, 1) := by decide +kernel
theorem dX7_undo_16 : decode cX7_undo 16 = .ok (.getfield 19, 3) := by decide +kernel
theorem dX7_undo_19 : decode cX7_undo 19 = .ok (.getfield 118, 3) := by decide +kernel
theorem dX7_undo_22 : decode cX7_undo 22 = .ok (.if_icmp .le 6, 3) := by decide +kernel
theorem dX7_undo_25 : decode cX7_undo 25 = .ok (.ldc 83, 2) := by decide +kernel
theorem dX7_undo_27 : decode cX7_undo 27 = .ok (.ireturn, 1) := by decide +kernel
theorem dX7_undo_28 : decode cX7_undo 28 = .ok (.aload_n 0, 1) := by decide +kernel
theorem dX7_undo_29 : decode cX7_undo 29 = .ok (.getfield 19, 3) := by decide +kernel
theorem dX7_undo_32 : decode cX7_undo 32 = .ok (.iload_n 1, 1) := by decide +kernel
theorem dX7_undo_33 : decode cX7_undo 33 = .ok (.aload_n 0, 1) := by decide +kernel
theorem dX7_undo_34 : decode cX7_undo 34 = .ok (.getfield 10, 3) := by decide +kernel
theorem dX7_undo_37 : decode cX7_undo 37 = .ok (.invokevirtual 210, 3) := by decide +kernel
theorem dX7_undo_40 : decode cX7_undo 40 = .ok (.aload_n 0, 1) := by decide +kernel
theorem dX7_undo_41 : decode cX7_undo 41 = .ok (.iconst 0, 1) := by decide +kernel
theorem dX7_undo_42 : decode cX7_undo 42 = .ok (.putfield 65, 3) := by decide +kernel
theorem dX7_undo_45 : decode cX7_undo 45 = .ok (.aload_n 0, 1) := by decide +kernel
theorem dX7_undo_46 : decode cX7_undo 46 = .ok (.getfield 10, 3) := by decide +kernel
theorem dX7_undo_49 : decode cX7_undo 49 = .ok (.getfield 80, 3) := by decide +kernel
theorem dX7_undo_52 : decode cX7_undo 52 = .ok (.ireturn, 1) := by decide +kernel
theorem dX7_write_0 : decode cX7_write 0 = .ok (.aload_n 0, 1) := by decide +kernel
theorem dX7_write_1 : decode cX7_write 1 = .ok (.iload_n 1, 1) := by decide +kernel
theorem dX7_write_2 : decode cX7_write 2 = .ok (.invokevirtual 119, 3) := by decide +kernel
theorem dX7_write_5 : decode cX7_write 5 = .ok (.ifCond .eq 11, 3) := by decide +kernel
theorem dX7_write_8 : decode cX7_write 8 = .ok (.aload_n 0, 1) := by decide +kernel
theorem dX7_write_9 : decode cX7_write 9 = .ok (.iload_n 2, 1) := by decide +kernel
theorem dX7_write_10 : decode cX7_write 10 = .ok (.invokevirtual 119, 3) := by decide +kernel
theorem dX7_write_13 : decode cX7_write 13 = .ok (.ifCond .ne 6, 3) := by decide +kernel
theorem dX7_write_16 : decode cX7_write 16 = .ok (.ldc 123, 2) := by decide +kernel
theorem dX7_write_18 : decode cX7_write 18 = .ok (.ireturn, 1) := by decide +kernel
theorem dX7_write_19 : decode cX7_write 19 = .ok (.aload_n 0, 1) := by decide +kernel
theorem dX7_write_20 : decode cX7_write 20 = .ok (.getfield 26, 3) := by decide +kernel
theorem dX7_write_23 : decode cX7_write 23 = .ok (.getfield 108, 3) := by decide +kernel
theorem dX7_write_26 : decode cX7_write 26 = .ok (.bipush 20, 2) := by decide +kernel
theorem dX7_write_28 : decode cX7_write 28 = .ok (.if_icmp .lt 6, 3) := by decide +kernel
theorem dX7_write_31 : decode cX7_write 31 = .ok (.ldc 75, 2) := by decide +kernel
theorem dX7_write_33 : decode cX7_write 33 = .ok (.ireturn, 1) := by decide +kernel
theorem dX7_write_34 : decode cX7_write 34 = .ok (.aload_n 0, 1) := by decide +kernel
theorem dX7_write_35 : decode cX7_write 35 = .ok (.getfield 26, 3) := by decide +kernel
theorem dX7_write_38 : decode cX7_write 38 = .ok (.iload_n 1, 1) := by decide +kernel
theorem dX7_write_39 : decode cX7_write 39 = .ok (.iload_n 2, 1) := by decide +kernel
theorem dX7_write_40 : decode cX7_write 40 = .ok (.iload_n 3, 1) := by decide +kernel
theorem dX7_write_41 : decode cX7_write 41 = .ok (.invokevirtual 214, 3) := by decide +kernel
theorem dX7_write_44 : decode cX7_write 44 = .ok (.aload_n 0, 1) := by decide +kernel
theorem dX7_write_45 : decode cX7_write 45 = .ok (.getfield 26, 3) := by decide +kernel
theorem dX7_write_48 : decode cX7_write 48 = .ok (.getfield 108, 3) := by decide +kernel
theorem dX7_write_51 : decode cX7_write 51 = .ok (.ireturn, 1) := by decide +kernel
theorem dX7_tear_0 : decode cX7_tear 0 = .ok (.aload_n 0, 1) := by decide +kernel
theorem dX7_tear_1 : decode cX7_tear 1 = .ok (.getfield 26, 3) := by decide +kernel
theorem dX7_tear_4 : decode cX7_tear 4 = .ok (.getfield 108, 3) := by decide +kernel
theorem dX7_tear_7 : decode cX7_tear 7 = .ok (.istore_n 1, 1) := by decide +kernel
theorem dX7_tear_8 : decode cX7_tear 8 = .ok (.aload_n 0, 1) := by decide +kernel
theorem dX7_tear_9 : decode cX7_tear 9 = .ok (.getfield 26, 3) := by decide +kernel
theorem dX7_tear_12 : decode cX7_tear 12 = .ok (.iconst 0, 1) := by decide +kernel
theorem dX7_tear_13 : decode cX7_tear 13 = .ok (.putfield 108, 3) := by decide +kernel
theorem dX7_tear_16 : decode cX7_tear 16 = .ok (.iload_n 1, 1) := by decide +kernel
theorem dX7_tear_17 : decode cX7_tear 17 = .ok (.ireturn, 1) := by decide +kernel
theorem dX7_seed_0 : decode cX7_seed 0 = .ok (.iload_n 1, 1) := by decide +kernel
theorem dX7_seed_1 : decode cX7_seed 1 = .ok (.ifCond .ge 6, 3) := by decide +kernel
theorem dX7_seed_4 : decode cX7_seed 4 = .ok (.ldc 70, 2) := by decide +kernel
theorem dX7_seed_6 : decode cX7_seed 6 = .ok (.ireturn, 1) := by decide +kernel
theorem dX7_seed_7 : decode cX7_seed 7 = .ok (.aload_n 0, 1) := by decide +kernel
theorem dX7_seed_8 : decode cX7_seed 8 = .ok (.getfield 61, 3) := by decide +kernel
theorem dX7_seed_11 : decode cX7_seed 11 = .ok (.istore_n 2, 1) := by decide +kernel
theorem dX7_seed_12 : decode cX7_seed 12 = .ok (.aload_n 0, 1) := by decide +kernel
theorem dX7_seed_13 : decode cX7_seed 13 = .ok (.iload_n 1, 1) := by decide +kernel
theorem dX7_seed_14 : decode cX7_seed 14 = .ok (.putfield 61, 3) := by decide +kernel
theorem dX7_seed_17 : decode cX7_seed 17 = .ok (.iload_n 2, 1) := by decide +kernel
theorem dX7_seed_18 : decode cX7_seed 18 = .ok (.ireturn, 1) := by decide +kernel
theorem dX7_keep_0 : decode cX7_keep 0 = .ok (.iload_n 1, 1) := by decide +kernel
theorem dX7_keep_1 : decode cX7_keep 1 = .ok (.ifCond .lt 8, 3) := by decide +kernel
theorem dX7_keep_4 : decode cX7_keep 4 = .ok (.iload_n 1, 1) := by decide +kernel
theorem dX7_keep_5 : decode cX7_keep 5 = .ok (.iconst 2, 1) := by decide +kernel
theorem dX7_keep_6 : decode cX7_keep 6 = .ok (.if_icmp .lt 6, 3) := by decide +kernel
theorem dX7_keep_9 : decode cX7_keep 9 = .ok (.ldc 123, 2) := by decide +kernel
theorem dX7_keep_11 : decode cX7_keep 11 = .ok (.ireturn, 1) := by decide +kernel
theorem dX7_keep_12 : decode cX7_keep 12 = .ok (.aload_n 0, 1) := by decide +kernel
theorem dX7_keep_13 : decode cX7_keep 13 = .ok (.getfield 53, 3) := by decide +kernel
theorem dX7_keep_16 : decode cX7_keep 16 = .ok (.iload_n 1, 1) := by decide +kernel
theorem dX7_keep_17 : decode cX7_keep 17 = .ok (.aaload, 1) := by decide +kernel
theorem dX7_keep_18 : decode cX7_keep 18 = .ok (.astore_n 2, 1) := by decide +kernel
theorem dX7_keep_19 : decode cX7_keep 19 = .ok (.aload_n 2, 1) := by decide +kernel
theorem dX7_keep_20 : decode cX7_keep 20 = .ok (.getfield 217, 3) := by decide +kernel
theorem dX7_keep_23 : decode cX7_keep 23 = .ok (.aload_n 0, 1) := by decide +kernel
theorem dX7_keep_24 : decode cX7_keep 24 = .ok (.getfield 10, 3) := by decide +kernel
theorem dX7_keep_27 : decode cX7_keep 27 = .ok (.invokevirtual 220, 3) := by decide +kernel
theorem dX7_keep_30 : decode cX7_keep 30 = .ok (.aload_n 2, 1) := by decide +kernel
theorem dX7_keep_31 : decode cX7_keep 31 = .ok (.aload_n 0, 1) := by decide +kernel
theorem dX7_keep_32 : decode cX7_keep 32 = .ok (.getfield 61, 3) := by decide +kernel
theorem dX7_keep_35 : decode cX7_keep 35 = .ok (.putfield 224, 3) := by decide +kernel
theorem dX7_keep_38 : decode cX7_keep 38 = .ok (.aload_n 2, 1) := by decide +kernel
theorem dX7_keep_39 : decode cX7_keep 39 = .ok (.iconst 1, 1) := by decide +kernel
theorem dX7_keep_40 : decode cX7_keep 40 = .ok (.putfield 227, 3) := by decide +kernel
theorem dX7_keep_43 : decode cX7_keep 43 = .ok (.aload_n 0, 1) := by decide +kernel
theorem dX7_keep_44 : decode cX7_keep 44 = .ok (.getfield 19, 3) := by decide +kernel
theorem dX7_keep_47 : decode cX7_keep 47 = .ok (.iconst 0, 1) := by decide +kernel
theorem dX7_keep_48 : decode cX7_keep 48 = .ok (.putfield 118, 3) := by decide +kernel
theorem dX7_keep_51 : decode cX7_keep 51 = .ok (.iconst 1, 1) := by decide +kernel
theorem dX7_keep_52 : decode cX7_keep 52 = .ok (.ireturn, 1) := by decide +kernel
theorem dX7_goBack_0 : decode cX7_goBack 0 = .ok (.iload_n 1, 1) := by decide +kernel
theorem dX7_goBack_1 : decode cX7_goBack 1 = .ok (.ifCond .lt 8, 3) := by decide +kernel
theorem dX7_goBack_4 : decode cX7_goBack 4 = .ok (.iload_n 1, 1) := by decide +kernel
theorem dX7_goBack_5 : decode cX7_goBack 5 = .ok (.iconst 2, 1) := by decide +kernel
theorem dX7_goBack_6 : decode cX7_goBack 6 = .ok (.if_icmp .lt 6, 3) := by decide +kernel
theorem dX7_goBack_9 : decode cX7_goBack 9 = .ok (.ldc 123, 2) := by decide +kernel
theorem dX7_goBack_11 : decode cX7_goBack 11 = .ok (.ireturn, 1) := by decide +kernel
theorem dX7_goBack_12 : decode cX7_goBack 12 = .ok (.aload_n 0, 1) := by decide +kernel
theorem dX7_goBack_13 : decode cX7_goBack 13 = .ok (.getfield 53, 3) := by decide +kernel
theorem dX7_goBack_16 : decode cX7_goBack 16 = .ok (.iload_n 1, 1) := by decide +kernel
theorem dX7_goBack_17 : decode cX7_goBack 17 = .ok (.aaload, 1) := by decide +kernel
theorem dX7_goBack_18 : decode cX7_goBack 18 = .ok (.astore_n 2, 1) := by decide +kernel
theorem dX7_goBack_19 : decode cX7_goBack 19 = .ok (.aload_n 2, 1) := by decide +kernel
theorem dX7_goBack_20 : decode cX7_goBack 20 = .ok (.getfield 227, 3) := by decide +kernel
theorem dX7_goBack_23 : decode cX7_goBack 23 = .ok (.ifCond .ne 6, 3) := by decide +kernel
theorem dX7_goBack_26 : decode cX7_goBack 26 = .ok (.ldc 83, 2) := by decide +kernel
theorem dX7_goBack_28 : decode cX7_goBack 28 = .ok (.ireturn, 1) := by decide +kernel
theorem dX7_goBack_29 : decode cX7_goBack 29 = .ok (.aload_n 0, 1) := by decide +kernel
theorem dX7_goBack_30 : decode cX7_goBack 30 = .ok (.getfield 10, 3) := by decide +kernel
theorem dX7_goBack_33 : decode cX7_goBack 33 = .ok (.aload_n 2, 1) := by decide +kernel
theorem dX7_goBack_34 : decode cX7_goBack 34 = .ok (.getfield 217, 3) := by decide +kernel
theorem dX7_goBack_37 : decode cX7_goBack 37 = .ok (.invokevirtual 220, 3) := by decide +kernel
theorem dX7_goBack_40 : decode cX7_goBack 40 = .ok (.aload_n 0, 1) := by decide +kernel
theorem dX7_goBack_41 : decode cX7_goBack 41 = .ok (.aload_n 2, 1) := by decide +kernel
theorem dX7_goBack_42 : decode cX7_goBack 42 = .ok (.getfield 224, 3) := by decide +kernel
theorem dX7_goBack_45 : decode cX7_goBack 45 = .ok (.putfield 61, 3) := by decide +kernel
theorem dX7_goBack_48 : decode cX7_goBack 48 = .ok (.aload_n 0, 1) := by decide +kernel
theorem dX7_goBack_49 : decode cX7_goBack 49 = .ok (.getfield 19, 3) := by decide +kernel
theorem dX7_goBack_52 : decode cX7_goBack 52 = .ok (.iconst 0, 1) := by decide +kernel
theorem dX7_goBack_53 : decode cX7_goBack 53 = .ok (.putfield 118, 3) := by decide +kernel
theorem dX7_goBack_56 : decode cX7_goBack 56 = .ok (.aload_n 0, 1) := by decide +kernel
theorem dX7_goBack_57 : decode cX7_goBack 57 = .ok (.iconst 0, 1) := by decide +kernel
theorem dX7_goBack_58 : decode cX7_goBack 58 = .ok (.putfield 65, 3) := by decide +kernel
theorem dX7_goBack_61 : decode cX7_goBack 61 = .ok (.iconst 1, 1) := by decide +kernel
theorem dX7_goBack_62 : decode cX7_goBack 62 = .ok (.ireturn, 1) := by decide +kernel
theorem dX7_isTale_0 : decode cX7_isTale 0 = .ok (.iload_n 1, 1) := by decide +kernel
theorem dX7_isTale_1 : decode cX7_isTale 1 = .ok (.ifCond .lt 18, 3) := by decide +kernel
theorem dX7_isTale_4 : decode cX7_isTale 4 = .ok (.iload_n 1, 1) := by decide +kernel
theorem dX7_isTale_5 : decode cX7_isTale 5 = .ok (.aload_n 0, 1) := by decide +kernel
theorem dX7_isTale_6 : decode cX7_isTale 6 = .ok (.getfield 10, 3) := by decide +kernel
theorem dX7_isTale_9 : decode cX7_isTale 9 = .ok (.getfield 80, 3) := by decide +kernel
theorem dX7_isTale_12 : decode cX7_isTale 12 = .ok (.if_icmp .ge 7, 3) := by decide +kernel
theorem dX7_isTale_15 : decode cX7_isTale 15 = .ok (.iconst 1, 1) := by decide +kernel
theorem dX7_isTale_16 : decode cX7_isTale 16 = .ok (.goto 4, 3) := by decide +kernel
theorem dX7_isTale_19 : decode cX7_isTale 19 = .ok (.iconst 0, 1) := by decide +kernel
theorem dX7_isTale_20 : decode cX7_isTale 20 = .ok (.ireturn, 1) := by decide +kernel
theorem dX7_allTales_0 : decode cX7_allTales 0 = .ok (.iconst 1, 1) := by decide +kernel
theorem dX7_allTales_1 : decode cX7_allTales 1 = .ok (.aload_n 0, 1) := by decide +kernel
theorem dX7_allTales_2 : decode cX7_allTales 2 = .ok (.getfield 10, 3) := by decide +kernel
theorem dX7_allTales_5 : decode cX7_allTales 5 = .ok (.getfield 80, 3) := by decide +kernel
theorem dX7_allTales_8 : decode cX7_allTales 8 = .ok (.ishl, 1) := by decide +kernel
theorem dX7_allTales_9 : decode cX7_allTales 9 = .ok (.iconst 1, 1) := by decide +kernel
theorem dX7_allTales_10 : decode cX7_allTales 10 = .ok (.isub, 1) := by decide +kernel
theorem dX7_allTales_11 : decode cX7_allTales 11 = .ok (.ireturn, 1) := by decide +kernel
theorem dX7_areTales_0 : decode cX7_areTales 0 = .ok (.iload_n 1, 1) := by decide +kernel
theorem dX7_areTales_1 : decode cX7_areTales 1 = .ok (.aload_n 0, 1) := by decide +kernel
theorem dX7_areTales_2 : decode cX7_areTales 2 = .ok (.invokevirtual 101, 3) := by decide +kernel
theorem dX7_areTales_5 : decode cX7_areTales 5 = .ok (.iconst (-1), 1) := by decide +kernel
theorem dX7_areTales_6 : decode cX7_areTales 6 = .ok (.ixor, 1) := by decide +kernel
theorem dX7_areTales_7 : decode cX7_areTales 7 = .ok (.iand, 1) := by decide +kernel
theorem dX7_areTales_8 : decode cX7_areTales 8 = .ok (.ifCond .ne 7, 3) := by decide +kernel
theorem dX7_areTales_11 : decode cX7_areTales 11 = .ok (.iconst 1, 1) := by decide +kernel
theorem dX7_areTales_12 : decode cX7_areTales 12 = .ok (.goto 4, 3) := by decide +kernel
theorem dX7_areTales_15 : decode cX7_areTales 15 = .ok (.iconst 0, 1) := by decide +kernel
theorem dX7_areTales_16 : decode cX7_areTales 16 = .ok (.ireturn, 1) := by decide +kernel
theorem dX7_nodeCount_0 : decode cX7_nodeCount 0 = .ok (.aload_n 0, 1) := by decide +kernel
theorem dX7_nodeCount_1 : decode cX7_nodeCount 1 = .ok (.getfield 10, 3) := by decide +kernel
theorem dX7_nodeCount_4 : decode cX7_nodeCount 4 = .ok (.getfield 80, 3) := by decide +kernel
theorem dX7_nodeCount_7 : decode cX7_nodeCount 7 = .ok (.ifCond .le 15, 3) := by decide +kernel
theorem dX7_nodeCount_10 : decode cX7_nodeCount 10 = .ok (.aload_n 0, 1) := by decide +kernel
theorem dX7_nodeCount_11 : decode cX7_nodeCount 11 = .ok (.getfield 10, 3) := by decide +kernel
theorem dX7_nodeCount_14 : decode cX7_nodeCount 14 = .ok (.getfield 80, 3) := by decide +kernel
theorem dX7_nodeCount_17 : decode cX7_nodeCount 17 = .ok (.iconst 1, 1) := by decide +kernel
theorem dX7_nodeCount_18 : decode cX7_nodeCount 18 = .ok (.isub, 1) := by decide +kernel
theorem dX7_nodeCount_19 : decode cX7_nodeCount 19 = .ok (.goto 4, 3) := by decide +kernel
theorem dX7_nodeCount_22 : decode cX7_nodeCount 22 = .ok (.iconst 0, 1) := by decide +kernel
theorem dX7_nodeCount_23 : decode cX7_nodeCount 23 = .ok (.ireturn, 1) := by decide +kernel
theorem dX7_isPlace_0 : decode cX7_isPlace 0 = .ok (.iload_n 0, 1) := by decide +kernel
theorem dX7_isPlace_1 : decode cX7_isPlace 1 = .ok (.ifCond .lt 13, 3) := by decide +kernel
theorem dX7_isPlace_4 : decode cX7_isPlace 4 = .ok (.iload_n 0, 1) := by decide +kernel
theorem dX7_isPlace_5 : decode cX7_isPlace 5 = .ok (.bipush 8, 2) := by decide +kernel
theorem dX7_isPlace_7 : decode cX7_isPlace 7 = .ok (.if_icmp .ge 7, 3) := by decide +kernel
theorem dX7_isPlace_10 : decode cX7_isPlace 10 = .ok (.iconst 1, 1) := by decide +kernel
theorem dX7_isPlace_11 : decode cX7_isPlace 11 = .ok (.goto 4, 3) := by decide +kernel
theorem dX7_isPlace_14 : decode cX7_isPlace 14 = .ok (.iconst 0, 1) := by decide +kernel
theorem dX7_isPlace_15 : decode cX7_isPlace 15 = .ok (.ireturn, 1) := by decide +kernel
theorem dX7_arePlaces_0 : decode cX7_arePlaces 0 = .ok (.iload_n 0, 1) := by decide +kernel
theorem dX7_arePlaces_1 : decode cX7_arePlaces 1 = .ok (.ifCond .lt 14, 3) := by decide +kernel
theorem dX7_arePlaces_4 : decode cX7_arePlaces 4 = .ok (.iload_n 0, 1) := by decide +kernel
theorem dX7_arePlaces_5 : decode cX7_arePlaces 5 = .ok (.sipush 255, 3) := by decide +kernel
theorem dX7_arePlaces_8 : decode cX7_arePlaces 8 = .ok (.if_icmp .gt 7, 3) := by decide +kernel
theorem dX7_arePlaces_11 : decode cX7_arePlaces 11 = .ok (.iconst 1, 1) := by decide +kernel
theorem dX7_arePlaces_12 : decode cX7_arePlaces 12 = .ok (.goto 4, 3) := by decide +kernel
theorem dX7_arePlaces_15 : decode cX7_arePlaces 15 = .ok (.iconst 0, 1) := by decide +kernel
theorem dX7_arePlaces_16 : decode cX7_arePlaces 16 = .ok (.ireturn, 1) := by decide +kernel
theorem dX7_beginDeed_0 : decode cX7_beginDeed 0 = .ok (.aload_n 0, 1) := by decide +kernel
theorem dX7_beginDeed_1 : decode cX7_beginDeed 1 = .ok (.getfield 19, 3) := by decide +kernel
theorem dX7_beginDeed_4 : decode cX7_beginDeed 4 = .ok (.aload_n 0, 1) := by decide +kernel
theorem dX7_beginDeed_5 : decode cX7_beginDeed 5 = .ok (.getfield 10, 3) := by decide +kernel
theorem dX7_beginDeed_8 : decode cX7_beginDeed 8 = .ok (.invokevirtual 230, 3) := by decide +kernel
theorem dX7_beginDeed_11 : decode cX7_beginDeed 11 = .ok (.aload_n 0, 1) := by decide +kernel
theorem dX7_beginDeed_12 : decode cX7_beginDeed 12 = .ok (.iconst 0, 1) := by decide +kernel
theorem dX7_beginDeed_13 : decode cX7_beginDeed 13 = .ok (.putfield 65, 3) := by decide +kernel
theorem dX7_beginDeed_16 : decode cX7_beginDeed 16 = .ok (.return_, 1) := by decide +kernel
theorem dX7_measureAnew_0 : decode cX7_measureAnew 0 = .ok (.aload_n 0, 1) := by decide +kernel
theorem dX7_measureAnew_1 : decode cX7_measureAnew 1 = .ok (.getfield 65, 3) := by decide +kernel
theorem dX7_measureAnew_4 : decode cX7_measureAnew 4 = .ok (.ifCond .eq 4, 3) := by decide +kernel
theorem dX7_measureAnew_7 : decode cX7_measureAnew 7 = .ok (.return_, 1) := by decide +kernel
theorem dX7_measureAnew_8 : decode cX7_measureAnew 8 = .ok (.aload_n 0, 1) := by decide +kernel
theorem dX7_measureAnew_9 : decode cX7_measureAnew 9 = .ok (.getfield 40, 3) := by decide +kernel
theorem dX7_measureAnew_12 : decode cX7_measureAnew 12 = .ok (.aload_n 0, 1) := by decide +kernel
theorem dX7_measureAnew_13 : decode cX7_measureAnew 13 = .ok (.getfield 10, 3) := by decide +kernel
theorem dX7_measureAnew_16 : decode cX7_measureAnew 16 = .ok (.aload_n 0, 1) := by decide +kernel
theorem dX7_measureAnew_17 : decode cX7_measureAnew 17 = .ok (.getfield 33, 3) := by decide +kernel
theorem dX7_measureAnew_20 : decode cX7_measureAnew 20 = .ok (.invokevirtual 233, 3) := by decide +kernel
theorem dX7_measureAnew_23 : decode cX7_measureAnew 23 = .ok (.aload_n 0, 1) := by decide +kernel
theorem dX7_measureAnew_24 : decode cX7_measureAnew 24 = .ok (.getfield 47, 3) := by decide +kernel
theorem dX7_measureAnew_27 : decode cX7_measureAnew 27 = .ok (.aload_n 0, 1) := by decide +kernel
theorem dX7_measureAnew_28 : decode cX7_measureAnew 28 = .ok (.getfield 40, 3) := by decide +kernel
theorem dX7_measureAnew_31 : decode cX7_measureAnew 31 = .ok (.aload_n 0, 1) := by decide +kernel
theorem dX7_measureAnew_32 : decode cX7_measureAnew 32 = .ok (.getfield 10, 3) := by decide +kernel
theorem dX7_measureAnew_35 : decode cX7_measureAnew 35 = .ok (.getfield 80, 3) := by decide +kernel
theorem dX7_measureAnew_38 : decode cX7_measureAnew 38 = .ok (.aload_n 0, 1) := by decide +kernel
theorem dX7_measureAnew_39 : decode cX7_measureAnew 39 = .ok (.getfield 10, 3) := by decide +kernel
theorem dX7_measureAnew_42 : decode cX7_measureAnew 42 = .ok (.getfield 91, 3) := by decide +kernel
theorem dX7_measureAnew_45 : decode cX7_measureAnew 45 = .ok (.invokevirtual 237, 3) := by decide +kernel
theorem dX7_measureAnew_48 : decode cX7_measureAnew 48 = .ok (.aload_n 0, 1) := by decide +kernel
theorem dX7_measureAnew_49 : decode cX7_measureAnew 49 = .ok (.iconst 1, 1) := by decide +kernel
theorem dX7_measureAnew_50 : decode cX7_measureAnew 50 = .ok (.putfield 65, 3) := by decide +kernel
theorem dX7_measureAnew_53 : decode cX7_measureAnew 53 = .ok (.return_, 1) := by decide +kernel
theorem dX7_likeTyped_0 : decode cX7_likeTyped 0 = .ok (.aload_n 0, 1) := by decide +kernel
theorem dX7_likeTyped_1 : decode cX7_likeTyped 1 = .ok (.getfield 57, 3) := by decide +kernel
theorem dX7_likeTyped_4 : decode cX7_likeTyped 4 = .ok (.invokestatic 71, 3) := by decide +kernel
theorem dX7_likeTyped_7 : decode cX7_likeTyped 7 = .ok (.ifCond .ne 5, 3) := by decide +kernel
theorem dX7_likeTyped_10 : decode cX7_likeTyped 10 = .ok (.iconst (-1), 1) := by decide +kernel
theorem dX7_likeTyped_11 : decode cX7_likeTyped 11 = .ok (.ireturn, 1) := by decide +kernel
theorem dX7_likeTyped_12 : decode cX7_likeTyped 12 = .ok (.iconst (-1), 1) := by decide +kernel
theorem dX7_likeTyped_13 : decode cX7_likeTyped 13 = .ok (.istore_n 1, 1) := by decide +kernel
theorem dX7_likeTyped_14 : decode cX7_likeTyped 14 = .ok (.iconst 0, 1) := by decide +kernel
theorem dX7_likeTyped_15 : decode cX7_likeTyped 15 = .ok (.istore_n 2, 1) := by decide +kernel
theorem dX7_likeTyped_16 : decode cX7_likeTyped 16 = .ok (.iconst 0, 1) := by decide +kernel
theorem dX7_likeTyped_17 : decode cX7_likeTyped 17 = .ok (.istore_n 3, 1) := by decide +kernel
theorem dX7_likeTyped_18 : decode cX7_likeTyped 18 = .ok (.iload_n 3, 1) := by decide +kernel
theorem dX7_likeTyped_19 : decode cX7_likeTyped 19 = .ok (.aload_n 0, 1) := by decide +kernel
theorem dX7_likeTyped_20 : decode cX7_likeTyped 20 = .ok (.getfield 10, 3) := by decide +kernel
theorem dX7_likeTyped_23 : decode cX7_likeTyped 23 = .ok (.getfield 80, 3) := by decide +kernel
theorem dX7_likeTyped_26 : decode cX7_likeTyped 26 = .ok (.if_icmp .ge 62, 3) := by decide +kernel
theorem dX7_likeTyped_29 : decode cX7_likeTyped 29 = .ok (.aload_n 0, 1) := by decide +kernel
theorem dX7_likeTyped_30 : decode cX7_likeTyped 30 = .ok (.getfield 33, 3) := by decide +kernel
theorem dX7_likeTyped_33 : decode cX7_likeTyped 33 = .ok (.aload_n 0, 1) := by decide +kernel
theorem dX7_likeTyped_34 : decode cX7_likeTyped 34 = .ok (.getfield 57, 3) := by decide +kernel
theorem dX7_likeTyped_37 : decode cX7_likeTyped 37 = .ok (.aload_n 0, 1) := by decide +kernel
theorem dX7_likeTyped_38 : decode cX7_likeTyped 38 = .ok (.getfield 10, 3) := by decide +kernel
theorem dX7_likeTyped_41 : decode cX7_likeTyped 41 = .ok (.getfield 124, 3) := by decide +kernel
theorem dX7_likeTyped_44 : decode cX7_likeTyped 44 = .ok (.iload_n 3, 1) := by decide +kernel
theorem dX7_likeTyped_45 : decode cX7_likeTyped 45 = .ok (.laload, 1) := by decide +kernel
theorem dX7_likeTyped_46 : decode cX7_likeTyped 46 = .ok (.aload_n 0, 1) := by decide +kernel
theorem dX7_likeTyped_47 : decode cX7_likeTyped 47 = .ok (.getfield 10, 3) := by decide +kernel
theorem dX7_likeTyped_50 : decode cX7_likeTyped 50 = .ok (.getfield 146, 3) := by decide +kernel
theorem dX7_likeTyped_53 : decode cX7_likeTyped 53 = .ok (.invokevirtual 149, 3) := by decide +kernel
theorem dX7_likeTyped_56 : decode cX7_likeTyped 56 = .ok (.iload_n 1, 1) := by decide +kernel
theorem dX7_likeTyped_57 : decode cX7_likeTyped 57 = .ok (.iconst (-1), 1) := by decide +kernel
theorem dX7_likeTyped_58 : decode cX7_likeTyped 58 = .ok (.if_icmp .eq 14, 3) := by decide +kernel
theorem dX7_likeTyped_61 : decode cX7_likeTyped 61 = .ok (.aload_n 0, 1) := by decide +kernel
theorem dX7_likeTyped_62 : decode cX7_likeTyped 62 = .ok (.getfield 33, 3) := by decide +kernel
theorem dX7_likeTyped_65 : decode cX7_likeTyped 65 = .ok (.invokevirtual 153, 3) := by decide +kernel
theorem dX7_likeTyped_68 : decode cX7_likeTyped 68 = .ok (.iload_n 2, 1) := by decide +kernel
theorem dX7_likeTyped_69 : decode cX7_likeTyped 69 = .ok (.if_icmp .ge 13, 3) := by decide +kernel
theorem dX7_likeTyped_72 : decode cX7_likeTyped 72 = .ok (.iload_n 3, 1) := by decide +kernel
theorem dX7_likeTyped_73 : decode cX7_likeTyped 73 = .ok (.istore_n 1, 1) := by decide +kernel
theorem dX7_likeTyped_74 : decode cX7_likeTyped 74 = .ok (.aload_n 0, 1) := by decide +kernel
theorem dX7_likeTyped_75 : decode cX7_likeTyped 75 = .ok (.getfield 33, 3) := by decide +kernel
theorem dX7_likeTyped_78 : decode cX7_likeTyped 78 = .ok (.invokevirtual 153, 3) := by decide +kernel
theorem dX7_likeTyped_81 : decode cX7_likeTyped 81 = .ok (.istore_n 2, 1) := by decide +kernel
theorem dX7_likeTyped_82 : decode cX7_likeTyped 82 = .ok (.iinc 3 1, 3) := by decide +kernel
theorem dX7_likeTyped_85 : decode cX7_likeTyped 85 = .ok (.goto (-67), 3) := by decide +kernel
theorem dX7_likeTyped_88 : decode cX7_likeTyped 88 = .ok (.iload_n 1, 1) := by decide +kernel
theorem dX7_likeTyped_89 : decode cX7_likeTyped 89 = .ok (.ireturn, 1) := by decide +kernel
theorem dX7_addDrawn_0 : decode cX7_addDrawn 0 = .ok (.aload_n 0, 1) := by decide +kernel
theorem dX7_addDrawn_1 : decode cX7_addDrawn 1 = .ok (.bipush 7, 2) := by decide +kernel
theorem dX7_addDrawn_3 : decode cX7_addDrawn 3 = .ok (.invokevirtual 241, 3) := by decide +kernel
theorem dX7_addDrawn_6 : decode cX7_addDrawn 6 = .ok (.iconst 2, 1) := by decide +kernel
theorem dX7_addDrawn_7 : decode cX7_addDrawn 7 = .ok (.iadd, 1) := by decide +kernel
theorem dX7_addDrawn_8 : decode cX7_addDrawn 8 = .ok (.istore_n 1, 1) := by decide +kernel
theorem dX7_addDrawn_9 : decode cX7_addDrawn 9 = .ok (.lconst 0, 1) := by decide +kernel
theorem dX7_addDrawn_10 : decode cX7_addDrawn 10 = .ok (.lstore_n 2, 1) := by decide +kernel
theorem dX7_addDrawn_11 : decode cX7_addDrawn 11 = .ok (.iconst 0, 1) := by decide +kernel
theorem dX7_addDrawn_12 : decode cX7_addDrawn 12 = .ok (.istore 4, 2) := by decide +kernel
theorem dX7_addDrawn_14 : decode cX7_addDrawn 14 = .ok (.iload 4, 2) := by decide +kernel
theorem dX7_addDrawn_16 : decode cX7_addDrawn 16 = .ok (.iload_n 1, 1) := by decide +kernel
theorem dX7_addDrawn_17 : decode cX7_addDrawn 17 = .ok (.if_icmp .ge 19, 3) := by decide +kernel
theorem dX7_addDrawn_20 : decode cX7_addDrawn 20 = .ok (.lload_n 2, 1) := by decide +kernel
theorem dX7_addDrawn_21 : decode cX7_addDrawn 21 = .ok (.aload_n 0, 1) := by decide +kernel
theorem dX7_addDrawn_22 : decode cX7_addDrawn 22 = .ok (.iconst 5, 1) := by decide +kernel
theorem dX7_addDrawn_23 : decode cX7_addDrawn 23 = .ok (.invokevirtual 241, 3) := by decide +kernel
theorem dX7_addDrawn_26 : decode cX7_addDrawn 26 = .ok (.invokestatic 76, 3) := by decide +kernel
theorem dX7_addDrawn_29 : decode cX7_addDrawn 29 = .ok (.lstore_n 2, 1) := by decide +kernel
theorem dX7_addDrawn_30 : decode cX7_addDrawn 30 = .ok (.iinc 4 1, 3) := by decide +kernel
theorem dX7_addDrawn_33 : decode cX7_addDrawn 33 = .ok (.goto (-19), 3) := by decide +kernel
theorem dX7_addDrawn_36 : decode cX7_addDrawn 36 = .ok (.aload_n 0, 1) := by decide +kernel
theorem dX7_addDrawn_37 : decode cX7_addDrawn 37 = .ok (.getfield 10, 3) := by decide +kernel
theorem dX7_addDrawn_40 : decode cX7_addDrawn 40 = .ok (.lload_n 2, 1) := by decide +kernel
theorem dX7_addDrawn_41 : decode cX7_addDrawn 41 = .ok (.aload_n 0, 1) := by decide +kernel
theorem dX7_addDrawn_42 : decode cX7_addDrawn 42 = .ok (.sipush 256, 3) := by decide +kernel
theorem dX7_addDrawn_45 : decode cX7_addDrawn 45 = .ok (.invokevirtual 241, 3) := by decide +kernel
theorem dX7_addDrawn_48 : decode cX7_addDrawn 48 = .ok (.invokevirtual 87, 3) := by decide +kernel
theorem dX7_addDrawn_51 : decode cX7_addDrawn 51 = .ok (.return_, 1) := by decide +kernel
theorem dX7_draw_0 : decode cX7_draw 0 = .ok (.aload_n 0, 1) := by decide +kernel
theorem dX7_draw_1 : decode cX7_draw 1 = .ok (.getfield 61, 3) := by decide +kernel
theorem dX7_draw_4 : decode cX7_draw 4 = .ok (.i2l, 1) := by decide +kernel
theorem dX7_draw_5 : decode cX7_draw 5 = .ok (.ldc2_w 244, 3) := by decide +kernel
theorem dX7_draw_8 : decode cX7_draw 8 = .ok (.lmul, 1) := by decide +kernel
theorem dX7_draw_9 : decode cX7_draw 9 = .ok (.ldc2_w 246, 3) := by decide +kernel
theorem dX7_draw_12 : decode cX7_draw 12 = .ok (.ladd, 1) := by decide +kernel
theorem dX7_draw_13 : decode cX7_draw 13 = .ok (.lstore_n 2, 1) := by decide +kernel
theorem dX7_draw_14 : decode cX7_draw 14 = .ok (.aload_n 0, 1) := by decide +kernel
theorem dX7_draw_15 : decode cX7_draw 15 = .ok (.lload_n 2, 1) := by decide +kernel
theorem dX7_draw_16 : decode cX7_draw 16 = .ok (.ldc2_w 248, 3) := by decide +kernel
theorem dX7_draw_19 : decode cX7_draw 19 = .ok (.land, 1) := by decide +kernel
theorem dX7_draw_20 : decode cX7_draw 20 = .ok (.l2i, 1) := by decide +kernel
theorem dX7_draw_21 : decode cX7_draw 21 = .ok (.putfield 61, 3) := by decide +kernel
theorem dX7_draw_24 : decode cX7_draw 24 = .ok (.iload_n 1, 1) := by decide +kernel
theorem dX7_draw_25 : decode cX7_draw 25 = .ok (.ifCond .le 15, 3) := by decide +kernel
theorem dX7_draw_28 : decode cX7_draw 28 = .ok (.aload_n 0, 1) := by decide +kernel
theorem dX7_draw_29 : decode cX7_draw 29 = .ok (.getfield 61, 3) := by decide +kernel
theorem dX7_draw_32 : decode cX7_draw 32 = .ok (.ldc 250, 2) := by decide +kernel
theorem dX7_draw_34 : decode cX7_draw 34 = .ok (.idiv, 1) := by decide +kernel
theorem dX7_draw_35 : decode cX7_draw 35 = .ok (.iload_n 1, 1) := by decide +kernel
theorem dX7_draw_36 : decode cX7_draw 36 = .ok (.irem, 1) := by decide +kernel
theorem dX7_draw_37 : decode cX7_draw 37 = .ok (.goto 4, 3) := by decide +kernel
theorem dX7_draw_40 : decode cX7_draw 40 = .ok (.iconst 0, 1) := by decide +kernel
theorem dX7_draw_41 : decode cX7_draw 41 = .ok (.ireturn, 1) := by decide +kernel
theorem dX7_lengthOf_0 : decode cX7_lengthOf 0 = .ok (.lload_n 0, 1) := by decide +kernel
theorem dX7_lengthOf_1 : decode cX7_lengthOf 1 = .ok (.bipush 32, 2) := by decide +kernel
theorem dX7_lengthOf_3 : decode cX7_lengthOf 3 = .ok (.lushr, 1) := by decide +kernel
theorem dX7_lengthOf_4 : decode cX7_lengthOf 4 = .ok (.l2i, 1) := by decide +kernel
theorem dX7_lengthOf_5 : decode cX7_lengthOf 5 = .ok (.ireturn, 1) := by decide +kernel
theorem dX7_motifOf_0 : decode cX7_motifOf 0 = .ok (.lload_n 0, 1) := by decide +kernel
theorem dX7_motifOf_1 : decode cX7_motifOf 1 = .ok (.iconst 3, 1) := by decide +kernel
theorem dX7_motifOf_2 : decode cX7_motifOf 2 = .ok (.iload_n 2, 1) := by decide +kernel
theorem dX7_motifOf_3 : decode cX7_motifOf 3 = .ok (.imul, 1) := by decide +kernel
theorem dX7_motifOf_4 : decode cX7_motifOf 4 = .ok (.lushr, 1) := by decide +kernel
theorem dX7_motifOf_5 : decode cX7_motifOf 5 = .ok (.l2i, 1) := by decide +kernel
theorem dX7_motifOf_6 : decode cX7_motifOf 6 = .ok (.bipush 7, 2) := by decide +kernel
theorem dX7_motifOf_8 : decode cX7_motifOf 8 = .ok (.iand, 1) := by decide +kernel
theorem dX7_motifOf_9 : decode cX7_motifOf 9 = .ok (.ireturn, 1) := by decide +kernel
theorem dX7_longer_0 : decode cX7_longer 0 = .ok (.lload_n 0, 1) := by decide +kernel
theorem dX7_longer_1 : decode cX7_longer 1 = .ok (.iload_n 2, 1) := by decide +kernel
theorem dX7_longer_2 : decode cX7_longer 2 = .ok (.i2l, 1) := by decide +kernel
theorem dX7_longer_3 : decode cX7_longer 3 = .ok (.iconst 3, 1) := by decide +kernel
theorem dX7_longer_4 : decode cX7_longer 4 = .ok (.lload_n 0, 1) := by decide +kernel
theorem dX7_longer_5 : decode cX7_longer 5 = .ok (.invokestatic 71, 3) := by decide +kernel
theorem dX7_longer_8 : decode cX7_longer 8 = .ok (.imul, 1) := by decide +kernel
theorem dX7_longer_9 : decode cX7_longer 9 = .ok (.lshl, 1) := by decide +kernel
theorem dX7_longer_10 : decode cX7_longer 10 = .ok (.lor, 1) := by decide +kernel
theorem dX7_longer_11 : decode cX7_longer 11 = .ok (.ldc2_w 251, 3) := by decide +kernel
theorem dX7_longer_14 : decode cX7_longer 14 = .ok (.ladd, 1) := by decide +kernel
theorem dX7_longer_15 : decode cX7_longer 15 = .ok (.lreturn, 1) := by decide +kernel
theorem dX7_motifsOf_0 : decode cX7_motifsOf 0 = .ok (.iconst 0, 1) := by decide +kernel
theorem dX7_motifsOf_1 : decode cX7_motifsOf 1 = .ok (.istore_n 2, 1) := by decide +kernel
theorem dX7_motifsOf_2 : decode cX7_motifsOf 2 = .ok (.iconst 0, 1) := by decide +kernel
theorem dX7_motifsOf_3 : decode cX7_motifsOf 3 = .ok (.istore_n 3, 1) := by decide +kernel
theorem dX7_motifsOf_4 : decode cX7_motifsOf 4 = .ok (.iload_n 3, 1) := by decide +kernel
theorem dX7_motifsOf_5 : decode cX7_motifsOf 5 = .ok (.lload_n 0, 1) := by decide +kernel
theorem dX7_motifsOf_6 : decode cX7_motifsOf 6 = .ok (.invokestatic 71, 3) := by decide +kernel
theorem dX7_motifsOf_9 : decode cX7_motifsOf 9 = .ok (.if_icmp .ge 25, 3) := by decide +kernel
theorem dX7_motifsOf_12 : decode cX7_motifsOf 12 = .ok (.iload_n 3, 1) := by decide +kernel
theorem dX7_motifsOf_13 : decode cX7_motifsOf 13 = .ok (.bipush 10, 2) := by decide +kernel
theorem dX7_motifsOf_15 : decode cX7_motifsOf 15 = .ok (.if_icmp .ge 19, 3) := by decide +kernel
theorem dX7_motifsOf_18 : decode cX7_motifsOf 18 = .ok (.iload_n 2, 1) := by decide +kernel
theorem dX7_motifsOf_19 : decode cX7_motifsOf 19 = .ok (.iconst 1, 1) := by decide +kernel
theorem dX7_motifsOf_20 : decode cX7_motifsOf 20 = .ok (.lload_n 0, 1) := by decide +kernel
theorem dX7_motifsOf_21 : decode cX7_motifsOf 21 = .ok (.iload_n 3, 1) := by decide +kernel
theorem dX7_motifsOf_22 : decode cX7_motifsOf 22 = .ok (.invokestatic 142, 3) := by decide +kernel
theorem dX7_motifsOf_25 : decode cX7_motifsOf 25 = .ok (.ishl, 1) := by decide +kernel
theorem dX7_motifsOf_26 : decode cX7_motifsOf 26 = .ok (.ior, 1) := by decide +kernel
theorem dX7_motifsOf_27 : decode cX7_motifsOf 27 = .ok (.istore_n 2, 1) := by decide +kernel
theorem dX7_motifsOf_28 : decode cX7_motifsOf 28 = .ok (.iinc 3 1, 3) := by decide +kernel
theorem dX7_motifsOf_31 : decode cX7_motifsOf 31 = .ok (.goto (-27), 3) := by decide +kernel
theorem dX7_motifsOf_34 : decode cX7_motifsOf 34 = .ok (.iload_n 2, 1) := by decide +kernel
theorem dX7_motifsOf_35 : decode cX7_motifsOf 35 = .ok (.ireturn, 1) := by decide +kernel
theorem dX7_hull_0 : decode cX7_hull 0 = .ok (.iconst (-1), 1) := by decide +kernel
theorem dX7_hull_1 : decode cX7_hull 1 = .ok (.istore_n 2, 1) := by decide +kernel
theorem dX7_hull_2 : decode cX7_hull 2 = .ok (.iload_n 0, 1) := by decide +kernel
theorem dX7_hull_3 : decode cX7_hull 3 = .ok (.istore_n 3, 1) := by decide +kernel
theorem dX7_hull_4 : decode cX7_hull 4 = .ok (.iload_n 3, 1) := by decide +kernel
theorem dX7_hull_5 : decode cX7_hull 5 = .ok (.sipush 255, 3) := by decide +kernel
theorem dX7_hull_8 : decode cX7_hull 8 = .ok (.if_icmp .gt 54, 3) := by decide +kernel
theorem dX7_hull_11 : decode cX7_hull 11 = .ok (.iload_n 2, 1) := by decide +kernel
theorem dX7_hull_12 : decode cX7_hull 12 = .ok (.iconst (-1), 1) := by decide +kernel
theorem dX7_hull_13 : decode cX7_hull 13 = .ok (.if_icmp .eq 14, 3) := by decide +kernel
theorem dX7_hull_16 : decode cX7_hull 16 = .ok (.iload_n 3, 1) := by decide +kernel
theorem dX7_hull_17 : decode cX7_hull 17 = .ok (.invokestatic 253, 3) := by decide +kernel
theorem dX7_hull_20 : decode cX7_hull 20 = .ok (.iload_n 2, 1) := by decide +kernel
theorem dX7_hull_21 : decode cX7_hull 21 = .ok (.invokestatic 253, 3) := by decide +kernel
theorem dX7_hull_24 : decode cX7_hull 24 = .ok (.if_icmp .ge 7, 3) := by decide +kernel
theorem dX7_hull_27 : decode cX7_hull 27 = .ok (.iconst 1, 1) := by decide +kernel
theorem dX7_hull_28 : decode cX7_hull 28 = .ok (.goto 4, 3) := by decide +kernel
theorem dX7_hull_31 : decode cX7_hull 31 = .ok (.iconst 0, 1) := by decide +kernel
theorem dX7_hull_32 : decode cX7_hull 32 = .ok (.istore 4, 2) := by decide +kernel
theorem dX7_hull_34 : decode cX7_hull 34 = .ok (.iload_n 3, 1) := by decide +kernel
theorem dX7_hull_35 : decode cX7_hull 35 = .ok (.iload_n 0, 1) := by decide +kernel
theorem dX7_hull_36 : decode cX7_hull 36 = .ok (.iand, 1) := by decide +kernel
theorem dX7_hull_37 : decode cX7_hull 37 = .ok (.iload_n 0, 1) := by decide +kernel
theorem dX7_hull_38 : decode cX7_hull 38 = .ok (.if_icmp .ne 18, 3) := by decide +kernel
theorem dX7_hull_41 : decode cX7_hull 41 = .ok (.iload 4, 2) := by decide +kernel
theorem dX7_hull_43 : decode cX7_hull 43 = .ok (.ifCond .eq 13, 3) := by decide +kernel
theorem dX7_hull_46 : decode cX7_hull 46 = .ok (.iload_n 3, 1) := by decide +kernel
theorem dX7_hull_47 : decode cX7_hull 47 = .ok (.aload_n 1, 1) := by decide +kernel
theorem dX7_hull_48 : decode cX7_hull 48 = .ok (.invokestatic 258, 3) := by decide +kernel
theorem dX7_hull_51 : decode cX7_hull 51 = .ok (.ifCond .eq 5, 3) := by decide +kernel
theorem dX7_hull_54 : decode cX7_hull 54 = .ok (.iload_n 3, 1) := by decide +kernel
theorem dX7_hull_55 : decode cX7_hull 55 = .ok (.istore_n 2, 1) := by decide +kernel
theorem dX7_hull_56 : decode cX7_hull 56 = .ok (.iinc 3 1, 3) := by decide +kernel
theorem dX7_hull_59 : decode cX7_hull 59 = .ok (.goto (-55), 3) := by decide +kernel
theorem dX7_hull_62 : decode cX7_hull 62 = .ok (.iload_n 2, 1) := by decide +kernel
theorem dX7_hull_63 : decode cX7_hull 63 = .ok (.ireturn, 1) := by decide +kernel
theorem dX7_hangTogether_0 : decode cX7_hangTogether 0 = .ok (.iload_n 0, 1) := by decide +kernel
theorem dX7_hangTogether_1 : decode cX7_hangTogether 1 = .ok (.iload_n 0, 1) := by decide +kernel
theorem dX7_hangTogether_2 : decode cX7_hangTogether 2 = .ok (.ineg, 1) := by decide +kernel
theorem dX7_hangTogether_3 : decode cX7_hangTogether 3 = .ok (.iand, 1) := by decide +kernel
theorem dX7_hangTogether_4 : decode cX7_hangTogether 4 = .ok (.istore_n 2, 1) := by decide +kernel
theorem dX7_hangTogether_5 : decode cX7_hangTogether 5 = .ok (.iconst 0, 1) := by decide +kernel
theorem dX7_hangTogether_6 : decode cX7_hangTogether 6 = .ok (.istore_n 3, 1) := by decide +kernel
theorem dX7_hangTogether_7 : decode cX7_hangTogether 7 = .ok (.iload_n 3, 1) := by decide +kernel
theorem dX7_hangTogether_8 : decode cX7_hangTogether 8 = .ok (.bipush 8, 2) := by decide +kernel
theorem dX7_hangTogether_10 : decode cX7_hangTogether 10 = .ok (.if_icmp .ge 49, 3) := by decide +kernel
theorem dX7_hangTogether_13 : decode cX7_hangTogether 13 = .ok (.iload_n 2, 1) := by decide +kernel
theorem dX7_hangTogether_14 : decode cX7_hangTogether 14 = .ok (.iload_n 0, 1) := by decide +kernel
theorem dX7_hangTogether_15 : decode cX7_hangTogether 15 = .ok (.if_icmp .eq 44, 3) := by decide +kernel
theorem dX7_hangTogether_18 : decode cX7_hangTogether 18 = .ok (.iconst 0, 1) := by decide +kernel
theorem dX7_hangTogether_19 : decode cX7_hangTogether 19 = .ok (.istore 4, 2) := by decide +kernel
theorem dX7_hangTogether_21 : decode cX7_hangTogether 21 = .ok (.iload 4, 2) := by decide +kernel
theorem dX7_hangTogether_23 : decode cX7_hangTogether 23 = .ok (.bipush 8, 2) := by decide +kernel
theorem dX7_hangTogether_25 : decode cX7_hangTogether 25 = .ok (.if_icmp .ge 28, 3) := by decide +kernel
theorem dX7_hangTogether_28 : decode cX7_hangTogether 28 = .ok (.iload_n 2, 1) := by decide +kernel
theorem dX7_hangTogether_29 : decode cX7_hangTogether 29 = .ok (.iload 4, 2) := by decide +kernel
theorem dX7_hangTogether_31 : decode cX7_hangTogether 31 = .ok (.ishr, 1) := by decide +kernel
theorem dX7_hangTogether_32 : decode cX7_hangTogether 32 = .ok (.iconst 1, 1) := by decide +kernel
theorem dX7_hangTogether_33 : decode cX7_hangTogether 33 = .ok (.iand, 1) := by decide +kernel
theorem dX7_hangTogether_34 : decode cX7_hangTogether 34 = .ok (.iconst 1, 1) := by decide +kernel
theorem dX7_hangTogether_35 : decode cX7_hangTogether 35 = .ok (.if_icmp .ne 12, 3) := by decide +kernel
theorem dX7_hangTogether_38 : decode cX7_hangTogether 38 = .ok (.iload_n 2, 1) := by decide +kernel
theorem dX7_hangTogether_39 : decode cX7_hangTogether 39 = .ok (.aload_n 1, 1) := by decide +kernel
theorem dX7_hangTogether_40 : decode cX7_hangTogether 40 = .ok (.iload 4, 2) := by decide +kernel
theorem dX7_hangTogether_42 : decode cX7_hangTogether 42 = .ok (.iaload, 1) := by decide +kernel
theorem dX7_hangTogether_43 : decode cX7_hangTogether 43 = .ok (.iload_n 0, 1) := by decide +kernel
theorem dX7_hangTogether_44 : decode cX7_hangTogether 44 = .ok (.iand, 1) := by decide +kernel
theorem dX7_hangTogether_45 : decode cX7_hangTogether 45 = .ok (.ior, 1) := by decide +kernel
theorem dX7_hangTogether_46 : decode cX7_hangTogether 46 = .ok (.istore_n 2, 1) := by decide +kernel
theorem dX7_hangTogether_47 : decode cX7_hangTogether 47 = .ok (.iinc 4 1, 3) := by decide +kernel
theorem dX7_hangTogether_50 : decode cX7_hangTogether 50 = .ok (.goto (-29), 3) := by decide +kernel
theorem dX7_hangTogether_53 : decode cX7_hangTogether 53 = .ok (.iinc 3 1, 3) := by decide +kernel
theorem dX7_hangTogether_56 : decode cX7_hangTogether 56 = .ok (.goto (-49), 3) := by decide +kernel
theorem dX7_hangTogether_59 : decode cX7_hangTogether 59 = .ok (.iload_n 2, 1) := by decide +kernel
theorem dX7_hangTogether_60 : decode cX7_hangTogether 60 = .ok (.iload_n 0, 1) := by decide +kernel
theorem dX7_hangTogether_61 : decode cX7_hangTogether 61 = .ok (.if_icmp .ne 7, 3) := by decide +kernel
theorem dX7_hangTogether_64 : decode cX7_hangTogether 64 = .ok (.iconst 1, 1) := by decide +kernel
theorem dX7_hangTogether_65 : decode cX7_hangTogether 65 = .ok (.goto 4, 3) := by decide +kernel
theorem dX7_hangTogether_68 : decode cX7_hangTogether 68 = .ok (.iconst 0, 1) := by decide +kernel
theorem dX7_hangTogether_69 : decode cX7_hangTogether 69 = .ok (.ireturn, 1) := by decide +kernel
theorem dX7_roadsOf_0 : decode cX7_roadsOf 0 = .ok (.iload_n 0, 1) := by decide +kernel
theorem dX7_roadsOf_1 : decode cX7_roadsOf 1 = .ok (.iconst (-1), 1) := by decide +kernel
theorem dX7_roadsOf_2 : decode cX7_roadsOf 2 = .ok (.if_icmp .ne 5, 3) := by decide +kernel
theorem dX7_roadsOf_5 : decode cX7_roadsOf 5 = .ok (.iconst (-1), 1) := by decide +kernel
theorem dX7_roadsOf_6 : decode cX7_roadsOf 6 = .ok (.ireturn, 1) := by decide +kernel
theorem dX7_roadsOf_7 : decode cX7_roadsOf 7 = .ok (.iload_n 0, 1) := by decide +kernel
theorem dX7_roadsOf_8 : decode cX7_roadsOf 8 = .ok (.ifCond .ne 7, 3) := by decide +kernel
theorem dX7_roadsOf_11 : decode cX7_roadsOf 11 = .ok (.iconst 0, 1) := by decide +kernel
theorem dX7_roadsOf_12 : decode cX7_roadsOf 12 = .ok (.goto 9, 3) := by decide +kernel
theorem dX7_roadsOf_15 : decode cX7_roadsOf 15 = .ok (.iload_n 0, 1) := by decide +kernel
theorem dX7_roadsOf_16 : decode cX7_roadsOf 16 = .ok (.invokestatic 253, 3) := by decide +kernel
theorem dX7_roadsOf_19 : decode cX7_roadsOf 19 = .ok (.iconst 1, 1) := by decide +kernel
theorem dX7_roadsOf_20 : decode cX7_roadsOf 20 = .ok (.isub, 1) := by decide +kernel
theorem dX7_roadsOf_21 : decode cX7_roadsOf 21 = .ok (.ireturn, 1) := by decide +kernel
theorem dX8_init_0 : decode cX8_init 0 = .ok (.aload_n 0, 1) := by decide +kernel
theorem dX8_init_1 : decode cX8_init 1 = .ok (.invokespecial 1, 3) := by decide +kernel
theorem dX8_init_4 : decode cX8_init 4 = .ok (.aload_n 0, 1) := by decide +kernel
theorem dX8_init_5 : decode cX8_init 5 = .ok (.bipush 110, 2) := by decide +kernel
theorem dX8_init_7 : decode cX8_init 7 = .ok (.newarray .int, 2) := by decide +kernel
theorem dX8_init_9 : decode cX8_init 9 = .ok (.putfield 7, 3) := by decide +kernel
theorem dX8_init_12 : decode cX8_init 12 = .ok (.aload_n 0, 1) := by decide +kernel
theorem dX8_init_13 : decode cX8_init 13 = .ok (.sipush 1760, 3) := by decide +kernel
theorem dX8_init_16 : decode cX8_init 16 = .ok (.newarray .int, 2) := by decide +kernel
theorem dX8_init_18 : decode cX8_init 18 = .ok (.putfield 13, 3) := by decide +kernel
theorem dX8_init_21 : decode cX8_init 21 = .ok (.aload_n 0, 1) := by decide +kernel
theorem dX8_init_22 : decode cX8_init 22 = .ok (.sipush 222, 3) := by decide +kernel
theorem dX8_init_25 : decode cX8_init 25 = .ok (.newarray .int, 2) := by decide +kernel
theorem dX8_init_27 : decode cX8_init 27 = .ok (.putfield 16, 3) := by decide +kernel
theorem dX8_init_30 : decode cX8_init 30 = .ok (.aload_n 0, 1) := by decide +kernel
theorem dX8_init_31 : decode cX8_init 31 = .ok (.iconst 2, 1) := by decide +kernel
theorem dX8_init_32 : decode cX8_init 32 = .ok (.newarray .boolean, 2) := by decide +kernel
theorem dX8_init_34 : decode cX8_init 34 = .ok (.putfield 19, 3) := by decide +kernel
theorem dX8_init_37 : decode cX8_init 37 = .ok (.aload_n 0, 1) := by decide +kernel
theorem dX8_init_38 : decode cX8_init 38 = .ok (.bipush 10, 2) := by decide +kernel
theorem dX8_init_40 : decode cX8_init 40 = .ok (.newarray .int, 2) := by decide +kernel
theorem dX8_init_42 : decode cX8_init 42 = .ok (.putfield 23, 3) := by decide +kernel
theorem dX8_init_45 : decode cX8_init 45 = .ok (.aload_n 0, 1) := by decide +kernel
theorem dX8_init_46 : decode cX8_init 46 = .ok (.bipush 60, 2) := by decide +kernel
theorem dX8_init_48 : decode cX8_init 48 = .ok (.newarray .int, 2) := by decide +kernel
theorem dX8_init_50 : decode cX8_init 50 = .ok (.putfield 26, 3) := by decide +kernel
theorem dX8_init_53 : decode cX8_init 53 = .ok (.aload_n 0, 1) := by decide +kernel
theorem dX8_init_54 : decode cX8_init 54 = .ok (.bipush 10, 2) := by decide +kernel
theorem dX8_init_56 : decode cX8_init 56 = .ok (.newarray .int, 2) := by decide +kernel
theorem dX8_init_58 : decode cX8_init 58 = .ok (.putfield 29, 3) := by decide +kernel
theorem dX8_init_61 : decode cX8_init 61 = .ok (.aload_n 0, 1) := by decide +kernel
theorem dX8_init_62 : decode cX8_init 62 = .ok (.bipush 10, 2) := by decide +kernel
theorem dX8_init_64 : decode cX8_init 64 = .ok (.newarray .int, 2) := by decide +kernel
theorem dX8_init_66 : decode cX8_init 66 = .ok (.putfield 32, 3) := by decide +kernel
theorem dX8_init_69 : decode cX8_init 69 = .ok (.aload_n 0, 1) := by decide +kernel
theorem dX8_init_70 : decode cX8_init 70 = .ok (.bipush 121, 2) := by decide +kernel
theorem dX8_init_72 : decode cX8_init 72 = .ok (.newarray .int, 2) := by decide +kernel
theorem dX8_init_74 : decode cX8_init 74 = .ok (.putfield 35, 3) := by decide +kernel
theorem dX8_init_77 : decode cX8_init 77 = .ok (.aload_n 0, 1) := by decide +kernel
theorem dX8_init_78 : decode cX8_init 78 = .ok (.bipush 121, 2) := by decide +kernel
theorem dX8_init_80 : decode cX8_init 80 = .ok (.newarray .int, 2) := by decide +kernel
theorem dX8_init_82 : decode cX8_init 82 = .ok (.putfield 38, 3) := by decide +kernel
theorem dX8_init_85 : decode cX8_init 85 = .ok (.aload_n 0, 1) := by decide +kernel
theorem dX8_init_86 : decode cX8_init 86 = .ok (.bipush 20, 2) := by decide +kernel
theorem dX8_init_88 : decode cX8_init 88 = .ok (.newarray .int, 2) := by decide +kernel
theorem dX8_init_90 : decode cX8_init 90 = .ok (.putfield 41, 3) := by decide +kernel
theorem dX8_init_93 : decode cX8_init 93 = .ok (.aload_n 0, 1) := by decide +kernel
theorem dX8_init_94 : decode cX8_init 94 = .ok (.bipush 121, 2) := by decide +kernel
theorem dX8_init_96 : decode cX8_init 96 = .ok (.newarray .int, 2) := by decide +kernel
theorem dX8_init_98 : decode cX8_init 98 = .ok (.putfield 44, 3) := by decide +kernel
theorem dX8_init_101 : decode cX8_init 101 = .ok (.aload_n 0, 1) := by decide +kernel
theorem dX8_init_102 : decode cX8_init 102 = .ok (.bipush 64, 2) := by decide +kernel
theorem dX8_init_104 : decode cX8_init 104 = .ok (.newarray .int, 2) := by decide +kernel
theorem dX8_init_106 : decode cX8_init 106 = .ok (.putfield 47, 3) := by decide +kernel
theorem dX8_init_109 : decode cX8_init 109 = .ok (.aload_n 0, 1) := by decide +kernel
theorem dX8_init_110 : decode cX8_init 110 = .ok (.bipush 8, 2) := by decide +kernel
theorem dX8_init_112 : decode cX8_init 112 = .ok (.newarray .int, 2) := by decide +kernel
theorem dX8_init_114 : decode cX8_init 114 = .ok (.putfield 50, 3) := by decide +kernel
theorem dX8_init_117 : decode cX8_init 117 = .ok (.aload_n 0, 1) := by decide +kernel
theorem dX8_init_118 : decode cX8_init 118 = .ok (.bipush 7, 2) := by decide +kernel
theorem dX8_init_120 : decode cX8_init 120 = .ok (.newarray .int, 2) := by decide +kernel
theorem dX8_init_122 : decode cX8_init 122 = .ok (.putfield 53, 3) := by decide +kernel
theorem dX8_init_125 : decode cX8_init 125 = .ok (.aload_n 0, 1) := by decide +kernel
theorem dX8_init_126 : decode cX8_init 126 = .ok (.bipush 7, 2) := by decide +kernel
theorem dX8_init_128 : decode cX8_init 128 = .ok (.newarray .int, 2) := by decide +kernel
theorem dX8_init_130 : decode cX8_init 130 = .ok (.putfield 56, 3) := by decide +kernel
theorem dX8_init_133 : decode cX8_init 133 = .ok (.aload_n 0, 1) := by decide +kernel
theorem dX8_init_134 : decode cX8_init 134 = .ok (.bipush 7, 2) := by decide +kernel
theorem dX8_init_136 : decode cX8_init 136 = .ok (.newarray .int, 2) := by decide +kernel
theorem dX8_init_138 : decode cX8_init 138 = .ok (.putfield 59, 3) := by decide +kernel
theorem dX8_init_141 : decode cX8_init 141 = .ok (.aload_n 0, 1) := by decide +kernel
theorem dX8_init_142 : decode cX8_init 142 = .ok (.getfield 7, 3) := by decide +kernel
theorem dX8_init_145 : decode cX8_init 145 = .ok (.iconst 2, 1) := by decide +kernel
theorem dX8_init_146 : decode cX8_init 146 = .ok (.iconst 2, 1) := by decide +kernel
theorem dX8_init_147 : decode cX8_init 147 = .ok (.iastore, 1) := by decide +kernel
theorem dX8_init_148 : decode cX8_init 148 = .ok (.aload_n 0, 1) := by decide +kernel
theorem dX8_init_149 : decode cX8_init 149 = .ok (.getfield 7, 3) := by decide +kernel
theorem dX8_init_152 : decode cX8_init 152 = .ok (.iconst 3, 1) := by decide +kernel
theorem dX8_init_153 : decode cX8_init 153 = .ok (.iconst 2, 1) := by decide +kernel
theorem dX8_init_154 : decode cX8_init 154 = .ok (.iastore, 1) := by decide +kernel
theorem dX8_init_155 : decode cX8_init 155 = .ok (.aload_n 0, 1) := by decide +kernel
theorem dX8_init_156 : decode cX8_init 156 = .ok (.getfield 7, 3) := by decide +kernel
theorem dX8_init_159 : decode cX8_init 159 = .ok (.iconst 4, 1) := by decide +kernel
theorem dX8_init_160 : decode cX8_init 160 = .ok (.iconst 1, 1) := by decide +kernel
theorem dX8_init_161 : decode cX8_init 161 = .ok (.iastore, 1) := by decide +kernel
theorem dX8_init_162 : decode cX8_init 162 = .ok (.aload_n 0, 1) := by decide +kernel
theorem dX8_init_163 : decode cX8_init 163 = .ok (.getfield 7, 3) := by decide +kernel
theorem dX8_init_166 : decode cX8_init 166 = .ok (.iconst 5, 1) := by decide +kernel
theorem dX8_init_167 : decode cX8_init 167 = .ok (.iconst 3, 1) := by decide +kernel
theorem dX8_init_168 : decode cX8_init 168 = .ok (.iastore, 1) := by decide +kernel
theorem dX8_init_169 : decode cX8_init 169 = .ok (.return_, 1) := by decide +kernel
theorem dX8_in_0 : decode cX8_in 0 = .ok (.iload_n 0, 1) := by decide +kernel
theorem dX8_in_1 : decode cX8_in 1 = .ok (.iload_n 1, 1) := by decide +kernel
theorem dX8_in_2 : decode cX8_in 2 = .ok (.if_icmp .lt 12, 3) := by decide +kernel
theorem dX8_in_5 : decode cX8_in 5 = .ok (.iload_n 0, 1) := by decide +kernel
theorem dX8_in_6 : decode cX8_in 6 = .ok (.iload_n 2, 1) := by decide +kernel
theorem dX8_in_7 : decode cX8_in 7 = .ok (.if_icmp .gt 7, 3) := by decide +kernel
theorem dX8_in_10 : decode cX8_in 10 = .ok (.iconst 1, 1) := by decide +kernel
theorem dX8_in_11 : decode cX8_in 11 = .ok (.goto 4, 3) := by decide +kernel
theorem dX8_in_14 : decode cX8_in 14 = .ok (.iconst 0, 1) := by decide +kernel
theorem dX8_in_15 : decode cX8_in 15 = .ok (.ireturn, 1) := by decide +kernel
theorem dX8_bring_0 : decode cX8_bring 0 = .ok (.iconst 0, 1) := by decide +kernel
theorem dX8_bring_1 : decode cX8_bring 1 = .ok (.istore 5, 2) := by decide +kernel
theorem dX8_bring_3 : decode cX8_bring 3 = .ok (.iload 5, 2) := by decide +kernel
theorem dX8_bring_5 : decode cX8_bring 5 = .ok (.iload 4, 2) := by decide +kernel
theorem dX8_bring_7 : decode cX8_bring 7 = .ok (.if_icmp .ge 21, 3) := by decide +kernel
theorem dX8_bring_10 : decode cX8_bring 10 = .ok (.aload_n 2, 1) := by decide +kernel
theorem dX8_bring_11 : decode cX8_bring 11 = .ok (.iload_n 3, 1) := by decide +kernel
theorem dX8_bring_12 : decode cX8_bring 12 = .ok (.iload 5, 2) := by decide +kernel
theorem dX8_bring_14 : decode cX8_bring 14 = .ok (.iadd, 1) := by decide +kernel
theorem dX8_bring_15 : decode cX8_bring 15 = .ok (.aload_n 0, 1) := by decide +kernel
theorem dX8_bring_16 : decode cX8_bring 16 = .ok (.iload_n 1, 1) := by decide +kernel
theorem dX8_bring_17 : decode cX8_bring 17 = .ok (.iload 5, 2) := by decide +kernel
theorem dX8_bring_19 : decode cX8_bring 19 = .ok (.iadd, 1) := by decide +kernel
theorem dX8_bring_20 : decode cX8_bring 20 = .ok (.iaload, 1) := by decide +kernel
theorem dX8_bring_21 : decode cX8_bring 21 = .ok (.iastore, 1) := by decide +kernel
theorem dX8_bring_22 : decode cX8_bring 22 = .ok (.iinc 5 1, 3) := by decide +kernel
theorem dX8_bring_25 : decode cX8_bring 25 = .ok (.goto (-22), 3) := by decide +kernel
theorem dX8_bring_28 : decode cX8_bring 28 = .ok (.return_, 1) := by decide +kernel
theorem dX8_has_0 : decode cX8_has 0 = .ok (.iload_n 0, 1) := by decide +kernel
theorem dX8_has_1 : decode cX8_has 1 = .ok (.iload_n 1, 1) := by decide +kernel
theorem dX8_has_2 : decode cX8_has 2 = .ok (.ishr, 1) := by decide +kernel
theorem dX8_has_3 : decode cX8_has 3 = .ok (.iconst 1, 1) := by decide +kernel
theorem dX8_has_4 : decode cX8_has 4 = .ok (.iand, 1) := by decide +kernel
theorem dX8_has_5 : decode cX8_has 5 = .ok (.iconst 1, 1) := by decide +kernel
theorem dX8_has_6 : decode cX8_has 6 = .ok (.if_icmp .ne 7, 3) := by decide +kernel
theorem dX8_has_9 : decode cX8_has 9 = .ok (.iconst 1, 1) := by decide +kernel
theorem dX8_has_10 : decode cX8_has 10 = .ok (.goto 4, 3) := by decide +kernel
theorem dX8_has_13 : decode cX8_has 13 = .ok (.iconst 0, 1) := by decide +kernel
theorem dX8_has_14 : decode cX8_has 14 = .ok (.ireturn, 1) := by decide +kernel
theorem dX8_ones_0 : decode cX8_ones 0 = .ok (.iconst 0, 1) := by decide +kernel
theorem dX8_ones_1 : decode cX8_ones 1 = .ok (.istore_n 1, 1) := by decide +kernel
theorem dX8_ones_2 : decode cX8_ones 2 = .ok (.iconst 0, 1) := by decide +kernel
theorem dX8_ones_3 : decode cX8_ones 3 = .ok (.istore_n 2, 1) := by decide +kernel
theorem dX8_ones_4 : decode cX8_ones 4 = .ok (.iload_n 2, 1) := by decide +kernel
theorem dX8_ones_5 : decode cX8_ones 5 = .ok (.bipush 8, 2) := by decide +kernel
theorem dX8_ones_7 : decode cX8_ones 7 = .ok (.if_icmp .ge 17, 3) := by decide +kernel
theorem dX8_ones_10 : decode cX8_ones 10 = .ok (.iload_n 1, 1) := by decide +kernel
theorem dX8_ones_11 : decode cX8_ones 11 = .ok (.iload_n 0, 1) := by decide +kernel
theorem dX8_ones_12 : decode cX8_ones 12 = .ok (.iload_n 2, 1) := by decide +kernel
theorem dX8_ones_13 : decode cX8_ones 13 = .ok (.ishr, 1) := by decide +kernel
theorem dX8_ones_14 : decode cX8_ones 14 = .ok (.iconst 1, 1) := by decide +kernel
theorem dX8_ones_15 : decode cX8_ones 15 = .ok (.iand, 1) := by decide +kernel
theorem dX8_ones_16 : decode cX8_ones 16 = .ok (.iadd, 1) := by decide +kernel
theorem dX8_ones_17 : decode cX8_ones 17 = .ok (.istore_n 1, 1) := by decide +kernel
theorem dX8_ones_18 : decode cX8_ones 18 = .ok (.iinc 2 1, 3) := by decide +kernel
theorem dX8_ones_21 : decode cX8_ones 21 = .ok (.goto (-17), 3) := by decide +kernel
theorem dX8_ones_24 : decode cX8_ones 24 = .ok (.iload_n 1, 1) := by decide +kernel
theorem dX8_ones_25 : decode cX8_ones 25 = .ok (.ireturn, 1) := by decide +kernel
theorem dX8_lesser_0 : decode cX8_lesser 0 = .ok (.iload_n 0, 1) := by decide +kernel
theorem dX8_lesser_1 : decode cX8_lesser 1 = .ok (.iload_n 1, 1) := by decide +kernel
theorem dX8_lesser_2 : decode cX8_lesser 2 = .ok (.if_icmp .ge 7, 3) := by decide +kernel
theorem dX8_lesser_5 : decode cX8_lesser 5 = .ok (.iload_n 0, 1) := by decide +kernel
theorem dX8_lesser_6 : decode cX8_lesser 6 = .ok (.goto 4, 3) := by decide +kernel
theorem dX8_lesser_9 : decode cX8_lesser 9 = .ok (.iload_n 1, 1) := by decide +kernel
theorem dX8_lesser_10 : decode cX8_lesser 10 = .ok (.ireturn, 1) := by decide +kernel
theorem dX8_isTale_0 : decode cX8_isTale 0 = .ok (.iload_n 1, 1) := by decide +kernel
theorem dX8_isTale_1 : decode cX8_isTale 1 = .ok (.iconst 0, 1) := by decide +kernel
theorem dX8_isTale_2 : decode cX8_isTale 2 = .ok (.aload_n 0, 1) := by decide +kernel
theorem dX8_isTale_3 : decode cX8_isTale 3 = .ok (.getfield 7, 3) := by decide +kernel
theorem dX8_isTale_6 : decode cX8_isTale 6 = .ok (.iconst 0, 1) := by decide +kernel
theorem dX8_isTale_7 : decode cX8_isTale 7 = .ok (.iaload, 1) := by decide +kernel
theorem dX8_isTale_8 : decode cX8_isTale 8 = .ok (.iconst 1, 1) := by decide +kernel
theorem dX8_isTale_9 : decode cX8_isTale 9 = .ok (.isub, 1) := by decide +kernel
theorem dX8_isTale_10 : decode cX8_isTale 10 = .ok (.invokestatic 62, 3) := by decide +kernel
theorem dX8_isTale_13 : decode cX8_isTale 13 = .ok (.ireturn, 1) := by decide +kernel
theorem dX8_takes_0 : decode cX8_takes 0 = .ok (.aload_n 0, 1) := by decide +kernel
theorem dX8_takes_1 : decode cX8_takes 1 = .ok (.aload_n 0, 1) := by decide +kernel
theorem dX8_takes_2 : decode cX8_takes 2 = .ok (.getfield 7, 3) := by decide +kernel
theorem dX8_takes_5 : decode cX8_takes 5 = .ok (.bipush 6, 2) := by decide +kernel
theorem dX8_takes_7 : decode cX8_takes 7 = .ok (.iload_n 1, 1) := by decide +kernel
theorem dX8_takes_8 : decode cX8_takes 8 = .ok (.iadd, 1) := by decide +kernel
theorem dX8_takes_9 : decode cX8_takes 9 = .ok (.iaload, 1) := by decide +kernel
theorem dX8_takes_10 : decode cX8_takes 10 = .ok (.putfield 66, 3) := by decide +kernel
theorem dX8_takes_13 : decode cX8_takes 13 = .ok (.aload_n 0, 1) := by decide +kernel
theorem dX8_takes_14 : decode cX8_takes 14 = .ok (.aload_n 0, 1) := by decide +kernel
theorem dX8_takes_15 : decode cX8_takes 15 = .ok (.getfield 7, 3) := by decide +kernel
theorem dX8_takes_18 : decode cX8_takes 18 = .ok (.bipush 6, 2) := by decide +kernel
theorem dX8_takes_20 : decode cX8_takes 20 = .ok (.iload_n 2, 1) := by decide +kernel
theorem dX8_takes_21 : decode cX8_takes 21 = .ok (.iadd, 1) := by decide +kernel
theorem dX8_takes_22 : decode cX8_takes 22 = .ok (.iaload, 1) := by decide +kernel
theorem dX8_takes_23 : decode cX8_takes 23 = .ok (.putfield 70, 3) := by decide +kernel
theorem dX8_takes_26 : decode cX8_takes 26 = .ok (.aload_n 0, 1) := by decide +kernel
theorem dX8_takes_27 : decode cX8_takes 27 = .ok (.getfield 7, 3) := by decide +kernel
theorem dX8_takes_30 : decode cX8_takes 30 = .ok (.bipush 30, 2) := by decide +kernel
theorem dX8_takes_32 : decode cX8_takes 32 = .ok (.bipush 10, 2) := by decide +kernel
theorem dX8_takes_34 : decode cX8_takes 34 = .ok (.iload_n 1, 1) := by decide +kernel
theorem dX8_takes_35 : decode cX8_takes 35 = .ok (.imul, 1) := by decide +kernel
theorem dX8_takes_36 : decode cX8_takes 36 = .ok (.iadd, 1) := by decide +kernel
theorem dX8_takes_37 : decode cX8_takes 37 = .ok (.aload_n 0, 1) := by decide +kernel
theorem dX8_takes_38 : decode cX8_takes 38 = .ok (.getfield 29, 3) := by decide +kernel
theorem dX8_takes_41 : decode cX8_takes 41 = .ok (.iconst 0, 1) := by decide +kernel
theorem dX8_takes_42 : decode cX8_takes 42 = .ok (.aload_n 0, 1) := by decide +kernel
theorem dX8_takes_43 : decode cX8_takes 43 = .ok (.getfield 66, 3) := by decide +kernel
theorem dX8_takes_46 : decode cX8_takes 46 = .ok (.invokestatic 73, 3) := by decide +kernel
theorem dX8_takes_49 : decode cX8_takes 49 = .ok (.aload_n 0, 1) := by decide +kernel
theorem dX8_takes_50 : decode cX8_takes 50 = .ok (.getfield 7, 3) := by decide +kernel
theorem dX8_takes_53 : decode cX8_takes 53 = .ok (.bipush 30, 2) := by decide +kernel
theorem dX8_takes_55 : decode cX8_takes 55 = .ok (.bipush 10, 2) := by decide +kernel
theorem dX8_takes_57 : decode cX8_takes 57 = .ok (.iload_n 2, 1) := by decide +kernel
theorem dX8_takes_58 : decode cX8_takes 58 = .ok (.imul, 1) := by decide +kernel
theorem dX8_takes_59 : decode cX8_takes 59 = .ok (.iadd, 1) := by decide +kernel
theorem dX8_takes_60 : decode cX8_takes 60 = .ok (.aload_n 0, 1) := by decide +kernel
theorem dX8_takes_61 : decode cX8_takes 61 = .ok (.getfield 32, 3) := by decide +kernel
theorem dX8_takes_64 : decode cX8_takes 64 = .ok (.iconst 0, 1) := by decide +kernel
theorem dX8_takes_65 : decode cX8_takes 65 = .ok (.aload_n 0, 1) := by decide +kernel
theorem dX8_takes_66 : decode cX8_takes 66 = .ok (.getfield 70, 3) := by decide +kernel
theorem dX8_takes_69 : decode cX8_takes 69 = .ok (.invokestatic 73, 3) := by decide +kernel
theorem dX8_takes_72 : decode cX8_takes 72 = .ok (.return_, 1) := by decide +kernel
theorem dX8_changeOf_0 : decode cX8_changeOf 0 = .ok (.iload_n 1, 1) := by decide +kernel
theorem dX8_changeOf_1 : decode cX8_changeOf 1 = .ok (.iload_n 2, 1) := by decide +kernel
theorem dX8_changeOf_2 : decode cX8_changeOf 2 = .ok (.if_icmp .ge 9, 3) := by decide +kernel
theorem dX8_changeOf_5 : decode cX8_changeOf 5 = .ok (.iload_n 2, 1) := by decide +kernel
theorem dX8_changeOf_6 : decode cX8_changeOf 6 = .ok (.iload_n 1, 1) := by decide +kernel
theorem dX8_changeOf_7 : decode cX8_changeOf 7 = .ok (.isub, 1) := by decide +kernel
theorem dX8_changeOf_8 : decode cX8_changeOf 8 = .ok (.goto 6, 3) := by decide +kernel
theorem dX8_changeOf_11 : decode cX8_changeOf 11 = .ok (.iload_n 1, 1) := by decide +kernel
theorem dX8_changeOf_12 : decode cX8_changeOf 12 = .ok (.iload_n 2, 1) := by decide +kernel
theorem dX8_changeOf_13 : decode cX8_changeOf 13 = .ok (.isub, 1) := by decide +kernel
theorem dX8_changeOf_14 : decode cX8_changeOf 14 = .ok (.istore_n 3, 1) := by decide +kernel
theorem dX8_changeOf_15 : decode cX8_changeOf 15 = .ok (.iload_n 3, 1) := by decide +kernel
theorem dX8_changeOf_16 : decode cX8_changeOf 16 = .ok (.aload_n 0, 1) := by decide +kernel
theorem dX8_changeOf_17 : decode cX8_changeOf 17 = .ok (.getfield 7, 3) := by decide +kernel
theorem dX8_changeOf_20 : decode cX8_changeOf 20 = .ok (.iconst 4, 1) := by decide +kernel
theorem dX8_changeOf_21 : decode cX8_changeOf 21 = .ok (.iaload, 1) := by decide +kernel
theorem dX8_changeOf_22 : decode cX8_changeOf 22 = .ok (.imul, 1) := by decide +kernel
theorem dX8_changeOf_23 : decode cX8_changeOf 23 = .ok (.iload_n 3, 1) := by decide +kernel
theorem dX8_changeOf_24 : decode cX8_changeOf 24 = .ok (.ifCond .ne 7, 3) := by decide +kernel
theorem dX8_changeOf_27 : decode cX8_changeOf 27 = .ok (.iconst 0, 1) := by decide +kernel
theorem dX8_changeOf_28 : decode cX8_changeOf 28 = .ok (.goto 9, 3) := by decide +kernel
theorem dX8_changeOf_31 : decode cX8_changeOf 31 = .ok (.aload_n 0, 1) := by decide +kernel
theorem dX8_changeOf_32 : decode cX8_changeOf 32 = .ok (.getfield 7, 3) := by decide +kernel
theorem dX8_changeOf_35 : decode cX8_changeOf 35 = .ok (.iconst 5, 1) := by decide +kernel
theorem dX8_changeOf_36 : decode cX8_changeOf 36 = .ok (.iaload, 1) := by decide +kernel
theorem dX8_changeOf_37 : decode cX8_changeOf 37 = .ok (.invokestatic 77, 3) := by decide +kernel
theorem dX8_changeOf_40 : decode cX8_changeOf 40 = .ok (.ireturn, 1) := by decide +kernel
theorem dX8_isTurned_0 : decode cX8_isTurned 0 = .ok (.iload_n 1, 1) := by decide +kernel
theorem dX8_isTurned_1 : decode cX8_isTurned 1 = .ok (.iconst 1, 1) := by decide +kernel
theorem dX8_isTurned_2 : decode cX8_isTurned 2 = .ok (.iadd, 1) := by decide +kernel
theorem dX8_isTurned_3 : decode cX8_isTurned 3 = .ok (.aload_n 0, 1) := by decide +kernel
theorem dX8_isTurned_4 : decode cX8_isTurned 4 = .ok (.getfield 66, 3) := by decide +kernel
theorem dX8_isTurned_7 : decode cX8_isTurned 7 = .ok (.if_icmp .ge 17, 3) := by decide +kernel
theorem dX8_isTurned_10 : decode cX8_isTurned 10 = .ok (.iload_n 2, 1) := by decide +kernel
theorem dX8_isTurned_11 : decode cX8_isTurned 11 = .ok (.iconst 1, 1) := by decide +kernel
theorem dX8_isTurned_12 : decode cX8_isTurned 12 = .ok (.iadd, 1) := by decide +kernel
theorem dX8_isTurned_13 : decode cX8_isTurned 13 = .ok (.aload_n 0, 1) := by decide +kernel
theorem dX8_isTurned_14 : decode cX8_isTurned 14 = .ok (.getfield 70, 3) := by decide +kernel
theorem dX8_isTurned_17 : decode cX8_isTurned 17 = .ok (.if_icmp .ge 7, 3) := by decide +kernel
theorem dX8_isTurned_20 : decode cX8_isTurned 20 = .ok (.iconst 1, 1) := by decide +kernel
theorem dX8_isTurned_21 : decode cX8_isTurned 21 = .ok (.goto 4, 3) := by decide +kernel
theorem dX8_isTurned_24 : decode cX8_isTurned 24 = .ok (.iconst 0, 1) := by decide +kernel
theorem dX8_isTurned_25 : decode cX8_isTurned 25 = .ok (.istore_n 3, 1) := by decide +kernel
theorem dX8_isTurned_26 : decode cX8_isTurned 26 = .ok (.iload_n 3, 1) := by decide +kernel
theorem dX8_isTurned_27 : decode cX8_isTurned 27 = .ok (.ifCond .eq 56, 3) := by decide +kernel
theorem dX8_isTurned_30 : decode cX8_isTurned 30 = .ok (.aload_n 0, 1) := by decide +kernel
theorem dX8_isTurned_31 : decode cX8_isTurned 31 = .ok (.getfield 29, 3) := by decide +kernel
theorem dX8_isTurned_34 : decode cX8_isTurned 34 = .ok (.iload_n 1, 1) := by decide +kernel
theorem dX8_isTurned_35 : decode cX8_isTurned 35 = .ok (.iaload, 1) := by decide +kernel
theorem dX8_isTurned_36 : decode cX8_isTurned 36 = .ok (.aload_n 0, 1) := by decide +kernel
theorem dX8_isTurned_37 : decode cX8_isTurned 37 = .ok (.getfield 32, 3) := by decide +kernel
theorem dX8_isTurned_40 : decode cX8_isTurned 40 = .ok (.iload_n 2, 1) := by decide +kernel
theorem dX8_isTurned_41 : decode cX8_isTurned 41 = .ok (.iconst 1, 1) := by decide +kernel
theorem dX8_isTurned_42 : decode cX8_isTurned 42 = .ok (.iadd, 1) := by decide +kernel
theorem dX8_isTurned_43 : decode cX8_isTurned 43 = .ok (.iaload, 1) := by decide +kernel
theorem dX8_isTurned_44 : decode cX8_isTurned 44 = .ok (.if_icmp .ne 39, 3) := by decide +kernel
theorem dX8_isTurned_47 : decode cX8_isTurned 47 = .ok (.aload_n 0, 1) := by decide +kernel
theorem dX8_isTurned_48 : decode cX8_isTurned 48 = .ok (.getfield 29, 3) := by decide +kernel
theorem dX8_isTurned_51 : decode cX8_isTurned 51 = .ok (.iload_n 1, 1) := by decide +kernel
theorem dX8_isTurned_52 : decode cX8_isTurned 52 = .ok (.iconst 1, 1) := by decide +kernel
theorem dX8_isTurned_53 : decode cX8_isTurned 53 = .ok (.iadd, 1) := by decide +kernel
theorem dX8_isTurned_54 : decode cX8_isTurned 54 = .ok (.iaload, 1) := by decide +kernel
theorem dX8_isTurned_55 : decode cX8_isTurned 55 = .ok (.aload_n 0, 1) := by decide +kernel
theorem dX8_isTurned_56 : decode cX8_isTurned 56 = .ok (.getfield 32, 3) := by decide +kernel
theorem dX8_isTurned_59 : decode cX8_isTurned 59 = .ok (.iload_n 2, 1) := by decide +kernel
theorem dX8_isTurned_60 : decode cX8_isTurned 60 = .ok (.iaload, 1) := by decide +kernel
theorem dX8_isTurned_61 : decode cX8_isTurned 61 = .ok (.if_icmp .ne 22, 3) := by decide +kernel
theorem dX8_isTurned_64 : decode cX8_isTurned 64 = .ok (.aload_n 0, 1) := by decide +kernel
theorem dX8_isTurned_65 : decode cX8_isTurned 65 = .ok (.getfield 29, 3) := by decide +kernel
theorem dX8_isTurned_68 : decode cX8_isTurned 68 = .ok (.iload_n 1, 1) := by decide +kernel
theorem dX8_isTurned_69 : decode cX8_isTurned 69 = .ok (.iaload, 1) := by decide +kernel
theorem dX8_isTurned_70 : decode cX8_isTurned 70 = .ok (.aload_n 0, 1) := by decide +kernel
theorem dX8_isTurned_71 : decode cX8_isTurned 71 = .ok (.getfield 32, 3) := by decide +kernel
theorem dX8_isTurned_74 : decode cX8_isTurned 74 = .ok (.iload_n 2, 1) := by decide +kernel
theorem dX8_isTurned_75 : decode cX8_isTurned 75 = .ok (.iaload, 1) := by decide +kernel
theorem dX8_isTurned_76 : decode cX8_isTurned 76 = .ok (.if_icmp .eq 7, 3) := by decide +kernel
theorem dX8_isTurned_79 : decode cX8_isTurned 79 = .ok (.iconst 1, 1) := by decide +kernel
theorem dX8_isTurned_80 : decode cX8_isTurned 80 = .ok (.goto 4, 3) := by decide +kernel
theorem dX8_isTurned_83 : decode cX8_isTurned 83 = .ok (.iconst 0, 1) := by decide +kernel
theorem dX8_isTurned_84 : decode cX8_isTurned 84 = .ok (.ireturn, 1) := by decide +kernel
theorem dX8_stepCost_0 : decode cX8_stepCost 0 = .ok (.iload_n 3, 1) := by decide +kernel
theorem dX8_stepCost_1 : decode cX8_stepCost 1 = .ok (.tableswitch 105 0 2 #[27, 65, 85], 27) := by decide +kernel
theorem dX8_stepCost_28 : decode cX8_stepCost 28 = .ok (.iload_n 1, 1) := by decide +kernel
theorem dX8_stepCost_29 : decode cX8_stepCost 29 = .ok (.aload_n 0, 1) := by decide +kernel
theorem dX8_stepCost_30 : decode cX8_stepCost 30 = .ok (.getfield 66, 3) := by decide +kernel
theorem dX8_stepCost_33 : decode cX8_stepCost 33 = .ok (.if_icmp .ge 30, 3) := by decide +kernel
theorem dX8_stepCost_36 : decode cX8_stepCost 36 = .ok (.iload_n 2, 1) := by decide +kernel
theorem dX8_stepCost_37 : decode cX8_stepCost 37 = .ok (.aload_n 0, 1) := by decide +kernel
