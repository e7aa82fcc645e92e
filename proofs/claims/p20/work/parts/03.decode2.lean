theorem dX8_stepCost_38 : decode cX8_stepCost 38 = .ok (.getfield 70, 3) := by decide +kernel
theorem dX8_stepCost_41 : decode cX8_stepCost 41 = .ok (.if_icmp .ge 22, 3) := by decide +kernel
theorem dX8_stepCost_44 : decode cX8_stepCost 44 = .ok (.aload_n 0, 1) := by decide +kernel
theorem dX8_stepCost_45 : decode cX8_stepCost 45 = .ok (.aload_n 0, 1) := by decide +kernel
theorem dX8_stepCost_46 : decode cX8_stepCost 46 = .ok (.getfield 29, 3) := by decide +kernel
theorem dX8_stepCost_49 : decode cX8_stepCost 49 = .ok (.iload_n 1, 1) := by decide +kernel
theorem dX8_stepCost_50 : decode cX8_stepCost 50 = .ok (.iaload, 1) := by decide +kernel
theorem dX8_stepCost_51 : decode cX8_stepCost 51 = .ok (.aload_n 0, 1) := by decide +kernel
theorem dX8_stepCost_52 : decode cX8_stepCost 52 = .ok (.getfield 32, 3) := by decide +kernel
theorem dX8_stepCost_55 : decode cX8_stepCost 55 = .ok (.iload_n 2, 1) := by decide +kernel
theorem dX8_stepCost_56 : decode cX8_stepCost 56 = .ok (.iaload, 1) := by decide +kernel
theorem dX8_stepCost_57 : decode cX8_stepCost 57 = .ok (.invokevirtual 81, 3) := by decide +kernel
theorem dX8_stepCost_60 : decode cX8_stepCost 60 = .ok (.goto 5, 3) := by decide +kernel
theorem dX8_stepCost_63 : decode cX8_stepCost 63 = .ok (.ldc 84, 2) := by decide +kernel
theorem dX8_stepCost_65 : decode cX8_stepCost 65 = .ok (.ireturn, 1) := by decide +kernel
theorem dX8_stepCost_66 : decode cX8_stepCost 66 = .ok (.iload_n 1, 1) := by decide +kernel
theorem dX8_stepCost_67 : decode cX8_stepCost 67 = .ok (.aload_n 0, 1) := by decide +kernel
theorem dX8_stepCost_68 : decode cX8_stepCost 68 = .ok (.getfield 66, 3) := by decide +kernel
theorem dX8_stepCost_71 : decode cX8_stepCost 71 = .ok (.if_icmp .ge 12, 3) := by decide +kernel
theorem dX8_stepCost_74 : decode cX8_stepCost 74 = .ok (.aload_n 0, 1) := by decide +kernel
theorem dX8_stepCost_75 : decode cX8_stepCost 75 = .ok (.getfield 7, 3) := by decide +kernel
theorem dX8_stepCost_78 : decode cX8_stepCost 78 = .ok (.iconst 2, 1) := by decide +kernel
theorem dX8_stepCost_79 : decode cX8_stepCost 79 = .ok (.iaload, 1) := by decide +kernel
theorem dX8_stepCost_80 : decode cX8_stepCost 80 = .ok (.goto 5, 3) := by decide +kernel
theorem dX8_stepCost_83 : decode cX8_stepCost 83 = .ok (.ldc 84, 2) := by decide +kernel
theorem dX8_stepCost_85 : decode cX8_stepCost 85 = .ok (.ireturn, 1) := by decide +kernel
theorem dX8_stepCost_86 : decode cX8_stepCost 86 = .ok (.iload_n 2, 1) := by decide +kernel
theorem dX8_stepCost_87 : decode cX8_stepCost 87 = .ok (.aload_n 0, 1) := by decide +kernel
theorem dX8_stepCost_88 : decode cX8_stepCost 88 = .ok (.getfield 70, 3) := by decide +kernel
theorem dX8_stepCost_91 : decode cX8_stepCost 91 = .ok (.if_icmp .ge 12, 3) := by decide +kernel
theorem dX8_stepCost_94 : decode cX8_stepCost 94 = .ok (.aload_n 0, 1) := by decide +kernel
theorem dX8_stepCost_95 : decode cX8_stepCost 95 = .ok (.getfield 7, 3) := by decide +kernel
theorem dX8_stepCost_98 : decode cX8_stepCost 98 = .ok (.iconst 2, 1) := by decide +kernel
theorem dX8_stepCost_99 : decode cX8_stepCost 99 = .ok (.iaload, 1) := by decide +kernel
theorem dX8_stepCost_100 : decode cX8_stepCost 100 = .ok (.goto 5, 3) := by decide +kernel
theorem dX8_stepCost_103 : decode cX8_stepCost 103 = .ok (.ldc 84, 2) := by decide +kernel
theorem dX8_stepCost_105 : decode cX8_stepCost 105 = .ok (.ireturn, 1) := by decide +kernel
theorem dX8_stepCost_106 : decode cX8_stepCost 106 = .ok (.aload_n 0, 1) := by decide +kernel
theorem dX8_stepCost_107 : decode cX8_stepCost 107 = .ok (.iload_n 1, 1) := by decide +kernel
theorem dX8_stepCost_108 : decode cX8_stepCost 108 = .ok (.iload_n 2, 1) := by decide +kernel
theorem dX8_stepCost_109 : decode cX8_stepCost 109 = .ok (.invokevirtual 85, 3) := by decide +kernel
theorem dX8_stepCost_112 : decode cX8_stepCost 112 = .ok (.ifCond .eq 12, 3) := by decide +kernel
theorem dX8_stepCost_115 : decode cX8_stepCost 115 = .ok (.aload_n 0, 1) := by decide +kernel
theorem dX8_stepCost_116 : decode cX8_stepCost 116 = .ok (.getfield 7, 3) := by decide +kernel
theorem dX8_stepCost_119 : decode cX8_stepCost 119 = .ok (.iconst 3, 1) := by decide +kernel
theorem dX8_stepCost_120 : decode cX8_stepCost 120 = .ok (.iaload, 1) := by decide +kernel
theorem dX8_stepCost_121 : decode cX8_stepCost 121 = .ok (.goto 5, 3) := by decide +kernel
theorem dX8_stepCost_124 : decode cX8_stepCost 124 = .ok (.ldc 84, 2) := by decide +kernel
theorem dX8_stepCost_126 : decode cX8_stepCost 126 = .ok (.ireturn, 1) := by decide +kernel
theorem dX8_firstBy_0 : decode cX8_firstBy 0 = .ok (.iload_n 0, 1) := by decide +kernel
theorem dX8_firstBy_1 : decode cX8_firstBy 1 = .ok (.iconst 3, 1) := by decide +kernel
theorem dX8_firstBy_2 : decode cX8_firstBy 2 = .ok (.if_icmp .ne 7, 3) := by decide +kernel
theorem dX8_firstBy_5 : decode cX8_firstBy 5 = .ok (.iconst 2, 1) := by decide +kernel
theorem dX8_firstBy_6 : decode cX8_firstBy 6 = .ok (.goto 13, 3) := by decide +kernel
theorem dX8_firstBy_9 : decode cX8_firstBy 9 = .ok (.iload_n 0, 1) := by decide +kernel
theorem dX8_firstBy_10 : decode cX8_firstBy 10 = .ok (.iconst 2, 1) := by decide +kernel
theorem dX8_firstBy_11 : decode cX8_firstBy 11 = .ok (.if_icmp .ne 7, 3) := by decide +kernel
theorem dX8_firstBy_14 : decode cX8_firstBy 14 = .ok (.iconst 0, 1) := by decide +kernel
theorem dX8_firstBy_15 : decode cX8_firstBy 15 = .ok (.goto 4, 3) := by decide +kernel
theorem dX8_firstBy_18 : decode cX8_firstBy 18 = .ok (.iconst 1, 1) := by decide +kernel
theorem dX8_firstBy_19 : decode cX8_firstBy 19 = .ok (.ireturn, 1) := by decide +kernel
theorem dX8_otherBy_0 : decode cX8_otherBy 0 = .ok (.iload_n 0, 1) := by decide +kernel
theorem dX8_otherBy_1 : decode cX8_otherBy 1 = .ok (.iconst 3, 1) := by decide +kernel
theorem dX8_otherBy_2 : decode cX8_otherBy 2 = .ok (.if_icmp .ne 7, 3) := by decide +kernel
theorem dX8_otherBy_5 : decode cX8_otherBy 5 = .ok (.iconst 2, 1) := by decide +kernel
theorem dX8_otherBy_6 : decode cX8_otherBy 6 = .ok (.goto 13, 3) := by decide +kernel
theorem dX8_otherBy_9 : decode cX8_otherBy 9 = .ok (.iload_n 0, 1) := by decide +kernel
theorem dX8_otherBy_10 : decode cX8_otherBy 10 = .ok (.iconst 1, 1) := by decide +kernel
theorem dX8_otherBy_11 : decode cX8_otherBy 11 = .ok (.if_icmp .ne 7, 3) := by decide +kernel
theorem dX8_otherBy_14 : decode cX8_otherBy 14 = .ok (.iconst 0, 1) := by decide +kernel
theorem dX8_otherBy_15 : decode cX8_otherBy 15 = .ok (.goto 4, 3) := by decide +kernel
theorem dX8_otherBy_18 : decode cX8_otherBy 18 = .ok (.iconst 1, 1) := by decide +kernel
theorem dX8_otherBy_19 : decode cX8_otherBy 19 = .ok (.ireturn, 1) := by decide +kernel
theorem dX8_cellOf_0 : decode cX8_cellOf 0 = .ok (.bipush 11, 2) := by decide +kernel
theorem dX8_cellOf_2 : decode cX8_cellOf 2 = .ok (.iload_n 0, 1) := by decide +kernel
theorem dX8_cellOf_3 : decode cX8_cellOf 3 = .ok (.imul, 1) := by decide +kernel
theorem dX8_cellOf_4 : decode cX8_cellOf 4 = .ok (.iload_n 1, 1) := by decide +kernel
theorem dX8_cellOf_5 : decode cX8_cellOf 5 = .ok (.iadd, 1) := by decide +kernel
theorem dX8_cellOf_6 : decode cX8_cellOf 6 = .ok (.ireturn, 1) := by decide +kernel
theorem dX8_linesUp_0 : decode cX8_linesUp 0 = .ok (.aload_n 0, 1) := by decide +kernel
theorem dX8_linesUp_1 : decode cX8_linesUp 1 = .ok (.getfield 66, 3) := by decide +kernel
theorem dX8_linesUp_4 : decode cX8_linesUp 4 = .ok (.istore_n 1, 1) := by decide +kernel
theorem dX8_linesUp_5 : decode cX8_linesUp 5 = .ok (.iload_n 1, 1) := by decide +kernel
theorem dX8_linesUp_6 : decode cX8_linesUp 6 = .ok (.ifCond .lt 206, 3) := by decide +kernel
theorem dX8_linesUp_9 : decode cX8_linesUp 9 = .ok (.aload_n 0, 1) := by decide +kernel
theorem dX8_linesUp_10 : decode cX8_linesUp 10 = .ok (.getfield 70, 3) := by decide +kernel
theorem dX8_linesUp_13 : decode cX8_linesUp 13 = .ok (.istore_n 2, 1) := by decide +kernel
theorem dX8_linesUp_14 : decode cX8_linesUp 14 = .ok (.iload_n 2, 1) := by decide +kernel
theorem dX8_linesUp_15 : decode cX8_linesUp 15 = .ok (.ifCond .lt 191, 3) := by decide +kernel
theorem dX8_linesUp_18 : decode cX8_linesUp 18 = .ok (.iload_n 1, 1) := by decide +kernel
theorem dX8_linesUp_19 : decode cX8_linesUp 19 = .ok (.aload_n 0, 1) := by decide +kernel
theorem dX8_linesUp_20 : decode cX8_linesUp 20 = .ok (.getfield 66, 3) := by decide +kernel
theorem dX8_linesUp_23 : decode cX8_linesUp 23 = .ok (.if_icmp .ne 15, 3) := by decide +kernel
theorem dX8_linesUp_26 : decode cX8_linesUp 26 = .ok (.iload_n 2, 1) := by decide +kernel
theorem dX8_linesUp_27 : decode cX8_linesUp 27 = .ok (.aload_n 0, 1) := by decide +kernel
theorem dX8_linesUp_28 : decode cX8_linesUp 28 = .ok (.getfield 70, 3) := by decide +kernel
theorem dX8_linesUp_31 : decode cX8_linesUp 31 = .ok (.if_icmp .ne 7, 3) := by decide +kernel
theorem dX8_linesUp_34 : decode cX8_linesUp 34 = .ok (.iconst 1, 1) := by decide +kernel
theorem dX8_linesUp_35 : decode cX8_linesUp 35 = .ok (.goto 4, 3) := by decide +kernel
theorem dX8_linesUp_38 : decode cX8_linesUp 38 = .ok (.iconst 0, 1) := by decide +kernel
theorem dX8_linesUp_39 : decode cX8_linesUp 39 = .ok (.istore_n 3, 1) := by decide +kernel
theorem dX8_linesUp_40 : decode cX8_linesUp 40 = .ok (.iload_n 3, 1) := by decide +kernel
theorem dX8_linesUp_41 : decode cX8_linesUp 41 = .ok (.ifCond .eq 7, 3) := by decide +kernel
theorem dX8_linesUp_44 : decode cX8_linesUp 44 = .ok (.iconst 0, 1) := by decide +kernel
theorem dX8_linesUp_45 : decode cX8_linesUp 45 = .ok (.goto 5, 3) := by decide +kernel
theorem dX8_linesUp_48 : decode cX8_linesUp 48 = .ok (.ldc 84, 2) := by decide +kernel
theorem dX8_linesUp_50 : decode cX8_linesUp 50 = .ok (.istore 4, 2) := by decide +kernel
theorem dX8_linesUp_52 : decode cX8_linesUp 52 = .ok (.iload_n 3, 1) := by decide +kernel
theorem dX8_linesUp_53 : decode cX8_linesUp 53 = .ok (.ifCond .eq 7, 3) := by decide +kernel
theorem dX8_linesUp_56 : decode cX8_linesUp 56 = .ok (.iconst 1, 1) := by decide +kernel
theorem dX8_linesUp_57 : decode cX8_linesUp 57 = .ok (.goto 4, 3) := by decide +kernel
theorem dX8_linesUp_60 : decode cX8_linesUp 60 = .ok (.iconst 0, 1) := by decide +kernel
theorem dX8_linesUp_61 : decode cX8_linesUp 61 = .ok (.istore 5, 2) := by decide +kernel
theorem dX8_linesUp_63 : decode cX8_linesUp 63 = .ok (.iconst 0, 1) := by decide +kernel
theorem dX8_linesUp_64 : decode cX8_linesUp 64 = .ok (.istore 6, 2) := by decide +kernel
theorem dX8_linesUp_66 : decode cX8_linesUp 66 = .ok (.iload 6, 2) := by decide +kernel
theorem dX8_linesUp_68 : decode cX8_linesUp 68 = .ok (.iconst 4, 1) := by decide +kernel
theorem dX8_linesUp_69 : decode cX8_linesUp 69 = .ok (.if_icmp .ge 107, 3) := by decide +kernel
theorem dX8_linesUp_72 : decode cX8_linesUp 72 = .ok (.aload_n 0, 1) := by decide +kernel
theorem dX8_linesUp_73 : decode cX8_linesUp 73 = .ok (.iload_n 1, 1) := by decide +kernel
theorem dX8_linesUp_74 : decode cX8_linesUp 74 = .ok (.iload_n 2, 1) := by decide +kernel
theorem dX8_linesUp_75 : decode cX8_linesUp 75 = .ok (.iload 6, 2) := by decide +kernel
theorem dX8_linesUp_77 : decode cX8_linesUp 77 = .ok (.invokevirtual 89, 3) := by decide +kernel
theorem dX8_linesUp_80 : decode cX8_linesUp 80 = .ok (.istore 7, 2) := by decide +kernel
theorem dX8_linesUp_82 : decode cX8_linesUp 82 = .ok (.iload 7, 2) := by decide +kernel
theorem dX8_linesUp_84 : decode cX8_linesUp 84 = .ok (.ldc 84, 2) := by decide +kernel
theorem dX8_linesUp_86 : decode cX8_linesUp 86 = .ok (.if_icmp .ge 84, 3) := by decide +kernel
theorem dX8_linesUp_89 : decode cX8_linesUp 89 = .ok (.iload_n 1, 1) := by decide +kernel
theorem dX8_linesUp_90 : decode cX8_linesUp 90 = .ok (.iload 6, 2) := by decide +kernel
theorem dX8_linesUp_92 : decode cX8_linesUp 92 = .ok (.invokestatic 93, 3) := by decide +kernel
theorem dX8_linesUp_95 : decode cX8_linesUp 95 = .ok (.iadd, 1) := by decide +kernel
theorem dX8_linesUp_96 : decode cX8_linesUp 96 = .ok (.iload_n 2, 1) := by decide +kernel
theorem dX8_linesUp_97 : decode cX8_linesUp 97 = .ok (.iload 6, 2) := by decide +kernel
theorem dX8_linesUp_99 : decode cX8_linesUp 99 = .ok (.invokestatic 97, 3) := by decide +kernel
theorem dX8_linesUp_102 : decode cX8_linesUp 102 = .ok (.iadd, 1) := by decide +kernel
theorem dX8_linesUp_103 : decode cX8_linesUp 103 = .ok (.invokestatic 100, 3) := by decide +kernel
theorem dX8_linesUp_106 : decode cX8_linesUp 106 = .ok (.istore 8, 2) := by decide +kernel
theorem dX8_linesUp_108 : decode cX8_linesUp 108 = .ok (.iload 7, 2) := by decide +kernel
theorem dX8_linesUp_110 : decode cX8_linesUp 110 = .ok (.aload_n 0, 1) := by decide +kernel
theorem dX8_linesUp_111 : decode cX8_linesUp 111 = .ok (.getfield 35, 3) := by decide +kernel
theorem dX8_linesUp_114 : decode cX8_linesUp 114 = .ok (.iload 8, 2) := by decide +kernel
theorem dX8_linesUp_116 : decode cX8_linesUp 116 = .ok (.iaload, 1) := by decide +kernel
theorem dX8_linesUp_117 : decode cX8_linesUp 117 = .ok (.iadd, 1) := by decide +kernel
theorem dX8_linesUp_118 : decode cX8_linesUp 118 = .ok (.istore 9, 2) := by decide +kernel
theorem dX8_linesUp_120 : decode cX8_linesUp 120 = .ok (.iload 9, 2) := by decide +kernel
theorem dX8_linesUp_122 : decode cX8_linesUp 122 = .ok (.iload 4, 2) := by decide +kernel
theorem dX8_linesUp_124 : decode cX8_linesUp 124 = .ok (.if_icmp .ge 13, 3) := by decide +kernel
theorem dX8_linesUp_127 : decode cX8_linesUp 127 = .ok (.aload_n 0, 1) := by decide +kernel
theorem dX8_linesUp_128 : decode cX8_linesUp 128 = .ok (.getfield 38, 3) := by decide +kernel
theorem dX8_linesUp_131 : decode cX8_linesUp 131 = .ok (.iload 8, 2) := by decide +kernel
theorem dX8_linesUp_133 : decode cX8_linesUp 133 = .ok (.iaload, 1) := by decide +kernel
theorem dX8_linesUp_134 : decode cX8_linesUp 134 = .ok (.goto 25, 3) := by decide +kernel
theorem dX8_linesUp_137 : decode cX8_linesUp 137 = .ok (.iload 9, 2) := by decide +kernel
theorem dX8_linesUp_139 : decode cX8_linesUp 139 = .ok (.iload 4, 2) := by decide +kernel
theorem dX8_linesUp_141 : decode cX8_linesUp 141 = .ok (.if_icmp .ne 16, 3) := by decide +kernel
theorem dX8_linesUp_144 : decode cX8_linesUp 144 = .ok (.iload 5, 2) := by decide +kernel
theorem dX8_linesUp_146 : decode cX8_linesUp 146 = .ok (.aload_n 0, 1) := by decide +kernel
theorem dX8_linesUp_147 : decode cX8_linesUp 147 = .ok (.getfield 38, 3) := by decide +kernel
theorem dX8_linesUp_150 : decode cX8_linesUp 150 = .ok (.iload 8, 2) := by decide +kernel
theorem dX8_linesUp_152 : decode cX8_linesUp 152 = .ok (.iaload, 1) := by decide +kernel
theorem dX8_linesUp_153 : decode cX8_linesUp 153 = .ok (.iadd, 1) := by decide +kernel
theorem dX8_linesUp_154 : decode cX8_linesUp 154 = .ok (.goto 5, 3) := by decide +kernel
theorem dX8_linesUp_157 : decode cX8_linesUp 157 = .ok (.iload 5, 2) := by decide +kernel
theorem dX8_linesUp_159 : decode cX8_linesUp 159 = .ok (.istore 5, 2) := by decide +kernel
theorem dX8_linesUp_161 : decode cX8_linesUp 161 = .ok (.iload 9, 2) := by decide +kernel
theorem dX8_linesUp_163 : decode cX8_linesUp 163 = .ok (.iload 4, 2) := by decide +kernel
theorem dX8_linesUp_165 : decode cX8_linesUp 165 = .ok (.invokestatic 77, 3) := by decide +kernel
theorem dX8_linesUp_168 : decode cX8_linesUp 168 = .ok (.istore 4, 2) := by decide +kernel
theorem dX8_linesUp_170 : decode cX8_linesUp 170 = .ok (.iinc 6 1, 3) := by decide +kernel
theorem dX8_linesUp_173 : decode cX8_linesUp 173 = .ok (.goto (-107), 3) := by decide +kernel
theorem dX8_linesUp_176 : decode cX8_linesUp 176 = .ok (.aload_n 0, 1) := by decide +kernel
theorem dX8_linesUp_177 : decode cX8_linesUp 177 = .ok (.getfield 35, 3) := by decide +kernel
theorem dX8_linesUp_180 : decode cX8_linesUp 180 = .ok (.iload_n 1, 1) := by decide +kernel
theorem dX8_linesUp_181 : decode cX8_linesUp 181 = .ok (.iload_n 2, 1) := by decide +kernel
theorem dX8_linesUp_182 : decode cX8_linesUp 182 = .ok (.invokestatic 100, 3) := by decide +kernel
theorem dX8_linesUp_185 : decode cX8_linesUp 185 = .ok (.iload 4, 2) := by decide +kernel
theorem dX8_linesUp_187 : decode cX8_linesUp 187 = .ok (.iastore, 1) := by decide +kernel
theorem dX8_linesUp_188 : decode cX8_linesUp 188 = .ok (.aload_n 0, 1) := by decide +kernel
theorem dX8_linesUp_189 : decode cX8_linesUp 189 = .ok (.getfield 38, 3) := by decide +kernel
theorem dX8_linesUp_192 : decode cX8_linesUp 192 = .ok (.iload_n 1, 1) := by decide +kernel
theorem dX8_linesUp_193 : decode cX8_linesUp 193 = .ok (.iload_n 2, 1) := by decide +kernel
theorem dX8_linesUp_194 : decode cX8_linesUp 194 = .ok (.invokestatic 100, 3) := by decide +kernel
theorem dX8_linesUp_197 : decode cX8_linesUp 197 = .ok (.iload 5, 2) := by decide +kernel
theorem dX8_linesUp_199 : decode cX8_linesUp 199 = .ok (.iastore, 1) := by decide +kernel
theorem dX8_linesUp_200 : decode cX8_linesUp 200 = .ok (.iinc 2 (-1), 3) := by decide +kernel
theorem dX8_linesUp_203 : decode cX8_linesUp 203 = .ok (.goto (-189), 3) := by decide +kernel
theorem dX8_linesUp_206 : decode cX8_linesUp 206 = .ok (.iinc 1 (-1), 3) := by decide +kernel
theorem dX8_linesUp_209 : decode cX8_linesUp 209 = .ok (.goto (-204), 3) := by decide +kernel
theorem dX8_linesUp_212 : decode cX8_linesUp 212 = .ok (.aload_n 0, 1) := by decide +kernel
theorem dX8_linesUp_213 : decode cX8_linesUp 213 = .ok (.getfield 35, 3) := by decide +kernel
theorem dX8_linesUp_216 : decode cX8_linesUp 216 = .ok (.iconst 0, 1) := by decide +kernel
theorem dX8_linesUp_217 : decode cX8_linesUp 217 = .ok (.iaload, 1) := by decide +kernel
theorem dX8_linesUp_218 : decode cX8_linesUp 218 = .ok (.ireturn, 1) := by decide +kernel
theorem dX8_apart_0 : decode cX8_apart 0 = .ok (.aload_n 0, 1) := by decide +kernel
theorem dX8_apart_1 : decode cX8_apart 1 = .ok (.iload_n 1, 1) := by decide +kernel
theorem dX8_apart_2 : decode cX8_apart 2 = .ok (.iload_n 2, 1) := by decide +kernel
theorem dX8_apart_3 : decode cX8_apart 3 = .ok (.invokevirtual 103, 3) := by decide +kernel
theorem dX8_apart_6 : decode cX8_apart 6 = .ok (.aload_n 0, 1) := by decide +kernel
theorem dX8_apart_7 : decode cX8_apart 7 = .ok (.invokevirtual 107, 3) := by decide +kernel
theorem dX8_apart_10 : decode cX8_apart 10 = .ok (.ireturn, 1) := by decide +kernel
theorem dX8_laysWay_0 : decode cX8_laysWay 0 = .ok (.aload_n 0, 1) := by decide +kernel
theorem dX8_laysWay_1 : decode cX8_laysWay 1 = .ok (.iload_n 1, 1) := by decide +kernel
theorem dX8_laysWay_2 : decode cX8_laysWay 2 = .ok (.iload_n 2, 1) := by decide +kernel
theorem dX8_laysWay_3 : decode cX8_laysWay 3 = .ok (.invokevirtual 111, 3) := by decide +kernel
theorem dX8_laysWay_6 : decode cX8_laysWay 6 = .ok (.istore_n 3, 1) := by decide +kernel
theorem dX8_laysWay_7 : decode cX8_laysWay 7 = .ok (.iconst 0, 1) := by decide +kernel
theorem dX8_laysWay_8 : decode cX8_laysWay 8 = .ok (.istore 4, 2) := by decide +kernel
theorem dX8_laysWay_10 : decode cX8_laysWay 10 = .ok (.iconst 0, 1) := by decide +kernel
theorem dX8_laysWay_11 : decode cX8_laysWay 11 = .ok (.istore 5, 2) := by decide +kernel
theorem dX8_laysWay_13 : decode cX8_laysWay 13 = .ok (.iconst 0, 1) := by decide +kernel
theorem dX8_laysWay_14 : decode cX8_laysWay 14 = .ok (.istore 6, 2) := by decide +kernel
theorem dX8_laysWay_16 : decode cX8_laysWay 16 = .ok (.iload 4, 2) := by decide +kernel
theorem dX8_laysWay_18 : decode cX8_laysWay 18 = .ok (.aload_n 0, 1) := by decide +kernel
theorem dX8_laysWay_19 : decode cX8_laysWay 19 = .ok (.getfield 66, 3) := by decide +kernel
theorem dX8_laysWay_22 : decode cX8_laysWay 22 = .ok (.if_icmp .lt 12, 3) := by decide +kernel
theorem dX8_laysWay_25 : decode cX8_laysWay 25 = .ok (.iload 5, 2) := by decide +kernel
theorem dX8_laysWay_27 : decode cX8_laysWay 27 = .ok (.aload_n 0, 1) := by decide +kernel
theorem dX8_laysWay_28 : decode cX8_laysWay 28 = .ok (.getfield 70, 3) := by decide +kernel
theorem dX8_laysWay_31 : decode cX8_laysWay 31 = .ok (.if_icmp .ge 80, 3) := by decide +kernel
theorem dX8_laysWay_34 : decode cX8_laysWay 34 = .ok (.iconst 0, 1) := by decide +kernel
theorem dX8_laysWay_35 : decode cX8_laysWay 35 = .ok (.istore 7, 2) := by decide +kernel
theorem dX8_laysWay_37 : decode cX8_laysWay 37 = .ok (.iload 7, 2) := by decide +kernel
theorem dX8_laysWay_39 : decode cX8_laysWay 39 = .ok (.iconst 3, 1) := by decide +kernel
theorem dX8_laysWay_40 : decode cX8_laysWay 40 = .ok (.if_icmp .ge 23, 3) := by decide +kernel
theorem dX8_laysWay_43 : decode cX8_laysWay 43 = .ok (.aload_n 0, 1) := by decide +kernel
theorem dX8_laysWay_44 : decode cX8_laysWay 44 = .ok (.iload 4, 2) := by decide +kernel
theorem dX8_laysWay_46 : decode cX8_laysWay 46 = .ok (.iload 5, 2) := by decide +kernel
theorem dX8_laysWay_48 : decode cX8_laysWay 48 = .ok (.iload 7, 2) := by decide +kernel
theorem dX8_laysWay_50 : decode cX8_laysWay 50 = .ok (.iload_n 3, 1) := by decide +kernel
theorem dX8_laysWay_51 : decode cX8_laysWay 51 = .ok (.invokevirtual 114, 3) := by decide +kernel
theorem dX8_laysWay_54 : decode cX8_laysWay 54 = .ok (.ifCond .ne 9, 3) := by decide +kernel
theorem dX8_laysWay_57 : decode cX8_laysWay 57 = .ok (.iinc 7 1, 3) := by decide +kernel
theorem dX8_laysWay_60 : decode cX8_laysWay 60 = .ok (.goto (-23), 3) := by decide +kernel
theorem dX8_laysWay_63 : decode cX8_laysWay 63 = .ok (.aload_n 0, 1) := by decide +kernel
theorem dX8_laysWay_64 : decode cX8_laysWay 64 = .ok (.getfield 41, 3) := by decide +kernel
theorem dX8_laysWay_67 : decode cX8_laysWay 67 = .ok (.iload 6, 2) := by decide +kernel
theorem dX8_laysWay_69 : decode cX8_laysWay 69 = .ok (.iload 7, 2) := by decide +kernel
theorem dX8_laysWay_71 : decode cX8_laysWay 71 = .ok (.iastore, 1) := by decide +kernel
theorem dX8_laysWay_72 : decode cX8_laysWay 72 = .ok (.iinc 6 1, 3) := by decide +kernel
theorem dX8_laysWay_75 : decode cX8_laysWay 75 = .ok (.iload_n 3, 1) := by decide +kernel
theorem dX8_laysWay_76 : decode cX8_laysWay 76 = .ok (.aload_n 0, 1) := by decide +kernel
theorem dX8_laysWay_77 : decode cX8_laysWay 77 = .ok (.iload 4, 2) := by decide +kernel
theorem dX8_laysWay_79 : decode cX8_laysWay 79 = .ok (.iload 5, 2) := by decide +kernel
theorem dX8_laysWay_81 : decode cX8_laysWay 81 = .ok (.iload 7, 2) := by decide +kernel
theorem dX8_laysWay_83 : decode cX8_laysWay 83 = .ok (.invokevirtual 89, 3) := by decide +kernel
theorem dX8_laysWay_86 : decode cX8_laysWay 86 = .ok (.isub, 1) := by decide +kernel
theorem dX8_laysWay_87 : decode cX8_laysWay 87 = .ok (.istore_n 3, 1) := by decide +kernel
theorem dX8_laysWay_88 : decode cX8_laysWay 88 = .ok (.iload 4, 2) := by decide +kernel
theorem dX8_laysWay_90 : decode cX8_laysWay 90 = .ok (.iload 7, 2) := by decide +kernel
theorem dX8_laysWay_92 : decode cX8_laysWay 92 = .ok (.invokestatic 93, 3) := by decide +kernel
theorem dX8_laysWay_95 : decode cX8_laysWay 95 = .ok (.iadd, 1) := by decide +kernel
theorem dX8_laysWay_96 : decode cX8_laysWay 96 = .ok (.istore 4, 2) := by decide +kernel
theorem dX8_laysWay_98 : decode cX8_laysWay 98 = .ok (.iload 5, 2) := by decide +kernel
theorem dX8_laysWay_100 : decode cX8_laysWay 100 = .ok (.iload 7, 2) := by decide +kernel
theorem dX8_laysWay_102 : decode cX8_laysWay 102 = .ok (.invokestatic 97, 3) := by decide +kernel
theorem dX8_laysWay_105 : decode cX8_laysWay 105 = .ok (.iadd, 1) := by decide +kernel
theorem dX8_laysWay_106 : decode cX8_laysWay 106 = .ok (.istore 5, 2) := by decide +kernel
theorem dX8_laysWay_108 : decode cX8_laysWay 108 = .ok (.goto (-92), 3) := by decide +kernel
theorem dX8_laysWay_111 : decode cX8_laysWay 111 = .ok (.iload 6, 2) := by decide +kernel
theorem dX8_laysWay_113 : decode cX8_laysWay 113 = .ok (.ireturn, 1) := by decide +kernel
theorem dX8_isOfLeast_0 : decode cX8_isOfLeast 0 = .ok (.aload_n 0, 1) := by decide +kernel
theorem dX8_isOfLeast_1 : decode cX8_isOfLeast 1 = .ok (.iload_n 1, 1) := by decide +kernel
theorem dX8_isOfLeast_2 : decode cX8_isOfLeast 2 = .ok (.iload_n 2, 1) := by decide +kernel
theorem dX8_isOfLeast_3 : decode cX8_isOfLeast 3 = .ok (.iload_n 3, 1) := by decide +kernel
theorem dX8_isOfLeast_4 : decode cX8_isOfLeast 4 = .ok (.invokevirtual 89, 3) := by decide +kernel
theorem dX8_isOfLeast_7 : decode cX8_isOfLeast 7 = .ok (.istore 5, 2) := by decide +kernel
theorem dX8_isOfLeast_9 : decode cX8_isOfLeast 9 = .ok (.iload 5, 2) := by decide +kernel
theorem dX8_isOfLeast_11 : decode cX8_isOfLeast 11 = .ok (.ldc 84, 2) := by decide +kernel
theorem dX8_isOfLeast_13 : decode cX8_isOfLeast 13 = .ok (.if_icmp .ge 35, 3) := by decide +kernel
theorem dX8_isOfLeast_16 : decode cX8_isOfLeast 16 = .ok (.iload 5, 2) := by decide +kernel
theorem dX8_isOfLeast_18 : decode cX8_isOfLeast 18 = .ok (.aload_n 0, 1) := by decide +kernel
theorem dX8_isOfLeast_19 : decode cX8_isOfLeast 19 = .ok (.getfield 35, 3) := by decide +kernel
theorem dX8_isOfLeast_22 : decode cX8_isOfLeast 22 = .ok (.iload_n 1, 1) := by decide +kernel
theorem dX8_isOfLeast_23 : decode cX8_isOfLeast 23 = .ok (.iload_n 3, 1) := by decide +kernel
theorem dX8_isOfLeast_24 : decode cX8_isOfLeast 24 = .ok (.invokestatic 93, 3) := by decide +kernel
theorem dX8_isOfLeast_27 : decode cX8_isOfLeast 27 = .ok (.iadd, 1) := by decide +kernel
theorem dX8_isOfLeast_28 : decode cX8_isOfLeast 28 = .ok (.iload_n 2, 1) := by decide +kernel
theorem dX8_isOfLeast_29 : decode cX8_isOfLeast 29 = .ok (.iload_n 3, 1) := by decide +kernel
theorem dX8_isOfLeast_30 : decode cX8_isOfLeast 30 = .ok (.invokestatic 97, 3) := by decide +kernel
theorem dX8_isOfLeast_33 : decode cX8_isOfLeast 33 = .ok (.iadd, 1) := by decide +kernel
theorem dX8_isOfLeast_34 : decode cX8_isOfLeast 34 = .ok (.invokestatic 100, 3) := by decide +kernel
theorem dX8_isOfLeast_37 : decode cX8_isOfLeast 37 = .ok (.iaload, 1) := by decide +kernel
theorem dX8_isOfLeast_38 : decode cX8_isOfLeast 38 = .ok (.iadd, 1) := by decide +kernel
theorem dX8_isOfLeast_39 : decode cX8_isOfLeast 39 = .ok (.iload 4, 2) := by decide +kernel
theorem dX8_isOfLeast_41 : decode cX8_isOfLeast 41 = .ok (.if_icmp .ne 7, 3) := by decide +kernel
theorem dX8_isOfLeast_44 : decode cX8_isOfLeast 44 = .ok (.iconst 1, 1) := by decide +kernel
theorem dX8_isOfLeast_45 : decode cX8_isOfLeast 45 = .ok (.goto 4, 3) := by decide +kernel
theorem dX8_isOfLeast_48 : decode cX8_isOfLeast 48 = .ok (.iconst 0, 1) := by decide +kernel
theorem dX8_isOfLeast_49 : decode cX8_isOfLeast 49 = .ok (.ireturn, 1) := by decide +kernel
theorem dX8_commonOrder_0 : decode cX8_commonOrder 0 = .ok (.aload_n 0, 1) := by decide +kernel
theorem dX8_commonOrder_1 : decode cX8_commonOrder 1 = .ok (.iload_n 1, 1) := by decide +kernel
theorem dX8_commonOrder_2 : decode cX8_commonOrder 2 = .ok (.iload_n 2, 1) := by decide +kernel
theorem dX8_commonOrder_3 : decode cX8_commonOrder 3 = .ok (.invokevirtual 103, 3) := by decide +kernel
theorem dX8_commonOrder_6 : decode cX8_commonOrder 6 = .ok (.iconst 0, 1) := by decide +kernel
theorem dX8_commonOrder_7 : decode cX8_commonOrder 7 = .ok (.istore_n 3, 1) := by decide +kernel
theorem dX8_commonOrder_8 : decode cX8_commonOrder 8 = .ok (.iload_n 3, 1) := by decide +kernel
theorem dX8_commonOrder_9 : decode cX8_commonOrder 9 = .ok (.aload_n 0, 1) := by decide +kernel
theorem dX8_commonOrder_10 : decode cX8_commonOrder 10 = .ok (.getfield 66, 3) := by decide +kernel
theorem dX8_commonOrder_13 : decode cX8_commonOrder 13 = .ok (.if_icmp .gt 142, 3) := by decide +kernel
theorem dX8_commonOrder_16 : decode cX8_commonOrder 16 = .ok (.iconst 0, 1) := by decide +kernel
theorem dX8_commonOrder_17 : decode cX8_commonOrder 17 = .ok (.istore 4, 2) := by decide +kernel
theorem dX8_commonOrder_19 : decode cX8_commonOrder 19 = .ok (.iload 4, 2) := by decide +kernel
theorem dX8_commonOrder_21 : decode cX8_commonOrder 21 = .ok (.aload_n 0, 1) := by decide +kernel
theorem dX8_commonOrder_22 : decode cX8_commonOrder 22 = .ok (.getfield 70, 3) := by decide +kernel
theorem dX8_commonOrder_25 : decode cX8_commonOrder 25 = .ok (.if_icmp .gt 124, 3) := by decide +kernel
theorem dX8_commonOrder_28 : decode cX8_commonOrder 28 = .ok (.iconst 0, 1) := by decide +kernel
theorem dX8_commonOrder_29 : decode cX8_commonOrder 29 = .ok (.istore 5, 2) := by decide +kernel
theorem dX8_commonOrder_31 : decode cX8_commonOrder 31 = .ok (.iload_n 3, 1) := by decide +kernel
theorem dX8_commonOrder_32 : decode cX8_commonOrder 32 = .ok (.ifCond .le 98, 3) := by decide +kernel
theorem dX8_commonOrder_35 : decode cX8_commonOrder 35 = .ok (.iload 4, 2) := by decide +kernel
theorem dX8_commonOrder_37 : decode cX8_commonOrder 37 = .ok (.ifCond .le 93, 3) := by decide +kernel
theorem dX8_commonOrder_40 : decode cX8_commonOrder 40 = .ok (.aload_n 0, 1) := by decide +kernel
theorem dX8_commonOrder_41 : decode cX8_commonOrder 41 = .ok (.getfield 44, 3) := by decide +kernel
theorem dX8_commonOrder_44 : decode cX8_commonOrder 44 = .ok (.iload_n 3, 1) := by decide +kernel
theorem dX8_commonOrder_45 : decode cX8_commonOrder 45 = .ok (.iconst 1, 1) := by decide +kernel
theorem dX8_commonOrder_46 : decode cX8_commonOrder 46 = .ok (.isub, 1) := by decide +kernel
theorem dX8_commonOrder_47 : decode cX8_commonOrder 47 = .ok (.iload 4, 2) := by decide +kernel
theorem dX8_commonOrder_49 : decode cX8_commonOrder 49 = .ok (.invokestatic 100, 3) := by decide +kernel
theorem dX8_commonOrder_52 : decode cX8_commonOrder 52 = .ok (.iaload, 1) := by decide +kernel
theorem dX8_commonOrder_53 : decode cX8_commonOrder 53 = .ok (.istore 6, 2) := by decide +kernel
theorem dX8_commonOrder_55 : decode cX8_commonOrder 55 = .ok (.aload_n 0, 1) := by decide +kernel
theorem dX8_commonOrder_56 : decode cX8_commonOrder 56 = .ok (.getfield 44, 3) := by decide +kernel
theorem dX8_commonOrder_59 : decode cX8_commonOrder 59 = .ok (.iload_n 3, 1) := by decide +kernel
theorem dX8_commonOrder_60 : decode cX8_commonOrder 60 = .ok (.iload 4, 2) := by decide +kernel
theorem dX8_commonOrder_62 : decode cX8_commonOrder 62 = .ok (.iconst 1, 1) := by decide +kernel
theorem dX8_commonOrder_63 : decode cX8_commonOrder 63 = .ok (.isub, 1) := by decide +kernel
theorem dX8_commonOrder_64 : decode cX8_commonOrder 64 = .ok (.invokestatic 100, 3) := by decide +kernel
theorem dX8_commonOrder_67 : decode cX8_commonOrder 67 = .ok (.iaload, 1) := by decide +kernel
theorem dX8_commonOrder_68 : decode cX8_commonOrder 68 = .ok (.istore 7, 2) := by decide +kernel
theorem dX8_commonOrder_70 : decode cX8_commonOrder 70 = .ok (.iload 6, 2) := by decide +kernel
theorem dX8_commonOrder_72 : decode cX8_commonOrder 72 = .ok (.iload 7, 2) := by decide +kernel
theorem dX8_commonOrder_74 : decode cX8_commonOrder 74 = .ok (.if_icmp .le 8, 3) := by decide +kernel
theorem dX8_commonOrder_77 : decode cX8_commonOrder 77 = .ok (.iload 6, 2) := by decide +kernel
theorem dX8_commonOrder_79 : decode cX8_commonOrder 79 = .ok (.goto 5, 3) := by decide +kernel
theorem dX8_commonOrder_82 : decode cX8_commonOrder 82 = .ok (.iload 7, 2) := by decide +kernel
theorem dX8_commonOrder_84 : decode cX8_commonOrder 84 = .ok (.istore 5, 2) := by decide +kernel
theorem dX8_commonOrder_86 : decode cX8_commonOrder 86 = .ok (.aload_n 0, 1) := by decide +kernel
theorem dX8_commonOrder_87 : decode cX8_commonOrder 87 = .ok (.getfield 29, 3) := by decide +kernel
theorem dX8_commonOrder_90 : decode cX8_commonOrder 90 = .ok (.iload_n 3, 1) := by decide +kernel
theorem dX8_commonOrder_91 : decode cX8_commonOrder 91 = .ok (.iconst 1, 1) := by decide +kernel
theorem dX8_commonOrder_92 : decode cX8_commonOrder 92 = .ok (.isub, 1) := by decide +kernel
theorem dX8_commonOrder_93 : decode cX8_commonOrder 93 = .ok (.iaload, 1) := by decide +kernel
theorem dX8_commonOrder_94 : decode cX8_commonOrder 94 = .ok (.aload_n 0, 1) := by decide +kernel
theorem dX8_commonOrder_95 : decode cX8_commonOrder 95 = .ok (.getfield 32, 3) := by decide +kernel
theorem dX8_commonOrder_98 : decode cX8_commonOrder 98 = .ok (.iload 4, 2) := by decide +kernel
theorem dX8_commonOrder_100 : decode cX8_commonOrder 100 = .ok (.iconst 1, 1) := by decide +kernel
theorem dX8_commonOrder_101 : decode cX8_commonOrder 101 = .ok (.isub, 1) := by decide +kernel
theorem dX8_commonOrder_102 : decode cX8_commonOrder 102 = .ok (.iaload, 1) := by decide +kernel
theorem dX8_commonOrder_103 : decode cX8_commonOrder 103 = .ok (.if_icmp .ne 23, 3) := by decide +kernel
theorem dX8_commonOrder_106 : decode cX8_commonOrder 106 = .ok (.aload_n 0, 1) := by decide +kernel
theorem dX8_commonOrder_107 : decode cX8_commonOrder 107 = .ok (.getfield 44, 3) := by decide +kernel
theorem dX8_commonOrder_110 : decode cX8_commonOrder 110 = .ok (.iload_n 3, 1) := by decide +kernel
theorem dX8_commonOrder_111 : decode cX8_commonOrder 111 = .ok (.iconst 1, 1) := by decide +kernel
theorem dX8_commonOrder_112 : decode cX8_commonOrder 112 = .ok (.isub, 1) := by decide +kernel
theorem dX8_commonOrder_113 : decode cX8_commonOrder 113 = .ok (.iload 4, 2) := by decide +kernel
theorem dX8_commonOrder_115 : decode cX8_commonOrder 115 = .ok (.iconst 1, 1) := by decide +kernel
theorem dX8_commonOrder_116 : decode cX8_commonOrder 116 = .ok (.isub, 1) := by decide +kernel
theorem dX8_commonOrder_117 : decode cX8_commonOrder 117 = .ok (.invokestatic 100, 3) := by decide +kernel
theorem dX8_commonOrder_120 : decode cX8_commonOrder 120 = .ok (.iaload, 1) := by decide +kernel
theorem dX8_commonOrder_121 : decode cX8_commonOrder 121 = .ok (.iconst 1, 1) := by decide +kernel
theorem dX8_commonOrder_122 : decode cX8_commonOrder 122 = .ok (.iadd, 1) := by decide +kernel
theorem dX8_commonOrder_123 : decode cX8_commonOrder 123 = .ok (.goto 5, 3) := by decide +kernel
theorem dX8_commonOrder_126 : decode cX8_commonOrder 126 = .ok (.iload 5, 2) := by decide +kernel
theorem dX8_commonOrder_128 : decode cX8_commonOrder 128 = .ok (.istore 5, 2) := by decide +kernel
theorem dX8_commonOrder_130 : decode cX8_commonOrder 130 = .ok (.aload_n 0, 1) := by decide +kernel
theorem dX8_commonOrder_131 : decode cX8_commonOrder 131 = .ok (.getfield 44, 3) := by decide +kernel
theorem dX8_commonOrder_134 : decode cX8_commonOrder 134 = .ok (.iload_n 3, 1) := by decide +kernel
theorem dX8_commonOrder_135 : decode cX8_commonOrder 135 = .ok (.iload 4, 2) := by decide +kernel
theorem dX8_commonOrder_137 : decode cX8_commonOrder 137 = .ok (.invokestatic 100, 3) := by decide +kernel
theorem dX8_commonOrder_140 : decode cX8_commonOrder 140 = .ok (.iload 5, 2) := by decide +kernel
theorem dX8_commonOrder_142 : decode cX8_commonOrder 142 = .ok (.iastore, 1) := by decide +kernel
theorem dX8_commonOrder_143 : decode cX8_commonOrder 143 = .ok (.iinc 4 1, 3) := by decide +kernel
theorem dX8_commonOrder_146 : decode cX8_commonOrder 146 = .ok (.goto (-127), 3) := by decide +kernel
theorem dX8_commonOrder_149 : decode cX8_commonOrder 149 = .ok (.iinc 3 1, 3) := by decide +kernel
theorem dX8_commonOrder_152 : decode cX8_commonOrder 152 = .ok (.goto (-144), 3) := by decide +kernel
theorem dX8_commonOrder_155 : decode cX8_commonOrder 155 = .ok (.aload_n 0, 1) := by decide +kernel
theorem dX8_commonOrder_156 : decode cX8_commonOrder 156 = .ok (.getfield 44, 3) := by decide +kernel
theorem dX8_commonOrder_159 : decode cX8_commonOrder 159 = .ok (.aload_n 0, 1) := by decide +kernel
theorem dX8_commonOrder_160 : decode cX8_commonOrder 160 = .ok (.getfield 66, 3) := by decide +kernel
theorem dX8_commonOrder_163 : decode cX8_commonOrder 163 = .ok (.aload_n 0, 1) := by decide +kernel
theorem dX8_commonOrder_164 : decode cX8_commonOrder 164 = .ok (.getfield 70, 3) := by decide +kernel
theorem dX8_commonOrder_167 : decode cX8_commonOrder 167 = .ok (.invokestatic 100, 3) := by decide +kernel
theorem dX8_commonOrder_170 : decode cX8_commonOrder 170 = .ok (.iaload, 1) := by decide +kernel
theorem dX8_commonOrder_171 : decode cX8_commonOrder 171 = .ok (.ireturn, 1) := by decide +kernel
theorem dX8_laysFar_0 : decode cX8_laysFar 0 = .ok (.iconst 0, 1) := by decide +kernel
theorem dX8_laysFar_1 : decode cX8_laysFar 1 = .ok (.istore_n 1, 1) := by decide +kernel
theorem dX8_laysFar_2 : decode cX8_laysFar 2 = .ok (.iload_n 1, 1) := by decide +kernel
theorem dX8_laysFar_3 : decode cX8_laysFar 3 = .ok (.aload_n 0, 1) := by decide +kernel
theorem dX8_laysFar_4 : decode cX8_laysFar 4 = .ok (.getfield 7, 3) := by decide +kernel
theorem dX8_laysFar_7 : decode cX8_laysFar 7 = .ok (.iconst 0, 1) := by decide +kernel
theorem dX8_laysFar_8 : decode cX8_laysFar 8 = .ok (.iaload, 1) := by decide +kernel
theorem dX8_laysFar_9 : decode cX8_laysFar 9 = .ok (.if_icmp .ge 44, 3) := by decide +kernel
theorem dX8_laysFar_12 : decode cX8_laysFar 12 = .ok (.iconst 0, 1) := by decide +kernel
theorem dX8_laysFar_13 : decode cX8_laysFar 13 = .ok (.istore_n 2, 1) := by decide +kernel
theorem dX8_laysFar_14 : decode cX8_laysFar 14 = .ok (.iload_n 2, 1) := by decide +kernel
theorem dX8_laysFar_15 : decode cX8_laysFar 15 = .ok (.aload_n 0, 1) := by decide +kernel
theorem dX8_laysFar_16 : decode cX8_laysFar 16 = .ok (.getfield 7, 3) := by decide +kernel
theorem dX8_laysFar_19 : decode cX8_laysFar 19 = .ok (.iconst 0, 1) := by decide +kernel
theorem dX8_laysFar_20 : decode cX8_laysFar 20 = .ok (.iaload, 1) := by decide +kernel
theorem dX8_laysFar_21 : decode cX8_laysFar 21 = .ok (.if_icmp .ge 26, 3) := by decide +kernel
theorem dX8_laysFar_24 : decode cX8_laysFar 24 = .ok (.aload_n 0, 1) := by decide +kernel
theorem dX8_laysFar_25 : decode cX8_laysFar 25 = .ok (.getfield 47, 3) := by decide +kernel
theorem dX8_laysFar_28 : decode cX8_laysFar 28 = .ok (.bipush 8, 2) := by decide +kernel
theorem dX8_laysFar_30 : decode cX8_laysFar 30 = .ok (.iload_n 1, 1) := by decide +kernel
theorem dX8_laysFar_31 : decode cX8_laysFar 31 = .ok (.imul, 1) := by decide +kernel
theorem dX8_laysFar_32 : decode cX8_laysFar 32 = .ok (.iload_n 2, 1) := by decide +kernel
theorem dX8_laysFar_33 : decode cX8_laysFar 33 = .ok (.iadd, 1) := by decide +kernel
theorem dX8_laysFar_34 : decode cX8_laysFar 34 = .ok (.aload_n 0, 1) := by decide +kernel
theorem dX8_laysFar_35 : decode cX8_laysFar 35 = .ok (.iload_n 1, 1) := by decide +kernel
theorem dX8_laysFar_36 : decode cX8_laysFar 36 = .ok (.iload_n 2, 1) := by decide +kernel
theorem dX8_laysFar_37 : decode cX8_laysFar 37 = .ok (.invokevirtual 111, 3) := by decide +kernel
theorem dX8_laysFar_40 : decode cX8_laysFar 40 = .ok (.iastore, 1) := by decide +kernel
theorem dX8_laysFar_41 : decode cX8_laysFar 41 = .ok (.iinc 2 1, 3) := by decide +kernel
theorem dX8_laysFar_44 : decode cX8_laysFar 44 = .ok (.goto (-30), 3) := by decide +kernel
theorem dX8_laysFar_47 : decode cX8_laysFar 47 = .ok (.iinc 1 1, 3) := by decide +kernel
theorem dX8_laysFar_50 : decode cX8_laysFar 50 = .ok (.goto (-48), 3) := by decide +kernel
theorem dX8_laysFar_53 : decode cX8_laysFar 53 = .ok (.return_, 1) := by decide +kernel
theorem dX8_nearBy_0 : decode cX8_nearBy 0 = .ok (.iconst 0, 1) := by decide +kernel
theorem dX8_nearBy_1 : decode cX8_nearBy 1 = .ok (.istore_n 3, 1) := by decide +kernel
theorem dX8_nearBy_2 : decode cX8_nearBy 2 = .ok (.ldc 84, 2) := by decide +kernel
theorem dX8_nearBy_4 : decode cX8_nearBy 4 = .ok (.istore 4, 2) := by decide +kernel
theorem dX8_nearBy_6 : decode cX8_nearBy 6 = .ok (.iconst 0, 1) := by decide +kernel
theorem dX8_nearBy_7 : decode cX8_nearBy 7 = .ok (.istore 5, 2) := by decide +kernel
theorem dX8_nearBy_9 : decode cX8_nearBy 9 = .ok (.iconst 0, 1) := by decide +kernel
theorem dX8_nearBy_10 : decode cX8_nearBy 10 = .ok (.istore 6, 2) := by decide +kernel
theorem dX8_nearBy_12 : decode cX8_nearBy 12 = .ok (.iload 6, 2) := by decide +kernel
theorem dX8_nearBy_14 : decode cX8_nearBy 14 = .ok (.aload_n 0, 1) := by decide +kernel
theorem dX8_nearBy_15 : decode cX8_nearBy 15 = .ok (.getfield 7, 3) := by decide +kernel
theorem dX8_nearBy_18 : decode cX8_nearBy 18 = .ok (.iconst 0, 1) := by decide +kernel
theorem dX8_nearBy_19 : decode cX8_nearBy 19 = .ok (.iaload, 1) := by decide +kernel
theorem dX8_nearBy_20 : decode cX8_nearBy 20 = .ok (.if_icmp .ge 92, 3) := by decide +kernel
theorem dX8_nearBy_23 : decode cX8_nearBy 23 = .ok (.iconst 0, 1) := by decide +kernel
theorem dX8_nearBy_24 : decode cX8_nearBy 24 = .ok (.istore 7, 2) := by decide +kernel
theorem dX8_nearBy_26 : decode cX8_nearBy 26 = .ok (.iload 7, 2) := by decide +kernel
theorem dX8_nearBy_28 : decode cX8_nearBy 28 = .ok (.aload_n 0, 1) := by decide +kernel
theorem dX8_nearBy_29 : decode cX8_nearBy 29 = .ok (.getfield 7, 3) := by decide +kernel
theorem dX8_nearBy_32 : decode cX8_nearBy 32 = .ok (.iconst 0, 1) := by decide +kernel
theorem dX8_nearBy_33 : decode cX8_nearBy 33 = .ok (.iaload, 1) := by decide +kernel
theorem dX8_nearBy_34 : decode cX8_nearBy 34 = .ok (.if_icmp .ge 72, 3) := by decide +kernel
theorem dX8_nearBy_37 : decode cX8_nearBy 37 = .ok (.iload_n 1, 1) := by decide +kernel
theorem dX8_nearBy_38 : decode cX8_nearBy 38 = .ok (.iload 6, 2) := by decide +kernel
theorem dX8_nearBy_40 : decode cX8_nearBy 40 = .ok (.invokestatic 118, 3) := by decide +kernel
theorem dX8_nearBy_43 : decode cX8_nearBy 43 = .ok (.ifCond .eq 57, 3) := by decide +kernel
theorem dX8_nearBy_46 : decode cX8_nearBy 46 = .ok (.iload_n 2, 1) := by decide +kernel
theorem dX8_nearBy_47 : decode cX8_nearBy 47 = .ok (.iload 7, 2) := by decide +kernel
theorem dX8_nearBy_49 : decode cX8_nearBy 49 = .ok (.invokestatic 118, 3) := by decide +kernel
theorem dX8_nearBy_52 : decode cX8_nearBy 52 = .ok (.ifCond .eq 48, 3) := by decide +kernel
theorem dX8_nearBy_55 : decode cX8_nearBy 55 = .ok (.aload_n 0, 1) := by decide +kernel
theorem dX8_nearBy_56 : decode cX8_nearBy 56 = .ok (.getfield 47, 3) := by decide +kernel
theorem dX8_nearBy_59 : decode cX8_nearBy 59 = .ok (.bipush 8, 2) := by decide +kernel
theorem dX8_nearBy_61 : decode cX8_nearBy 61 = .ok (.iload 6, 2) := by decide +kernel
theorem dX8_nearBy_63 : decode cX8_nearBy 63 = .ok (.imul, 1) := by decide +kernel
theorem dX8_nearBy_64 : decode cX8_nearBy 64 = .ok (.iload 7, 2) := by decide +kernel
theorem dX8_nearBy_66 : decode cX8_nearBy 66 = .ok (.iadd, 1) := by decide +kernel
theorem dX8_nearBy_67 : decode cX8_nearBy 67 = .ok (.iaload, 1) := by decide +kernel
theorem dX8_nearBy_68 : decode cX8_nearBy 68 = .ok (.istore 8, 2) := by decide +kernel
theorem dX8_nearBy_70 : decode cX8_nearBy 70 = .ok (.iload_n 3, 1) := by decide +kernel
theorem dX8_nearBy_71 : decode cX8_nearBy 71 = .ok (.iload 8, 2) := by decide +kernel
theorem dX8_nearBy_73 : decode cX8_nearBy 73 = .ok (.iadd, 1) := by decide +kernel
theorem dX8_nearBy_74 : decode cX8_nearBy 74 = .ok (.istore_n 3, 1) := by decide +kernel
theorem dX8_nearBy_75 : decode cX8_nearBy 75 = .ok (.iload 8, 2) := by decide +kernel
theorem dX8_nearBy_77 : decode cX8_nearBy 77 = .ok (.iload 4, 2) := by decide +kernel
theorem dX8_nearBy_79 : decode cX8_nearBy 79 = .ok (.invokestatic 77, 3) := by decide +kernel
theorem dX8_nearBy_82 : decode cX8_nearBy 82 = .ok (.istore 4, 2) := by decide +kernel
theorem dX8_nearBy_84 : decode cX8_nearBy 84 = .ok (.iload 8, 2) := by decide +kernel
theorem dX8_nearBy_86 : decode cX8_nearBy 86 = .ok (.iload 5, 2) := by decide +kernel
theorem dX8_nearBy_88 : decode cX8_nearBy 88 = .ok (.if_icmp .le 8, 3) := by decide +kernel
theorem dX8_nearBy_91 : decode cX8_nearBy 91 = .ok (.iload 8, 2) := by decide +kernel
theorem dX8_nearBy_93 : decode cX8_nearBy 93 = .ok (.goto 5, 3) := by decide +kernel
theorem dX8_nearBy_96 : decode cX8_nearBy 96 = .ok (.iload 5, 2) := by decide +kernel
theorem dX8_nearBy_98 : decode cX8_nearBy 98 = .ok (.istore 5, 2) := by decide +kernel
theorem dX8_nearBy_100 : decode cX8_nearBy 100 = .ok (.iinc 7 1, 3) := by decide +kernel
theorem dX8_nearBy_103 : decode cX8_nearBy 103 = .ok (.goto (-77), 3) := by decide +kernel
theorem dX8_nearBy_106 : decode cX8_nearBy 106 = .ok (.iinc 6 1, 3) := by decide +kernel
theorem dX8_nearBy_109 : decode cX8_nearBy 109 = .ok (.goto (-97), 3) := by decide +kernel
theorem dX8_nearBy_112 : decode cX8_nearBy 112 = .ok (.aload_n 0, 1) := by decide +kernel
theorem dX8_nearBy_113 : decode cX8_nearBy 113 = .ok (.getfield 7, 3) := by decide +kernel
theorem dX8_nearBy_116 : decode cX8_nearBy 116 = .ok (.iconst 1, 1) := by decide +kernel
theorem dX8_nearBy_117 : decode cX8_nearBy 117 = .ok (.iaload, 1) := by decide +kernel
theorem dX8_nearBy_118 : decode cX8_nearBy 118 = .ok (.ifCond .ne 8, 3) := by decide +kernel
theorem dX8_nearBy_121 : decode cX8_nearBy 121 = .ok (.iload 4, 2) := by decide +kernel
theorem dX8_nearBy_123 : decode cX8_nearBy 123 = .ok (.goto 19, 3) := by decide +kernel
theorem dX8_nearBy_126 : decode cX8_nearBy 126 = .ok (.aload_n 0, 1) := by decide +kernel
theorem dX8_nearBy_127 : decode cX8_nearBy 127 = .ok (.getfield 7, 3) := by decide +kernel
theorem dX8_nearBy_130 : decode cX8_nearBy 130 = .ok (.iconst 1, 1) := by decide +kernel
theorem dX8_nearBy_131 : decode cX8_nearBy 131 = .ok (.iaload, 1) := by decide +kernel
theorem dX8_nearBy_132 : decode cX8_nearBy 132 = .ok (.iconst 1, 1) := by decide +kernel
theorem dX8_nearBy_133 : decode cX8_nearBy 133 = .ok (.if_icmp .ne 8, 3) := by decide +kernel
theorem dX8_nearBy_136 : decode cX8_nearBy 136 = .ok (.iload 5, 2) := by decide +kernel
theorem dX8_nearBy_138 : decode cX8_nearBy 138 = .ok (.goto 4, 3) := by decide +kernel
theorem dX8_nearBy_141 : decode cX8_nearBy 141 = .ok (.iload_n 3, 1) := by decide +kernel
theorem dX8_nearBy_142 : decode cX8_nearBy 142 = .ok (.ireturn, 1) := by decide +kernel
theorem dX8_partsOf_0 : decode cX8_partsOf 0 = .ok (.aload_n 0, 1) := by decide +kernel
theorem dX8_partsOf_1 : decode cX8_partsOf 1 = .ok (.getfield 7, 3) := by decide +kernel
theorem dX8_partsOf_4 : decode cX8_partsOf 4 = .ok (.iconst 1, 1) := by decide +kernel
theorem dX8_partsOf_5 : decode cX8_partsOf 5 = .ok (.iaload, 1) := by decide +kernel
theorem dX8_partsOf_6 : decode cX8_partsOf 6 = .ok (.iconst 2, 1) := by decide +kernel
theorem dX8_partsOf_7 : decode cX8_partsOf 7 = .ok (.if_icmp .ne 15, 3) := by decide +kernel
theorem dX8_partsOf_10 : decode cX8_partsOf 10 = .ok (.iload_n 1, 1) := by decide +kernel
theorem dX8_partsOf_11 : decode cX8_partsOf 11 = .ok (.invokestatic 121, 3) := by decide +kernel
theorem dX8_partsOf_14 : decode cX8_partsOf 14 = .ok (.iload_n 2, 1) := by decide +kernel
theorem dX8_partsOf_15 : decode cX8_partsOf 15 = .ok (.invokestatic 121, 3) := by decide +kernel
theorem dX8_partsOf_18 : decode cX8_partsOf 18 = .ok (.imul, 1) := by decide +kernel
theorem dX8_partsOf_19 : decode cX8_partsOf 19 = .ok (.goto 4, 3) := by decide +kernel
theorem dX8_partsOf_22 : decode cX8_partsOf 22 = .ok (.iconst 1, 1) := by decide +kernel
theorem dX8_partsOf_23 : decode cX8_partsOf 23 = .ok (.ireturn, 1) := by decide +kernel
theorem dX8_joins_0 : decode cX8_joins 0 = .ok (.aload_n 0, 1) := by decide +kernel
theorem dX8_joins_1 : decode cX8_joins 1 = .ok (.getfield 50, 3) := by decide +kernel
theorem dX8_joins_4 : decode cX8_joins 4 = .ok (.iload_n 1, 1) := by decide +kernel
theorem dX8_joins_5 : decode cX8_joins 5 = .ok (.dup2, 1) := by decide +kernel
theorem dX8_joins_6 : decode cX8_joins 6 = .ok (.iaload, 1) := by decide +kernel
theorem dX8_joins_7 : decode cX8_joins 7 = .ok (.aload_n 0, 1) := by decide +kernel
theorem dX8_joins_8 : decode cX8_joins 8 = .ok (.getfield 50, 3) := by decide +kernel
theorem dX8_joins_11 : decode cX8_joins 11 = .ok (.iload_n 2, 1) := by decide +kernel
theorem dX8_joins_12 : decode cX8_joins 12 = .ok (.iaload, 1) := by decide +kernel
theorem dX8_joins_13 : decode cX8_joins 13 = .ok (.ior, 1) := by decide +kernel
theorem dX8_joins_14 : decode cX8_joins 14 = .ok (.iastore, 1) := by decide +kernel
theorem dX8_joins_15 : decode cX8_joins 15 = .ok (.aload_n 0, 1) := by decide +kernel
theorem dX8_joins_16 : decode cX8_joins 16 = .ok (.dup, 1) := by decide +kernel
theorem dX8_joins_17 : decode cX8_joins 17 = .ok (.getfield 124, 3) := by decide +kernel
theorem dX8_joins_20 : decode cX8_joins 20 = .ok (.iconst 1, 1) := by decide +kernel
theorem dX8_joins_21 : decode cX8_joins 21 = .ok (.isub, 1) := by decide +kernel
theorem dX8_joins_22 : decode cX8_joins 22 = .ok (.putfield 124, 3) := by decide +kernel
theorem dX8_joins_25 : decode cX8_joins 25 = .ok (.aload_n 0, 1) := by decide +kernel
theorem dX8_joins_26 : decode cX8_joins 26 = .ok (.getfield 50, 3) := by decide +kernel
theorem dX8_joins_29 : decode cX8_joins 29 = .ok (.iload_n 2, 1) := by decide +kernel
theorem dX8_joins_30 : decode cX8_joins 30 = .ok (.iconst 1, 1) := by decide +kernel
theorem dX8_joins_31 : decode cX8_joins 31 = .ok (.iadd, 1) := by decide +kernel
theorem dX8_joins_32 : decode cX8_joins 32 = .ok (.aload_n 0, 1) := by decide +kernel
theorem dX8_joins_33 : decode cX8_joins 33 = .ok (.getfield 50, 3) := by decide +kernel
theorem dX8_joins_36 : decode cX8_joins 36 = .ok (.iload_n 2, 1) := by decide +kernel
theorem dX8_joins_37 : decode cX8_joins 37 = .ok (.aload_n 0, 1) := by decide +kernel
theorem dX8_joins_38 : decode cX8_joins 38 = .ok (.getfield 124, 3) := by decide +kernel
theorem dX8_joins_41 : decode cX8_joins 41 = .ok (.iload_n 2, 1) := by decide +kernel
theorem dX8_joins_42 : decode cX8_joins 42 = .ok (.isub, 1) := by decide +kernel
theorem dX8_joins_43 : decode cX8_joins 43 = .ok (.invokestatic 73, 3) := by decide +kernel
theorem dX8_joins_46 : decode cX8_joins 46 = .ok (.return_, 1) := by decide +kernel
theorem dX8_joinsOnce_0 : decode cX8_joinsOnce 0 = .ok (.iconst 0, 1) := by decide +kernel
theorem dX8_joinsOnce_1 : decode cX8_joinsOnce 1 = .ok (.istore_n 2, 1) := by decide +kernel
theorem dX8_joinsOnce_2 : decode cX8_joinsOnce 2 = .ok (.iconst 1, 1) := by decide +kernel
theorem dX8_joinsOnce_3 : decode cX8_joinsOnce 3 = .ok (.istore_n 3, 1) := by decide +kernel
theorem dX8_joinsOnce_4 : decode cX8_joinsOnce 4 = .ok (.iconst 0, 1) := by decide +kernel
theorem dX8_joinsOnce_5 : decode cX8_joinsOnce 5 = .ok (.istore 4, 2) := by decide +kernel
theorem dX8_joinsOnce_7 : decode cX8_joinsOnce 7 = .ok (.iload 4, 2) := by decide +kernel
theorem dX8_joinsOnce_9 : decode cX8_joinsOnce 9 = .ok (.aload_n 0, 1) := by decide +kernel
theorem dX8_joinsOnce_10 : decode cX8_joinsOnce 10 = .ok (.getfield 124, 3) := by decide +kernel
theorem dX8_joinsOnce_13 : decode cX8_joinsOnce 13 = .ok (.if_icmp .ge 117, 3) := by decide +kernel
theorem dX8_joinsOnce_16 : decode cX8_joinsOnce 16 = .ok (.iload 4, 2) := by decide +kernel
theorem dX8_joinsOnce_18 : decode cX8_joinsOnce 18 = .ok (.iconst 1, 1) := by decide +kernel
theorem dX8_joinsOnce_19 : decode cX8_joinsOnce 19 = .ok (.iadd, 1) := by decide +kernel
theorem dX8_joinsOnce_20 : decode cX8_joinsOnce 20 = .ok (.istore 5, 2) := by decide +kernel
theorem dX8_joinsOnce_22 : decode cX8_joinsOnce 22 = .ok (.iload 5, 2) := by decide +kernel
theorem dX8_joinsOnce_24 : decode cX8_joinsOnce 24 = .ok (.aload_n 0, 1) := by decide +kernel
theorem dX8_joinsOnce_25 : decode cX8_joinsOnce 25 = .ok (.getfield 124, 3) := by decide +kernel
theorem dX8_joinsOnce_28 : decode cX8_joinsOnce 28 = .ok (.if_icmp .ge 96, 3) := by decide +kernel
theorem dX8_joinsOnce_31 : decode cX8_joinsOnce 31 = .ok (.aload_n 0, 1) := by decide +kernel
theorem dX8_joinsOnce_32 : decode cX8_joinsOnce 32 = .ok (.aload_n 0, 1) := by decide +kernel
theorem dX8_joinsOnce_33 : decode cX8_joinsOnce 33 = .ok (.getfield 50, 3) := by decide +kernel
theorem dX8_joinsOnce_36 : decode cX8_joinsOnce 36 = .ok (.iload 4, 2) := by decide +kernel
theorem dX8_joinsOnce_38 : decode cX8_joinsOnce 38 = .ok (.iaload, 1) := by decide +kernel
theorem dX8_joinsOnce_39 : decode cX8_joinsOnce 39 = .ok (.aload_n 0, 1) := by decide +kernel
theorem dX8_joinsOnce_40 : decode cX8_joinsOnce 40 = .ok (.getfield 50, 3) := by decide +kernel
theorem dX8_joinsOnce_43 : decode cX8_joinsOnce 43 = .ok (.iload 5, 2) := by decide +kernel
theorem dX8_joinsOnce_45 : decode cX8_joinsOnce 45 = .ok (.iaload, 1) := by decide +kernel
theorem dX8_joinsOnce_46 : decode cX8_joinsOnce 46 = .ok (.invokevirtual 127, 3) := by decide +kernel
theorem dX8_joinsOnce_49 : decode cX8_joinsOnce 49 = .ok (.aload_n 0, 1) := by decide +kernel
theorem dX8_joinsOnce_50 : decode cX8_joinsOnce 50 = .ok (.aload_n 0, 1) := by decide +kernel
theorem dX8_joinsOnce_51 : decode cX8_joinsOnce 51 = .ok (.getfield 50, 3) := by decide +kernel
theorem dX8_joinsOnce_54 : decode cX8_joinsOnce 54 = .ok (.iload_n 2, 1) := by decide +kernel
theorem dX8_joinsOnce_55 : decode cX8_joinsOnce 55 = .ok (.iaload, 1) := by decide +kernel
theorem dX8_joinsOnce_56 : decode cX8_joinsOnce 56 = .ok (.aload_n 0, 1) := by decide +kernel
theorem dX8_joinsOnce_57 : decode cX8_joinsOnce 57 = .ok (.getfield 50, 3) := by decide +kernel
theorem dX8_joinsOnce_60 : decode cX8_joinsOnce 60 = .ok (.iload_n 3, 1) := by decide +kernel
theorem dX8_joinsOnce_61 : decode cX8_joinsOnce 61 = .ok (.iaload, 1) := by decide +kernel
theorem dX8_joinsOnce_62 : decode cX8_joinsOnce 62 = .ok (.invokevirtual 130, 3) := by decide +kernel
theorem dX8_joinsOnce_65 : decode cX8_joinsOnce 65 = .ok (.imul, 1) := by decide +kernel
theorem dX8_joinsOnce_66 : decode cX8_joinsOnce 66 = .ok (.istore 6, 2) := by decide +kernel
theorem dX8_joinsOnce_68 : decode cX8_joinsOnce 68 = .ok (.aload_n 0, 1) := by decide +kernel
theorem dX8_joinsOnce_69 : decode cX8_joinsOnce 69 = .ok (.aload_n 0, 1) := by decide +kernel
theorem dX8_joinsOnce_70 : decode cX8_joinsOnce 70 = .ok (.getfield 50, 3) := by decide +kernel
theorem dX8_joinsOnce_73 : decode cX8_joinsOnce 73 = .ok (.iload_n 2, 1) := by decide +kernel
theorem dX8_joinsOnce_74 : decode cX8_joinsOnce 74 = .ok (.iaload, 1) := by decide +kernel
theorem dX8_joinsOnce_75 : decode cX8_joinsOnce 75 = .ok (.aload_n 0, 1) := by decide +kernel
theorem dX8_joinsOnce_76 : decode cX8_joinsOnce 76 = .ok (.getfield 50, 3) := by decide +kernel
theorem dX8_joinsOnce_79 : decode cX8_joinsOnce 79 = .ok (.iload_n 3, 1) := by decide +kernel
theorem dX8_joinsOnce_80 : decode cX8_joinsOnce 80 = .ok (.iaload, 1) := by decide +kernel
theorem dX8_joinsOnce_81 : decode cX8_joinsOnce 81 = .ok (.invokevirtual 127, 3) := by decide +kernel
theorem dX8_joinsOnce_84 : decode cX8_joinsOnce 84 = .ok (.aload_n 0, 1) := by decide +kernel
theorem dX8_joinsOnce_85 : decode cX8_joinsOnce 85 = .ok (.aload_n 0, 1) := by decide +kernel
theorem dX8_joinsOnce_86 : decode cX8_joinsOnce 86 = .ok (.getfield 50, 3) := by decide +kernel
theorem dX8_joinsOnce_89 : decode cX8_joinsOnce 89 = .ok (.iload 4, 2) := by decide +kernel
theorem dX8_joinsOnce_91 : decode cX8_joinsOnce 91 = .ok (.iaload, 1) := by decide +kernel
theorem dX8_joinsOnce_92 : decode cX8_joinsOnce 92 = .ok (.aload_n 0, 1) := by decide +kernel
theorem dX8_joinsOnce_93 : decode cX8_joinsOnce 93 = .ok (.getfield 50, 3) := by decide +kernel
theorem dX8_joinsOnce_96 : decode cX8_joinsOnce 96 = .ok (.iload 5, 2) := by decide +kernel
theorem dX8_joinsOnce_98 : decode cX8_joinsOnce 98 = .ok (.iaload, 1) := by decide +kernel
theorem dX8_joinsOnce_99 : decode cX8_joinsOnce 99 = .ok (.invokevirtual 130, 3) := by decide +kernel
theorem dX8_joinsOnce_102 : decode cX8_joinsOnce 102 = .ok (.imul, 1) := by decide +kernel
theorem dX8_joinsOnce_103 : decode cX8_joinsOnce 103 = .ok (.istore 7, 2) := by decide +kernel
theorem dX8_joinsOnce_105 : decode cX8_joinsOnce 105 = .ok (.iload 6, 2) := by decide +kernel
theorem dX8_joinsOnce_107 : decode cX8_joinsOnce 107 = .ok (.iload 7, 2) := by decide +kernel
theorem dX8_joinsOnce_109 : decode cX8_joinsOnce 109 = .ok (.if_icmp .ge 9, 3) := by decide +kernel
theorem dX8_joinsOnce_112 : decode cX8_joinsOnce 112 = .ok (.iload 4, 2) := by decide +kernel
theorem dX8_joinsOnce_114 : decode cX8_joinsOnce 114 = .ok (.istore_n 2, 1) := by decide +kernel
theorem dX8_joinsOnce_115 : decode cX8_joinsOnce 115 = .ok (.iload 5, 2) := by decide +kernel
theorem dX8_joinsOnce_117 : decode cX8_joinsOnce 117 = .ok (.istore_n 3, 1) := by decide +kernel
theorem dX8_joinsOnce_118 : decode cX8_joinsOnce 118 = .ok (.iinc 5 1, 3) := by decide +kernel
theorem dX8_joinsOnce_121 : decode cX8_joinsOnce 121 = .ok (.goto (-99), 3) := by decide +kernel
theorem dX8_joinsOnce_124 : decode cX8_joinsOnce 124 = .ok (.iinc 4 1, 3) := by decide +kernel
theorem dX8_joinsOnce_127 : decode cX8_joinsOnce 127 = .ok (.goto (-120), 3) := by decide +kernel
theorem dX8_joinsOnce_130 : decode cX8_joinsOnce 130 = .ok (.aload_n 0, 1) := by decide +kernel
theorem dX8_joinsOnce_131 : decode cX8_joinsOnce 131 = .ok (.getfield 53, 3) := by decide +kernel
theorem dX8_joinsOnce_134 : decode cX8_joinsOnce 134 = .ok (.iload_n 1, 1) := by decide +kernel
theorem dX8_joinsOnce_135 : decode cX8_joinsOnce 135 = .ok (.aload_n 0, 1) := by decide +kernel
theorem dX8_joinsOnce_136 : decode cX8_joinsOnce 136 = .ok (.getfield 50, 3) := by decide +kernel
theorem dX8_joinsOnce_139 : decode cX8_joinsOnce 139 = .ok (.iload_n 2, 1) := by decide +kernel
theorem dX8_joinsOnce_140 : decode cX8_joinsOnce 140 = .ok (.iaload, 1) := by decide +kernel
theorem dX8_joinsOnce_141 : decode cX8_joinsOnce 141 = .ok (.aload_n 0, 1) := by decide +kernel
theorem dX8_joinsOnce_142 : decode cX8_joinsOnce 142 = .ok (.getfield 50, 3) := by decide +kernel
theorem dX8_joinsOnce_145 : decode cX8_joinsOnce 145 = .ok (.iload_n 3, 1) := by decide +kernel
theorem dX8_joinsOnce_146 : decode cX8_joinsOnce 146 = .ok (.iaload, 1) := by decide +kernel
theorem dX8_joinsOnce_147 : decode cX8_joinsOnce 147 = .ok (.ior, 1) := by decide +kernel
theorem dX8_joinsOnce_148 : decode cX8_joinsOnce 148 = .ok (.iastore, 1) := by decide +kernel
theorem dX8_joinsOnce_149 : decode cX8_joinsOnce 149 = .ok (.aload_n 0, 1) := by decide +kernel
theorem dX8_joinsOnce_150 : decode cX8_joinsOnce 150 = .ok (.getfield 56, 3) := by decide +kernel
theorem dX8_joinsOnce_153 : decode cX8_joinsOnce 153 = .ok (.iload_n 1, 1) := by decide +kernel
theorem dX8_joinsOnce_154 : decode cX8_joinsOnce 154 = .ok (.aload_n 0, 1) := by decide +kernel
theorem dX8_joinsOnce_155 : decode cX8_joinsOnce 155 = .ok (.getfield 50, 3) := by decide +kernel
theorem dX8_joinsOnce_158 : decode cX8_joinsOnce 158 = .ok (.iload_n 2, 1) := by decide +kernel
theorem dX8_joinsOnce_159 : decode cX8_joinsOnce 159 = .ok (.iaload, 1) := by decide +kernel
theorem dX8_joinsOnce_160 : decode cX8_joinsOnce 160 = .ok (.iastore, 1) := by decide +kernel
theorem dX8_joinsOnce_161 : decode cX8_joinsOnce 161 = .ok (.aload_n 0, 1) := by decide +kernel
theorem dX8_joinsOnce_162 : decode cX8_joinsOnce 162 = .ok (.getfield 59, 3) := by decide +kernel
theorem dX8_joinsOnce_165 : decode cX8_joinsOnce 165 = .ok (.iload_n 1, 1) := by decide +kernel
theorem dX8_joinsOnce_166 : decode cX8_joinsOnce 166 = .ok (.aload_n 0, 1) := by decide +kernel
theorem dX8_joinsOnce_167 : decode cX8_joinsOnce 167 = .ok (.aload_n 0, 1) := by decide +kernel
theorem dX8_joinsOnce_168 : decode cX8_joinsOnce 168 = .ok (.getfield 50, 3) := by decide +kernel
theorem dX8_joinsOnce_171 : decode cX8_joinsOnce 171 = .ok (.iload_n 2, 1) := by decide +kernel
theorem dX8_joinsOnce_172 : decode cX8_joinsOnce 172 = .ok (.iaload, 1) := by decide +kernel
theorem dX8_joinsOnce_173 : decode cX8_joinsOnce 173 = .ok (.aload_n 0, 1) := by decide +kernel
theorem dX8_joinsOnce_174 : decode cX8_joinsOnce 174 = .ok (.getfield 50, 3) := by decide +kernel
theorem dX8_joinsOnce_177 : decode cX8_joinsOnce 177 = .ok (.iload_n 3, 1) := by decide +kernel
theorem dX8_joinsOnce_178 : decode cX8_joinsOnce 178 = .ok (.iaload, 1) := by decide +kernel
theorem dX8_joinsOnce_179 : decode cX8_joinsOnce 179 = .ok (.invokevirtual 127, 3) := by decide +kernel
theorem dX8_joinsOnce_182 : decode cX8_joinsOnce 182 = .ok (.aload_n 0, 1) := by decide +kernel
theorem dX8_joinsOnce_183 : decode cX8_joinsOnce 183 = .ok (.aload_n 0, 1) := by decide +kernel
theorem dX8_joinsOnce_184 : decode cX8_joinsOnce 184 = .ok (.getfield 50, 3) := by decide +kernel
theorem dX8_joinsOnce_187 : decode cX8_joinsOnce 187 = .ok (.iload_n 2, 1) := by decide +kernel
theorem dX8_joinsOnce_188 : decode cX8_joinsOnce 188 = .ok (.iaload, 1) := by decide +kernel
theorem dX8_joinsOnce_189 : decode cX8_joinsOnce 189 = .ok (.aload_n 0, 1) := by decide +kernel
theorem dX8_joinsOnce_190 : decode cX8_joinsOnce 190 = .ok (.getfield 50, 3) := by decide +kernel
theorem dX8_joinsOnce_193 : decode cX8_joinsOnce 193 = .ok (.iload_n 3, 1) := by decide +kernel
theorem dX8_joinsOnce_194 : decode cX8_joinsOnce 194 = .ok (.iaload, 1) := by decide +kernel
theorem dX8_joinsOnce_195 : decode cX8_joinsOnce 195 = .ok (.invokevirtual 130, 3) := by decide +kernel
theorem dX8_joinsOnce_198 : decode cX8_joinsOnce 198 = .ok (.idiv, 1) := by decide +kernel
theorem dX8_joinsOnce_199 : decode cX8_joinsOnce 199 = .ok (.iastore, 1) := by decide +kernel
theorem dX8_joinsOnce_200 : decode cX8_joinsOnce 200 = .ok (.aload_n 0, 1) := by decide +kernel
theorem dX8_joinsOnce_201 : decode cX8_joinsOnce 201 = .ok (.iload_n 2, 1) := by decide +kernel
theorem dX8_joinsOnce_202 : decode cX8_joinsOnce 202 = .ok (.iload_n 3, 1) := by decide +kernel
theorem dX8_joinsOnce_203 : decode cX8_joinsOnce 203 = .ok (.invokevirtual 133, 3) := by decide +kernel
theorem dX8_joinsOnce_206 : decode cX8_joinsOnce 206 = .ok (.return_, 1) := by decide +kernel
theorem dX8_beginsTypes_0 : decode cX8_beginsTypes 0 = .ok (.aload_n 0, 1) := by decide +kernel
theorem dX8_beginsTypes_1 : decode cX8_beginsTypes 1 = .ok (.invokevirtual 136, 3) := by decide +kernel
theorem dX8_beginsTypes_4 : decode cX8_beginsTypes 4 = .ok (.aload_n 0, 1) := by decide +kernel
theorem dX8_beginsTypes_5 : decode cX8_beginsTypes 5 = .ok (.aload_n 0, 1) := by decide +kernel
theorem dX8_beginsTypes_6 : decode cX8_beginsTypes 6 = .ok (.getfield 7, 3) := by decide +kernel
theorem dX8_beginsTypes_9 : decode cX8_beginsTypes 9 = .ok (.iconst 0, 1) := by decide +kernel
theorem dX8_beginsTypes_10 : decode cX8_beginsTypes 10 = .ok (.iaload, 1) := by decide +kernel
theorem dX8_beginsTypes_11 : decode cX8_beginsTypes 11 = .ok (.putfield 124, 3) := by decide +kernel
theorem dX8_beginsTypes_14 : decode cX8_beginsTypes 14 = .ok (.iconst 0, 1) := by decide +kernel
theorem dX8_beginsTypes_15 : decode cX8_beginsTypes 15 = .ok (.istore_n 1, 1) := by decide +kernel
theorem dX8_beginsTypes_16 : decode cX8_beginsTypes 16 = .ok (.iload_n 1, 1) := by decide +kernel
theorem dX8_beginsTypes_17 : decode cX8_beginsTypes 17 = .ok (.aload_n 0, 1) := by decide +kernel
theorem dX8_beginsTypes_18 : decode cX8_beginsTypes 18 = .ok (.getfield 124, 3) := by decide +kernel
theorem dX8_beginsTypes_21 : decode cX8_beginsTypes 21 = .ok (.if_icmp .ge 18, 3) := by decide +kernel
theorem dX8_beginsTypes_24 : decode cX8_beginsTypes 24 = .ok (.aload_n 0, 1) := by decide +kernel
theorem dX8_beginsTypes_25 : decode cX8_beginsTypes 25 = .ok (.getfield 50, 3) := by decide +kernel
theorem dX8_beginsTypes_28 : decode cX8_beginsTypes 28 = .ok (.iload_n 1, 1) := by decide +kernel
theorem dX8_beginsTypes_29 : decode cX8_beginsTypes 29 = .ok (.iconst 1, 1) := by decide +kernel
theorem dX8_beginsTypes_30 : decode cX8_beginsTypes 30 = .ok (.iload_n 1, 1) := by decide +kernel
theorem dX8_beginsTypes_31 : decode cX8_beginsTypes 31 = .ok (.ishl, 1) := by decide +kernel
theorem dX8_beginsTypes_32 : decode cX8_beginsTypes 32 = .ok (.iastore, 1) := by decide +kernel
theorem dX8_beginsTypes_33 : decode cX8_beginsTypes 33 = .ok (.iinc 1 1, 3) := by decide +kernel
theorem dX8_beginsTypes_36 : decode cX8_beginsTypes 36 = .ok (.goto (-20), 3) := by decide +kernel
theorem dX8_beginsTypes_39 : decode cX8_beginsTypes 39 = .ok (.return_, 1) := by decide +kernel
theorem dX8_nodesMany_0 : decode cX8_nodesMany 0 = .ok (.aload_n 0, 1) := by decide +kernel
theorem dX8_nodesMany_1 : decode cX8_nodesMany 1 = .ok (.getfield 7, 3) := by decide +kernel
theorem dX8_nodesMany_4 : decode cX8_nodesMany 4 = .ok (.iconst 0, 1) := by decide +kernel
theorem dX8_nodesMany_5 : decode cX8_nodesMany 5 = .ok (.iaload, 1) := by decide +kernel
theorem dX8_nodesMany_6 : decode cX8_nodesMany 6 = .ok (.ifCond .le 14, 3) := by decide +kernel
theorem dX8_nodesMany_9 : decode cX8_nodesMany 9 = .ok (.aload_n 0, 1) := by decide +kernel
theorem dX8_nodesMany_10 : decode cX8_nodesMany 10 = .ok (.getfield 7, 3) := by decide +kernel
theorem dX8_nodesMany_13 : decode cX8_nodesMany 13 = .ok (.iconst 0, 1) := by decide +kernel
theorem dX8_nodesMany_14 : decode cX8_nodesMany 14 = .ok (.iaload, 1) := by decide +kernel
theorem dX8_nodesMany_15 : decode cX8_nodesMany 15 = .ok (.iconst 1, 1) := by decide +kernel
theorem dX8_nodesMany_16 : decode cX8_nodesMany 16 = .ok (.isub, 1) := by decide +kernel
theorem dX8_nodesMany_17 : decode cX8_nodesMany 17 = .ok (.goto 4, 3) := by decide +kernel
theorem dX8_nodesMany_20 : decode cX8_nodesMany 20 = .ok (.iconst 0, 1) := by decide +kernel
theorem dX8_nodesMany_21 : decode cX8_nodesMany 21 = .ok (.ireturn, 1) := by decide +kernel
theorem dX8_laysNodes_0 : decode cX8_laysNodes 0 = .ok (.aload_n 0, 1) := by decide +kernel
theorem dX8_laysNodes_1 : decode cX8_laysNodes 1 = .ok (.invokevirtual 139, 3) := by decide +kernel
theorem dX8_laysNodes_4 : decode cX8_laysNodes 4 = .ok (.iconst 0, 1) := by decide +kernel
theorem dX8_laysNodes_5 : decode cX8_laysNodes 5 = .ok (.istore_n 1, 1) := by decide +kernel
theorem dX8_laysNodes_6 : decode cX8_laysNodes 6 = .ok (.iload_n 1, 1) := by decide +kernel
theorem dX8_laysNodes_7 : decode cX8_laysNodes 7 = .ok (.aload_n 0, 1) := by decide +kernel
theorem dX8_laysNodes_8 : decode cX8_laysNodes 8 = .ok (.invokevirtual 142, 3) := by decide +kernel
theorem dX8_laysNodes_11 : decode cX8_laysNodes 11 = .ok (.if_icmp .ge 14, 3) := by decide +kernel
theorem dX8_laysNodes_14 : decode cX8_laysNodes 14 = .ok (.aload_n 0, 1) := by decide +kernel
theorem dX8_laysNodes_15 : decode cX8_laysNodes 15 = .ok (.iload_n 1, 1) := by decide +kernel
theorem dX8_laysNodes_16 : decode cX8_laysNodes 16 = .ok (.invokevirtual 145, 3) := by decide +kernel
theorem dX8_laysNodes_19 : decode cX8_laysNodes 19 = .ok (.iinc 1 1, 3) := by decide +kernel
theorem dX8_laysNodes_22 : decode cX8_laysNodes 22 = .ok (.goto (-16), 3) := by decide +kernel
theorem dX8_laysNodes_25 : decode cX8_laysNodes 25 = .ok (.return_, 1) := by decide +kernel
theorem dX8_middleOf_0 : decode cX8_middleOf 0 = .ok (.iconst (-1), 1) := by decide +kernel
theorem dX8_middleOf_1 : decode cX8_middleOf 1 = .ok (.istore_n 2, 1) := by decide +kernel
theorem dX8_middleOf_2 : decode cX8_middleOf 2 = .ok (.ldc 84, 2) := by decide +kernel
theorem dX8_middleOf_4 : decode cX8_middleOf 4 = .ok (.istore_n 3, 1) := by decide +kernel
theorem dX8_middleOf_5 : decode cX8_middleOf 5 = .ok (.iconst 0, 1) := by decide +kernel
theorem dX8_middleOf_6 : decode cX8_middleOf 6 = .ok (.istore 4, 2) := by decide +kernel
theorem dX8_middleOf_8 : decode cX8_middleOf 8 = .ok (.iload 4, 2) := by decide +kernel
theorem dX8_middleOf_10 : decode cX8_middleOf 10 = .ok (.aload_n 0, 1) := by decide +kernel
theorem dX8_middleOf_11 : decode cX8_middleOf 11 = .ok (.getfield 7, 3) := by decide +kernel
theorem dX8_middleOf_14 : decode cX8_middleOf 14 = .ok (.iconst 0, 1) := by decide +kernel
theorem dX8_middleOf_15 : decode cX8_middleOf 15 = .ok (.iaload, 1) := by decide +kernel
theorem dX8_middleOf_16 : decode cX8_middleOf 16 = .ok (.if_icmp .ge 84, 3) := by decide +kernel
theorem dX8_middleOf_19 : decode cX8_middleOf 19 = .ok (.iconst 0, 1) := by decide +kernel
theorem dX8_middleOf_20 : decode cX8_middleOf 20 = .ok (.istore 5, 2) := by decide +kernel
theorem dX8_middleOf_22 : decode cX8_middleOf 22 = .ok (.iconst 0, 1) := by decide +kernel
theorem dX8_middleOf_23 : decode cX8_middleOf 23 = .ok (.istore 6, 2) := by decide +kernel
theorem dX8_middleOf_25 : decode cX8_middleOf 25 = .ok (.iload 6, 2) := by decide +kernel
theorem dX8_middleOf_27 : decode cX8_middleOf 27 = .ok (.aload_n 0, 1) := by decide +kernel
theorem dX8_middleOf_28 : decode cX8_middleOf 28 = .ok (.getfield 7, 3) := by decide +kernel
theorem dX8_middleOf_31 : decode cX8_middleOf 31 = .ok (.iconst 0, 1) := by decide +kernel
theorem dX8_middleOf_32 : decode cX8_middleOf 32 = .ok (.iaload, 1) := by decide +kernel
theorem dX8_middleOf_33 : decode cX8_middleOf 33 = .ok (.if_icmp .ge 40, 3) := by decide +kernel
theorem dX8_middleOf_36 : decode cX8_middleOf 36 = .ok (.iload 5, 2) := by decide +kernel
theorem dX8_middleOf_38 : decode cX8_middleOf 38 = .ok (.iload_n 1, 1) := by decide +kernel
theorem dX8_middleOf_39 : decode cX8_middleOf 39 = .ok (.iload 6, 2) := by decide +kernel
theorem dX8_middleOf_41 : decode cX8_middleOf 41 = .ok (.invokestatic 118, 3) := by decide +kernel
theorem dX8_middleOf_44 : decode cX8_middleOf 44 = .ok (.ifCond .eq 19, 3) := by decide +kernel
theorem dX8_middleOf_47 : decode cX8_middleOf 47 = .ok (.aload_n 0, 1) := by decide +kernel
theorem dX8_middleOf_48 : decode cX8_middleOf 48 = .ok (.getfield 47, 3) := by decide +kernel
theorem dX8_middleOf_51 : decode cX8_middleOf 51 = .ok (.bipush 8, 2) := by decide +kernel
theorem dX8_middleOf_53 : decode cX8_middleOf 53 = .ok (.iload 4, 2) := by decide +kernel
theorem dX8_middleOf_55 : decode cX8_middleOf 55 = .ok (.imul, 1) := by decide +kernel
theorem dX8_middleOf_56 : decode cX8_middleOf 56 = .ok (.iload 6, 2) := by decide +kernel
theorem dX8_middleOf_58 : decode cX8_middleOf 58 = .ok (.iadd, 1) := by decide +kernel
theorem dX8_middleOf_59 : decode cX8_middleOf 59 = .ok (.iaload, 1) := by decide +kernel
theorem dX8_middleOf_60 : decode cX8_middleOf 60 = .ok (.goto 4, 3) := by decide +kernel
theorem dX8_middleOf_63 : decode cX8_middleOf 63 = .ok (.iconst 0, 1) := by decide +kernel
theorem dX8_middleOf_64 : decode cX8_middleOf 64 = .ok (.iadd, 1) := by decide +kernel
theorem dX8_middleOf_65 : decode cX8_middleOf 65 = .ok (.istore 5, 2) := by decide +kernel
theorem dX8_middleOf_67 : decode cX8_middleOf 67 = .ok (.iinc 6 1, 3) := by decide +kernel
theorem dX8_middleOf_70 : decode cX8_middleOf 70 = .ok (.goto (-45), 3) := by decide +kernel
theorem dX8_middleOf_73 : decode cX8_middleOf 73 = .ok (.iload_n 1, 1) := by decide +kernel
theorem dX8_middleOf_74 : decode cX8_middleOf 74 = .ok (.iload 4, 2) := by decide +kernel
theorem dX8_middleOf_76 : decode cX8_middleOf 76 = .ok (.invokestatic 118, 3) := by decide +kernel
theorem dX8_middleOf_79 : decode cX8_middleOf 79 = .ok (.ifCond .eq 15, 3) := by decide +kernel
theorem dX8_middleOf_82 : decode cX8_middleOf 82 = .ok (.iload 5, 2) := by decide +kernel
theorem dX8_middleOf_84 : decode cX8_middleOf 84 = .ok (.iload_n 3, 1) := by decide +kernel
theorem dX8_middleOf_85 : decode cX8_middleOf 85 = .ok (.if_icmp .ge 9, 3) := by decide +kernel
theorem dX8_middleOf_88 : decode cX8_middleOf 88 = .ok (.iload 4, 2) := by decide +kernel
theorem dX8_middleOf_90 : decode cX8_middleOf 90 = .ok (.istore_n 2, 1) := by decide +kernel
theorem dX8_middleOf_91 : decode cX8_middleOf 91 = .ok (.iload 5, 2) := by decide +kernel
theorem dX8_middleOf_93 : decode cX8_middleOf 93 = .ok (.istore_n 3, 1) := by decide +kernel
theorem dX8_middleOf_94 : decode cX8_middleOf 94 = .ok (.iinc 4 1, 3) := by decide +kernel
theorem dX8_middleOf_97 : decode cX8_middleOf 97 = .ok (.goto (-89), 3) := by decide +kernel
theorem dX8_middleOf_100 : decode cX8_middleOf 100 = .ok (.iload_n 2, 1) := by decide +kernel
theorem dX8_middleOf_101 : decode cX8_middleOf 101 = .ok (.ireturn, 1) := by decide +kernel
theorem dX8_allHave_0 : decode cX8_allHave 0 = .ok (.sipush 255, 3) := by decide +kernel
theorem dX8_allHave_3 : decode cX8_allHave 3 = .ok (.istore_n 2, 1) := by decide +kernel
theorem dX8_allHave_4 : decode cX8_allHave 4 = .ok (.iconst 0, 1) := by decide +kernel
theorem dX8_allHave_5 : decode cX8_allHave 5 = .ok (.istore_n 3, 1) := by decide +kernel
theorem dX8_allHave_6 : decode cX8_allHave 6 = .ok (.iload_n 3, 1) := by decide +kernel
theorem dX8_allHave_7 : decode cX8_allHave 7 = .ok (.aload_n 0, 1) := by decide +kernel
theorem dX8_allHave_8 : decode cX8_allHave 8 = .ok (.getfield 7, 3) := by decide +kernel
theorem dX8_allHave_11 : decode cX8_allHave 11 = .ok (.iconst 0, 1) := by decide +kernel
theorem dX8_allHave_12 : decode cX8_allHave 12 = .ok (.iaload, 1) := by decide +kernel
theorem dX8_allHave_13 : decode cX8_allHave 13 = .ok (.if_icmp .ge 74, 3) := by decide +kernel
theorem dX8_allHave_16 : decode cX8_allHave 16 = .ok (.iconst 0, 1) := by decide +kernel
theorem dX8_allHave_17 : decode cX8_allHave 17 = .ok (.istore 4, 2) := by decide +kernel
theorem dX8_allHave_19 : decode cX8_allHave 19 = .ok (.iconst 0, 1) := by decide +kernel
theorem dX8_allHave_20 : decode cX8_allHave 20 = .ok (.istore 5, 2) := by decide +kernel
theorem dX8_allHave_22 : decode cX8_allHave 22 = .ok (.iload 5, 2) := by decide +kernel
theorem dX8_allHave_24 : decode cX8_allHave 24 = .ok (.aload_n 0, 1) := by decide +kernel
theorem dX8_allHave_25 : decode cX8_allHave 25 = .ok (.getfield 7, 3) := by decide +kernel
theorem dX8_allHave_28 : decode cX8_allHave 28 = .ok (.bipush 6, 2) := by decide +kernel
theorem dX8_allHave_30 : decode cX8_allHave 30 = .ok (.iload_n 3, 1) := by decide +kernel
theorem dX8_allHave_31 : decode cX8_allHave 31 = .ok (.iadd, 1) := by decide +kernel
theorem dX8_allHave_32 : decode cX8_allHave 32 = .ok (.iaload, 1) := by decide +kernel
theorem dX8_allHave_33 : decode cX8_allHave 33 = .ok (.if_icmp .ge 31, 3) := by decide +kernel
theorem dX8_allHave_36 : decode cX8_allHave 36 = .ok (.iload 4, 2) := by decide +kernel
theorem dX8_allHave_38 : decode cX8_allHave 38 = .ok (.iconst 1, 1) := by decide +kernel
theorem dX8_allHave_39 : decode cX8_allHave 39 = .ok (.aload_n 0, 1) := by decide +kernel
theorem dX8_allHave_40 : decode cX8_allHave 40 = .ok (.getfield 7, 3) := by decide +kernel
theorem dX8_allHave_43 : decode cX8_allHave 43 = .ok (.bipush 30, 2) := by decide +kernel
theorem dX8_allHave_45 : decode cX8_allHave 45 = .ok (.bipush 10, 2) := by decide +kernel
theorem dX8_allHave_47 : decode cX8_allHave 47 = .ok (.iload_n 3, 1) := by decide +kernel
theorem dX8_allHave_48 : decode cX8_allHave 48 = .ok (.imul, 1) := by decide +kernel
theorem dX8_allHave_49 : decode cX8_allHave 49 = .ok (.iadd, 1) := by decide +kernel
theorem dX8_allHave_50 : decode cX8_allHave 50 = .ok (.iload 5, 2) := by decide +kernel
theorem dX8_allHave_52 : decode cX8_allHave 52 = .ok (.iadd, 1) := by decide +kernel
theorem dX8_allHave_53 : decode cX8_allHave 53 = .ok (.iaload, 1) := by decide +kernel
theorem dX8_allHave_54 : decode cX8_allHave 54 = .ok (.ishl, 1) := by decide +kernel
theorem dX8_allHave_55 : decode cX8_allHave 55 = .ok (.ior, 1) := by decide +kernel
theorem dX8_allHave_56 : decode cX8_allHave 56 = .ok (.istore 4, 2) := by decide +kernel
theorem dX8_allHave_58 : decode cX8_allHave 58 = .ok (.iinc 5 1, 3) := by decide +kernel
theorem dX8_allHave_61 : decode cX8_allHave 61 = .ok (.goto (-39), 3) := by decide +kernel
theorem dX8_allHave_64 : decode cX8_allHave 64 = .ok (.iload_n 1, 1) := by decide +kernel
theorem dX8_allHave_65 : decode cX8_allHave 65 = .ok (.iload_n 3, 1) := by decide +kernel
theorem dX8_allHave_66 : decode cX8_allHave 66 = .ok (.invokestatic 118, 3) := by decide +kernel
theorem dX8_allHave_69 : decode cX8_allHave 69 = .ok (.ifCond .eq 10, 3) := by decide +kernel
theorem dX8_allHave_72 : decode cX8_allHave 72 = .ok (.iload_n 2, 1) := by decide +kernel
theorem dX8_allHave_73 : decode cX8_allHave 73 = .ok (.iload 4, 2) := by decide +kernel
theorem dX8_allHave_75 : decode cX8_allHave 75 = .ok (.iand, 1) := by decide +kernel
theorem dX8_allHave_76 : decode cX8_allHave 76 = .ok (.goto 4, 3) := by decide +kernel
theorem dX8_allHave_79 : decode cX8_allHave 79 = .ok (.iload_n 2, 1) := by decide +kernel
theorem dX8_allHave_80 : decode cX8_allHave 80 = .ok (.istore_n 2, 1) := by decide +kernel
theorem dX8_allHave_81 : decode cX8_allHave 81 = .ok (.iinc 3 1, 3) := by decide +kernel
theorem dX8_allHave_84 : decode cX8_allHave 84 = .ok (.goto (-78), 3) := by decide +kernel
theorem dX8_allHave_87 : decode cX8_allHave 87 = .ok (.iload_n 2, 1) := by decide +kernel
theorem dX8_allHave_88 : decode cX8_allHave 88 = .ok (.ireturn, 1) := by decide +kernel
theorem dX8_likeTyped_0 : decode cX8_likeTyped 0 = .ok (.iconst (-1), 1) := by decide +kernel
theorem dX8_likeTyped_1 : decode cX8_likeTyped 1 = .ok (.istore_n 1, 1) := by decide +kernel
theorem dX8_likeTyped_2 : decode cX8_likeTyped 2 = .ok (.ldc 84, 2) := by decide +kernel
theorem dX8_likeTyped_4 : decode cX8_likeTyped 4 = .ok (.istore_n 2, 1) := by decide +kernel
theorem dX8_likeTyped_5 : decode cX8_likeTyped 5 = .ok (.iconst 0, 1) := by decide +kernel
theorem dX8_likeTyped_6 : decode cX8_likeTyped 6 = .ok (.istore_n 3, 1) := by decide +kernel
theorem dX8_likeTyped_7 : decode cX8_likeTyped 7 = .ok (.iload_n 3, 1) := by decide +kernel
theorem dX8_likeTyped_8 : decode cX8_likeTyped 8 = .ok (.aload_n 0, 1) := by decide +kernel
theorem dX8_likeTyped_9 : decode cX8_likeTyped 9 = .ok (.getfield 7, 3) := by decide +kernel
theorem dX8_likeTyped_12 : decode cX8_likeTyped 12 = .ok (.iconst 0, 1) := by decide +kernel
theorem dX8_likeTyped_13 : decode cX8_likeTyped 13 = .ok (.iaload, 1) := by decide +kernel
theorem dX8_likeTyped_14 : decode cX8_likeTyped 14 = .ok (.if_icmp .ge 72, 3) := by decide +kernel
theorem dX8_likeTyped_17 : decode cX8_likeTyped 17 = .ok (.aload_n 0, 1) := by decide +kernel
theorem dX8_likeTyped_18 : decode cX8_likeTyped 18 = .ok (.getfield 149, 3) := by decide +kernel
theorem dX8_likeTyped_21 : decode cX8_likeTyped 21 = .ok (.ifCond .le 65, 3) := by decide +kernel
theorem dX8_likeTyped_24 : decode cX8_likeTyped 24 = .ok (.aload_n 0, 1) := by decide +kernel
theorem dX8_likeTyped_25 : decode cX8_likeTyped 25 = .ok (.iload_n 3, 1) := by decide +kernel
theorem dX8_likeTyped_26 : decode cX8_likeTyped 26 = .ok (.iload_n 3, 1) := by decide +kernel
theorem dX8_likeTyped_27 : decode cX8_likeTyped 27 = .ok (.invokevirtual 103, 3) := by decide +kernel
theorem dX8_likeTyped_30 : decode cX8_likeTyped 30 = .ok (.aload_n 0, 1) := by decide +kernel
theorem dX8_likeTyped_31 : decode cX8_likeTyped 31 = .ok (.aload_n 0, 1) := by decide +kernel
theorem dX8_likeTyped_32 : decode cX8_likeTyped 32 = .ok (.getfield 149, 3) := by decide +kernel
theorem dX8_likeTyped_35 : decode cX8_likeTyped 35 = .ok (.putfield 70, 3) := by decide +kernel
theorem dX8_likeTyped_38 : decode cX8_likeTyped 38 = .ok (.aload_n 0, 1) := by decide +kernel
theorem dX8_likeTyped_39 : decode cX8_likeTyped 39 = .ok (.getfield 23, 3) := by decide +kernel
theorem dX8_likeTyped_42 : decode cX8_likeTyped 42 = .ok (.iconst 0, 1) := by decide +kernel
theorem dX8_likeTyped_43 : decode cX8_likeTyped 43 = .ok (.aload_n 0, 1) := by decide +kernel
theorem dX8_likeTyped_44 : decode cX8_likeTyped 44 = .ok (.getfield 32, 3) := by decide +kernel
theorem dX8_likeTyped_47 : decode cX8_likeTyped 47 = .ok (.iconst 0, 1) := by decide +kernel
theorem dX8_likeTyped_48 : decode cX8_likeTyped 48 = .ok (.aload_n 0, 1) := by decide +kernel
theorem dX8_likeTyped_49 : decode cX8_likeTyped 49 = .ok (.getfield 149, 3) := by decide +kernel
theorem dX8_likeTyped_52 : decode cX8_likeTyped 52 = .ok (.invokestatic 73, 3) := by decide +kernel
theorem dX8_likeTyped_55 : decode cX8_likeTyped 55 = .ok (.aload_n 0, 1) := by decide +kernel
theorem dX8_likeTyped_56 : decode cX8_likeTyped 56 = .ok (.invokevirtual 107, 3) := by decide +kernel
theorem dX8_likeTyped_59 : decode cX8_likeTyped 59 = .ok (.istore 4, 2) := by decide +kernel
theorem dX8_likeTyped_61 : decode cX8_likeTyped 61 = .ok (.iload 4, 2) := by decide +kernel
theorem dX8_likeTyped_63 : decode cX8_likeTyped 63 = .ok (.iload_n 2, 1) := by decide +kernel
theorem dX8_likeTyped_64 : decode cX8_likeTyped 64 = .ok (.if_icmp .ge 7, 3) := by decide +kernel
theorem dX8_likeTyped_67 : decode cX8_likeTyped 67 = .ok (.iload_n 3, 1) := by decide +kernel
theorem dX8_likeTyped_68 : decode cX8_likeTyped 68 = .ok (.goto 4, 3) := by decide +kernel
theorem dX8_likeTyped_71 : decode cX8_likeTyped 71 = .ok (.iload_n 1, 1) := by decide +kernel
theorem dX8_likeTyped_72 : decode cX8_likeTyped 72 = .ok (.istore_n 1, 1) := by decide +kernel
theorem dX8_likeTyped_73 : decode cX8_likeTyped 73 = .ok (.iload 4, 2) := by decide +kernel
theorem dX8_likeTyped_75 : decode cX8_likeTyped 75 = .ok (.iload_n 2, 1) := by decide +kernel
theorem dX8_likeTyped_76 : decode cX8_likeTyped 76 = .ok (.invokestatic 77, 3) := by decide +kernel
theorem dX8_likeTyped_79 : decode cX8_likeTyped 79 = .ok (.istore_n 2, 1) := by decide +kernel
theorem dX8_likeTyped_80 : decode cX8_likeTyped 80 = .ok (.iinc 3 1, 3) := by decide +kernel
theorem dX8_likeTyped_83 : decode cX8_likeTyped 83 = .ok (.goto (-76), 3) := by decide +kernel
theorem dX8_likeTyped_86 : decode cX8_likeTyped 86 = .ok (.iload_n 1, 1) := by decide +kernel
theorem dX8_likeTyped_87 : decode cX8_likeTyped 87 = .ok (.ireturn, 1) := by decide +kernel
theorem dX8_hangs_0 : decode cX8_hangs 0 = .ok (.iload_n 1, 1) := by decide +kernel
theorem dX8_hangs_1 : decode cX8_hangs 1 = .ok (.iload_n 1, 1) := by decide +kernel
theorem dX8_hangs_2 : decode cX8_hangs 2 = .ok (.ineg, 1) := by decide +kernel
theorem dX8_hangs_3 : decode cX8_hangs 3 = .ok (.iand, 1) := by decide +kernel
theorem dX8_hangs_4 : decode cX8_hangs 4 = .ok (.istore_n 2, 1) := by decide +kernel
theorem dX8_hangs_5 : decode cX8_hangs 5 = .ok (.iconst 0, 1) := by decide +kernel
theorem dX8_hangs_6 : decode cX8_hangs 6 = .ok (.istore_n 3, 1) := by decide +kernel
theorem dX8_hangs_7 : decode cX8_hangs 7 = .ok (.iload_n 3, 1) := by decide +kernel
theorem dX8_hangs_8 : decode cX8_hangs 8 = .ok (.bipush 8, 2) := by decide +kernel
theorem dX8_hangs_10 : decode cX8_hangs 10 = .ok (.if_icmp .ge 53, 3) := by decide +kernel
theorem dX8_hangs_13 : decode cX8_hangs 13 = .ok (.iconst 0, 1) := by decide +kernel
theorem dX8_hangs_14 : decode cX8_hangs 14 = .ok (.istore 4, 2) := by decide +kernel
theorem dX8_hangs_16 : decode cX8_hangs 16 = .ok (.iload 4, 2) := by decide +kernel
theorem dX8_hangs_18 : decode cX8_hangs 18 = .ok (.bipush 8, 2) := by decide +kernel
theorem dX8_hangs_20 : decode cX8_hangs 20 = .ok (.if_icmp .ge 37, 3) := by decide +kernel
theorem dX8_hangs_23 : decode cX8_hangs 23 = .ok (.iload_n 2, 1) := by decide +kernel
theorem dX8_hangs_24 : decode cX8_hangs 24 = .ok (.iload_n 2, 1) := by decide +kernel
theorem dX8_hangs_25 : decode cX8_hangs 25 = .ok (.iload 4, 2) := by decide +kernel
theorem dX8_hangs_27 : decode cX8_hangs 27 = .ok (.invokestatic 118, 3) := by decide +kernel
theorem dX8_hangs_30 : decode cX8_hangs 30 = .ok (.ifCond .eq 18, 3) := by decide +kernel
theorem dX8_hangs_33 : decode cX8_hangs 33 = .ok (.aload_n 0, 1) := by decide +kernel
theorem dX8_hangs_34 : decode cX8_hangs 34 = .ok (.getfield 7, 3) := by decide +kernel
theorem dX8_hangs_37 : decode cX8_hangs 37 = .ok (.bipush 22, 2) := by decide +kernel
theorem dX8_hangs_39 : decode cX8_hangs 39 = .ok (.iload 4, 2) := by decide +kernel
theorem dX8_hangs_41 : decode cX8_hangs 41 = .ok (.iadd, 1) := by decide +kernel
theorem dX8_hangs_42 : decode cX8_hangs 42 = .ok (.iaload, 1) := by decide +kernel
theorem dX8_hangs_43 : decode cX8_hangs 43 = .ok (.iload_n 1, 1) := by decide +kernel
theorem dX8_hangs_44 : decode cX8_hangs 44 = .ok (.iand, 1) := by decide +kernel
theorem dX8_hangs_45 : decode cX8_hangs 45 = .ok (.goto 4, 3) := by decide +kernel
theorem dX8_hangs_48 : decode cX8_hangs 48 = .ok (.iconst 0, 1) := by decide +kernel
theorem dX8_hangs_49 : decode cX8_hangs 49 = .ok (.ior, 1) := by decide +kernel
theorem dX8_hangs_50 : decode cX8_hangs 50 = .ok (.istore_n 2, 1) := by decide +kernel
theorem dX8_hangs_51 : decode cX8_hangs 51 = .ok (.iinc 4 1, 3) := by decide +kernel
theorem dX8_hangs_54 : decode cX8_hangs 54 = .ok (.goto (-38), 3) := by decide +kernel
theorem dX8_hangs_57 : decode cX8_hangs 57 = .ok (.iinc 3 1, 3) := by decide +kernel
theorem dX8_hangs_60 : decode cX8_hangs 60 = .ok (.goto (-53), 3) := by decide +kernel
theorem dX8_hangs_63 : decode cX8_hangs 63 = .ok (.iload_n 2, 1) := by decide +kernel
theorem dX8_hangs_64 : decode cX8_hangs 64 = .ok (.iload_n 1, 1) := by decide +kernel
theorem dX8_hangs_65 : decode cX8_hangs 65 = .ok (.if_icmp .ne 7, 3) := by decide +kernel
theorem dX8_hangs_68 : decode cX8_hangs 68 = .ok (.iconst 1, 1) := by decide +kernel
theorem dX8_hangs_69 : decode cX8_hangs 69 = .ok (.goto 4, 3) := by decide +kernel
theorem dX8_hangs_72 : decode cX8_hangs 72 = .ok (.iconst 0, 1) := by decide +kernel
theorem dX8_hangs_73 : decode cX8_hangs 73 = .ok (.ireturn, 1) := by decide +kernel
theorem dX8_over_0 : decode cX8_over 0 = .ok (.iconst (-1), 1) := by decide +kernel
theorem dX8_over_1 : decode cX8_over 1 = .ok (.istore_n 2, 1) := by decide +kernel
theorem dX8_over_2 : decode cX8_over 2 = .ok (.iconst 0, 1) := by decide +kernel
theorem dX8_over_3 : decode cX8_over 3 = .ok (.istore_n 3, 1) := by decide +kernel
theorem dX8_over_4 : decode cX8_over 4 = .ok (.iload_n 3, 1) := by decide +kernel
theorem dX8_over_5 : decode cX8_over 5 = .ok (.sipush 256, 3) := by decide +kernel
theorem dX8_over_8 : decode cX8_over 8 = .ok (.if_icmp .ge 42, 3) := by decide +kernel
theorem dX8_over_11 : decode cX8_over 11 = .ok (.iload_n 3, 1) := by decide +kernel
theorem dX8_over_12 : decode cX8_over 12 = .ok (.iload_n 1, 1) := by decide +kernel
theorem dX8_over_13 : decode cX8_over 13 = .ok (.iand, 1) := by decide +kernel
theorem dX8_over_14 : decode cX8_over 14 = .ok (.iload_n 1, 1) := by decide +kernel
theorem dX8_over_15 : decode cX8_over 15 = .ok (.if_icmp .ne 29, 3) := by decide +kernel
theorem dX8_over_18 : decode cX8_over 18 = .ok (.aload_n 0, 1) := by decide +kernel
theorem dX8_over_19 : decode cX8_over 19 = .ok (.iload_n 3, 1) := by decide +kernel
theorem dX8_over_20 : decode cX8_over 20 = .ok (.invokevirtual 152, 3) := by decide +kernel
theorem dX8_over_23 : decode cX8_over 23 = .ok (.ifCond .eq 21, 3) := by decide +kernel
theorem dX8_over_26 : decode cX8_over 26 = .ok (.iload_n 2, 1) := by decide +kernel
theorem dX8_over_27 : decode cX8_over 27 = .ok (.iconst (-1), 1) := by decide +kernel
theorem dX8_over_28 : decode cX8_over 28 = .ok (.if_icmp .eq 14, 3) := by decide +kernel
theorem dX8_over_31 : decode cX8_over 31 = .ok (.iload_n 3, 1) := by decide +kernel
theorem dX8_over_32 : decode cX8_over 32 = .ok (.invokestatic 121, 3) := by decide +kernel
theorem dX8_over_35 : decode cX8_over 35 = .ok (.iload_n 2, 1) := by decide +kernel
theorem dX8_over_36 : decode cX8_over 36 = .ok (.invokestatic 121, 3) := by decide +kernel
theorem dX8_over_39 : decode cX8_over 39 = .ok (.if_icmp .ge 5, 3) := by decide +kernel
theorem dX8_over_42 : decode cX8_over 42 = .ok (.iload_n 3, 1) := by decide +kernel
theorem dX8_over_43 : decode cX8_over 43 = .ok (.istore_n 2, 1) := by decide +kernel
theorem dX8_over_44 : decode cX8_over 44 = .ok (.iinc 3 1, 3) := by decide +kernel
theorem dX8_over_47 : decode cX8_over 47 = .ok (.goto (-43), 3) := by decide +kernel
theorem dX8_over_50 : decode cX8_over 50 = .ok (.iload_n 2, 1) := by decide +kernel
theorem dX8_over_51 : decode cX8_over 51 = .ok (.ireturn, 1) := by decide +kernel
theorem dX8_wanders_0 : decode cX8_wanders 0 = .ok (.aload_n 0, 1) := by decide +kernel
theorem dX8_wanders_1 : decode cX8_wanders 1 = .ok (.iload_n 1, 1) := by decide +kernel
theorem dX8_wanders_2 : decode cX8_wanders 2 = .ok (.invokevirtual 156, 3) := by decide +kernel
theorem dX8_wanders_5 : decode cX8_wanders 5 = .ok (.istore_n 2, 1) := by decide +kernel
theorem dX8_wanders_6 : decode cX8_wanders 6 = .ok (.iload_n 2, 1) := by decide +kernel
theorem dX8_wanders_7 : decode cX8_wanders 7 = .ok (.iconst (-1), 1) := by decide +kernel
theorem dX8_wanders_8 : decode cX8_wanders 8 = .ok (.if_icmp .ne 7, 3) := by decide +kernel
theorem dX8_wanders_11 : decode cX8_wanders 11 = .ok (.iconst (-1), 1) := by decide +kernel
theorem dX8_wanders_12 : decode cX8_wanders 12 = .ok (.goto 17, 3) := by decide +kernel
theorem dX8_wanders_15 : decode cX8_wanders 15 = .ok (.iload_n 2, 1) := by decide +kernel
theorem dX8_wanders_16 : decode cX8_wanders 16 = .ok (.ifCond .ne 7, 3) := by decide +kernel
theorem dX8_wanders_19 : decode cX8_wanders 19 = .ok (.iconst 0, 1) := by decide +kernel
theorem dX8_wanders_20 : decode cX8_wanders 20 = .ok (.goto 9, 3) := by decide +kernel
theorem dX8_wanders_23 : decode cX8_wanders 23 = .ok (.iload_n 2, 1) := by decide +kernel
theorem dX8_wanders_24 : decode cX8_wanders 24 = .ok (.invokestatic 121, 3) := by decide +kernel
theorem dX8_wanders_27 : decode cX8_wanders 27 = .ok (.iconst 1, 1) := by decide +kernel
theorem dX8_wanders_28 : decode cX8_wanders 28 = .ok (.isub, 1) := by decide +kernel
theorem dX8_wanders_29 : decode cX8_wanders 29 = .ok (.ireturn, 1) := by decide +kernel
theorem dX8_feed_0 : decode cX8_feed 0 = .ok (.iload_n 1, 1) := by decide +kernel
theorem dX8_feed_1 : decode cX8_feed 1 = .ok (.bipush 97, 2) := by decide +kernel
theorem dX8_feed_3 : decode cX8_feed 3 = .ok (.bipush 104, 2) := by decide +kernel
theorem dX8_feed_5 : decode cX8_feed 5 = .ok (.invokestatic 62, 3) := by decide +kernel
theorem dX8_feed_8 : decode cX8_feed 8 = .ok (.ifCond .ne 6, 3) := by decide +kernel
theorem dX8_feed_11 : decode cX8_feed 11 = .ok (.ldc 159, 2) := by decide +kernel
theorem dX8_feed_13 : decode cX8_feed 13 = .ok (.ireturn, 1) := by decide +kernel
theorem dX8_feed_14 : decode cX8_feed 14 = .ok (.aload_n 0, 1) := by decide +kernel
theorem dX8_feed_15 : decode cX8_feed 15 = .ok (.getfield 149, 3) := by decide +kernel
theorem dX8_feed_18 : decode cX8_feed 18 = .ok (.bipush 10, 2) := by decide +kernel
theorem dX8_feed_20 : decode cX8_feed 20 = .ok (.if_icmp .ne 6, 3) := by decide +kernel
theorem dX8_feed_23 : decode cX8_feed 23 = .ok (.ldc 160, 2) := by decide +kernel
theorem dX8_feed_25 : decode cX8_feed 25 = .ok (.ireturn, 1) := by decide +kernel
theorem dX8_feed_26 : decode cX8_feed 26 = .ok (.aload_n 0, 1) := by decide +kernel
theorem dX8_feed_27 : decode cX8_feed 27 = .ok (.getfield 23, 3) := by decide +kernel
theorem dX8_feed_30 : decode cX8_feed 30 = .ok (.aload_n 0, 1) := by decide +kernel
theorem dX8_feed_31 : decode cX8_feed 31 = .ok (.getfield 149, 3) := by decide +kernel
theorem dX8_feed_34 : decode cX8_feed 34 = .ok (.iload_n 1, 1) := by decide +kernel
theorem dX8_feed_35 : decode cX8_feed 35 = .ok (.bipush 97, 2) := by decide +kernel
theorem dX8_feed_37 : decode cX8_feed 37 = .ok (.isub, 1) := by decide +kernel
theorem dX8_feed_38 : decode cX8_feed 38 = .ok (.iastore, 1) := by decide +kernel
theorem dX8_feed_39 : decode cX8_feed 39 = .ok (.aload_n 0, 1) := by decide +kernel
theorem dX8_feed_40 : decode cX8_feed 40 = .ok (.dup, 1) := by decide +kernel
theorem dX8_feed_41 : decode cX8_feed 41 = .ok (.getfield 149, 3) := by decide +kernel
theorem dX8_feed_44 : decode cX8_feed 44 = .ok (.iconst 1, 1) := by decide +kernel
theorem dX8_feed_45 : decode cX8_feed 45 = .ok (.iadd, 1) := by decide +kernel
theorem dX8_feed_46 : decode cX8_feed 46 = .ok (.putfield 149, 3) := by decide +kernel
theorem dX8_feed_49 : decode cX8_feed 49 = .ok (.aload_n 0, 1) := by decide +kernel
theorem dX8_feed_50 : decode cX8_feed 50 = .ok (.getfield 149, 3) := by decide +kernel
theorem dX8_feed_53 : decode cX8_feed 53 = .ok (.ireturn, 1) := by decide +kernel
theorem dX8_notes_0 : decode cX8_notes 0 = .ok (.aload_n 0, 1) := by decide +kernel
theorem dX8_notes_1 : decode cX8_notes 1 = .ok (.getfield 161, 3) := by decide +kernel
theorem dX8_notes_4 : decode cX8_notes 4 = .ok (.bipush 16, 2) := by decide +kernel
theorem dX8_notes_6 : decode cX8_notes 6 = .ok (.if_icmp .ne 30, 3) := by decide +kernel
theorem dX8_notes_9 : decode cX8_notes 9 = .ok (.aload_n 0, 1) := by decide +kernel
theorem dX8_notes_10 : decode cX8_notes 10 = .ok (.getfield 13, 3) := by decide +kernel
theorem dX8_notes_13 : decode cX8_notes 13 = .ok (.bipush 110, 2) := by decide +kernel
theorem dX8_notes_15 : decode cX8_notes 15 = .ok (.aload_n 0, 1) := by decide +kernel
theorem dX8_notes_16 : decode cX8_notes 16 = .ok (.getfield 13, 3) := by decide +kernel
theorem dX8_notes_19 : decode cX8_notes 19 = .ok (.iconst 0, 1) := by decide +kernel
theorem dX8_notes_20 : decode cX8_notes 20 = .ok (.sipush 1650, 3) := by decide +kernel
theorem dX8_notes_23 : decode cX8_notes 23 = .ok (.invokestatic 73, 3) := by decide +kernel
theorem dX8_notes_26 : decode cX8_notes 26 = .ok (.aload_n 0, 1) := by decide +kernel
theorem dX8_notes_27 : decode cX8_notes 27 = .ok (.dup, 1) := by decide +kernel
theorem dX8_notes_28 : decode cX8_notes 28 = .ok (.getfield 161, 3) := by decide +kernel
theorem dX8_notes_31 : decode cX8_notes 31 = .ok (.iconst 1, 1) := by decide +kernel
theorem dX8_notes_32 : decode cX8_notes 32 = .ok (.isub, 1) := by decide +kernel
theorem dX8_notes_33 : decode cX8_notes 33 = .ok (.putfield 161, 3) := by decide +kernel
theorem dX8_notes_36 : decode cX8_notes 36 = .ok (.aload_n 0, 1) := by decide +kernel
theorem dX8_notes_37 : decode cX8_notes 37 = .ok (.getfield 7, 3) := by decide +kernel
theorem dX8_notes_40 : decode cX8_notes 40 = .ok (.iconst 0, 1) := by decide +kernel
theorem dX8_notes_41 : decode cX8_notes 41 = .ok (.aload_n 0, 1) := by decide +kernel
theorem dX8_notes_42 : decode cX8_notes 42 = .ok (.getfield 13, 3) := by decide +kernel
theorem dX8_notes_45 : decode cX8_notes 45 = .ok (.bipush 110, 2) := by decide +kernel
theorem dX8_notes_47 : decode cX8_notes 47 = .ok (.aload_n 0, 1) := by decide +kernel
theorem dX8_notes_48 : decode cX8_notes 48 = .ok (.getfield 161, 3) := by decide +kernel
theorem dX8_notes_51 : decode cX8_notes 51 = .ok (.imul, 1) := by decide +kernel
theorem dX8_notes_52 : decode cX8_notes 52 = .ok (.bipush 110, 2) := by decide +kernel
theorem dX8_notes_54 : decode cX8_notes 54 = .ok (.invokestatic 73, 3) := by decide +kernel
theorem dX8_notes_57 : decode cX8_notes 57 = .ok (.aload_n 0, 1) := by decide +kernel
theorem dX8_notes_58 : decode cX8_notes 58 = .ok (.dup, 1) := by decide +kernel
theorem dX8_notes_59 : decode cX8_notes 59 = .ok (.getfield 161, 3) := by decide +kernel
theorem dX8_notes_62 : decode cX8_notes 62 = .ok (.iconst 1, 1) := by decide +kernel
theorem dX8_notes_63 : decode cX8_notes 63 = .ok (.iadd, 1) := by decide +kernel
theorem dX8_notes_64 : decode cX8_notes 64 = .ok (.putfield 161, 3) := by decide +kernel
theorem dX8_notes_67 : decode cX8_notes 67 = .ok (.return_, 1) := by decide +kernel
theorem dX8_tale_0 : decode cX8_tale 0 = .ok (.aload_n 0, 1) := by decide +kernel
theorem dX8_tale_1 : decode cX8_tale 1 = .ok (.getfield 7, 3) := by decide +kernel
theorem dX8_tale_4 : decode cX8_tale 4 = .ok (.iconst 0, 1) := by decide +kernel
theorem dX8_tale_5 : decode cX8_tale 5 = .ok (.iaload, 1) := by decide +kernel
theorem dX8_tale_6 : decode cX8_tale 6 = .ok (.bipush 8, 2) := by decide +kernel
theorem dX8_tale_8 : decode cX8_tale 8 = .ok (.if_icmp .ne 6, 3) := by decide +kernel
theorem dX8_tale_11 : decode cX8_tale 11 = .ok (.ldc 160, 2) := by decide +kernel
theorem dX8_tale_13 : decode cX8_tale 13 = .ok (.ireturn, 1) := by decide +kernel
theorem dX8_tale_14 : decode cX8_tale 14 = .ok (.aload_n 0, 1) := by decide +kernel
theorem dX8_tale_15 : decode cX8_tale 15 = .ok (.getfield 149, 3) := by decide +kernel
theorem dX8_tale_18 : decode cX8_tale 18 = .ok (.ifCond .ne 6, 3) := by decide +kernel
theorem dX8_tale_21 : decode cX8_tale 21 = .ok (.ldc 164, 2) := by decide +kernel
theorem dX8_tale_23 : decode cX8_tale 23 = .ok (.ireturn, 1) := by decide +kernel
theorem dX8_tale_24 : decode cX8_tale 24 = .ok (.aload_n 0, 1) := by decide +kernel
theorem dX8_tale_25 : decode cX8_tale 25 = .ok (.invokevirtual 165, 3) := by decide +kernel
theorem dX8_tale_28 : decode cX8_tale 28 = .ok (.aload_n 0, 1) := by decide +kernel
theorem dX8_tale_29 : decode cX8_tale 29 = .ok (.getfield 7, 3) := by decide +kernel
theorem dX8_tale_32 : decode cX8_tale 32 = .ok (.iconst 0, 1) := by decide +kernel
theorem dX8_tale_33 : decode cX8_tale 33 = .ok (.iaload, 1) := by decide +kernel
theorem dX8_tale_34 : decode cX8_tale 34 = .ok (.istore_n 1, 1) := by decide +kernel
theorem dX8_tale_35 : decode cX8_tale 35 = .ok (.aload_n 0, 1) := by decide +kernel
theorem dX8_tale_36 : decode cX8_tale 36 = .ok (.getfield 7, 3) := by decide +kernel
theorem dX8_tale_39 : decode cX8_tale 39 = .ok (.bipush 6, 2) := by decide +kernel
theorem dX8_tale_41 : decode cX8_tale 41 = .ok (.iload_n 1, 1) := by decide +kernel
theorem dX8_tale_42 : decode cX8_tale 42 = .ok (.iadd, 1) := by decide +kernel
theorem dX8_tale_43 : decode cX8_tale 43 = .ok (.aload_n 0, 1) := by decide +kernel
theorem dX8_tale_44 : decode cX8_tale 44 = .ok (.getfield 149, 3) := by decide +kernel
theorem dX8_tale_47 : decode cX8_tale 47 = .ok (.iastore, 1) := by decide +kernel
theorem dX8_tale_48 : decode cX8_tale 48 = .ok (.aload_n 0, 1) := by decide +kernel
theorem dX8_tale_49 : decode cX8_tale 49 = .ok (.getfield 7, 3) := by decide +kernel
theorem dX8_tale_52 : decode cX8_tale 52 = .ok (.bipush 14, 2) := by decide +kernel
theorem dX8_tale_54 : decode cX8_tale 54 = .ok (.iload_n 1, 1) := by decide +kernel
theorem dX8_tale_55 : decode cX8_tale 55 = .ok (.iadd, 1) := by decide +kernel
theorem dX8_tale_56 : decode cX8_tale 56 = .ok (.iconst 0, 1) := by decide +kernel
theorem dX8_tale_57 : decode cX8_tale 57 = .ok (.iastore, 1) := by decide +kernel
theorem dX8_tale_58 : decode cX8_tale 58 = .ok (.aload_n 0, 1) := by decide +kernel
theorem dX8_tale_59 : decode cX8_tale 59 = .ok (.getfield 23, 3) := by decide +kernel
theorem dX8_tale_62 : decode cX8_tale 62 = .ok (.iconst 0, 1) := by decide +kernel
theorem dX8_tale_63 : decode cX8_tale 63 = .ok (.aload_n 0, 1) := by decide +kernel
theorem dX8_tale_64 : decode cX8_tale 64 = .ok (.getfield 7, 3) := by decide +kernel
theorem dX8_tale_67 : decode cX8_tale 67 = .ok (.bipush 30, 2) := by decide +kernel
theorem dX8_tale_69 : decode cX8_tale 69 = .ok (.bipush 10, 2) := by decide +kernel
theorem dX8_tale_71 : decode cX8_tale 71 = .ok (.iload_n 1, 1) := by decide +kernel
theorem dX8_tale_72 : decode cX8_tale 72 = .ok (.imul, 1) := by decide +kernel
theorem dX8_tale_73 : decode cX8_tale 73 = .ok (.iadd, 1) := by decide +kernel
theorem dX8_tale_74 : decode cX8_tale 74 = .ok (.aload_n 0, 1) := by decide +kernel
theorem dX8_tale_75 : decode cX8_tale 75 = .ok (.getfield 149, 3) := by decide +kernel
theorem dX8_tale_78 : decode cX8_tale 78 = .ok (.invokestatic 73, 3) := by decide +kernel
theorem dX8_tale_81 : decode cX8_tale 81 = .ok (.aload_n 0, 1) := by decide +kernel
theorem dX8_tale_82 : decode cX8_tale 82 = .ok (.getfield 7, 3) := by decide +kernel
theorem dX8_tale_85 : decode cX8_tale 85 = .ok (.iconst 0, 1) := by decide +kernel
theorem dX8_tale_86 : decode cX8_tale 86 = .ok (.dup2, 1) := by decide +kernel
theorem dX8_tale_87 : decode cX8_tale 87 = .ok (.iaload, 1) := by decide +kernel
theorem dX8_tale_88 : decode cX8_tale 88 = .ok (.iconst 1, 1) := by decide +kernel
theorem dX8_tale_89 : decode cX8_tale 89 = .ok (.iadd, 1) := by decide +kernel
theorem dX8_tale_90 : decode cX8_tale 90 = .ok (.iastore, 1) := by decide +kernel
theorem dX8_tale_91 : decode cX8_tale 91 = .ok (.aload_n 0, 1) := by decide +kernel
theorem dX8_tale_92 : decode cX8_tale 92 = .ok (.iconst 0, 1) := by decide +kernel
theorem dX8_tale_93 : decode cX8_tale 93 = .ok (.putfield 149, 3) := by decide +kernel
theorem dX8_tale_96 : decode cX8_tale 96 = .ok (.iload_n 1, 1) := by decide +kernel
theorem dX8_tale_97 : decode cX8_tale 97 = .ok (.ireturn, 1) := by decide +kernel
theorem dX8_wrong_0 : decode cX8_wrong 0 = .ok (.iconst 0, 1) := by decide +kernel
theorem dX8_wrong_1 : decode cX8_wrong 1 = .ok (.istore_n 1, 1) := by decide +kernel
theorem dX8_wrong_2 : decode cX8_wrong 2 = .ok (.iload_n 1, 1) := by decide +kernel
theorem dX8_wrong_3 : decode cX8_wrong 3 = .ok (.aload_n 0, 1) := by decide +kernel
theorem dX8_wrong_4 : decode cX8_wrong 4 = .ok (.getfield 168, 3) := by decide +kernel
theorem dX8_wrong_7 : decode cX8_wrong 7 = .ok (.if_icmp .ge 66, 3) := by decide +kernel
theorem dX8_wrong_10 : decode cX8_wrong 10 = .ok (.aload_n 0, 1) := by decide +kernel
theorem dX8_wrong_11 : decode cX8_wrong 11 = .ok (.getfield 26, 3) := by decide +kernel
theorem dX8_wrong_14 : decode cX8_wrong 14 = .ok (.iconst 3, 1) := by decide +kernel
theorem dX8_wrong_15 : decode cX8_wrong 15 = .ok (.iload_n 1, 1) := by decide +kernel
theorem dX8_wrong_16 : decode cX8_wrong 16 = .ok (.imul, 1) := by decide +kernel
theorem dX8_wrong_17 : decode cX8_wrong 17 = .ok (.iaload, 1) := by decide +kernel
theorem dX8_wrong_18 : decode cX8_wrong 18 = .ok (.istore_n 2, 1) := by decide +kernel
theorem dX8_wrong_19 : decode cX8_wrong 19 = .ok (.aload_n 0, 1) := by decide +kernel
theorem dX8_wrong_20 : decode cX8_wrong 20 = .ok (.getfield 26, 3) := by decide +kernel
theorem dX8_wrong_23 : decode cX8_wrong 23 = .ok (.iconst 3, 1) := by decide +kernel
theorem dX8_wrong_24 : decode cX8_wrong 24 = .ok (.iload_n 1, 1) := by decide +kernel
theorem dX8_wrong_25 : decode cX8_wrong 25 = .ok (.imul, 1) := by decide +kernel
theorem dX8_wrong_26 : decode cX8_wrong 26 = .ok (.iconst 1, 1) := by decide +kernel
theorem dX8_wrong_27 : decode cX8_wrong 27 = .ok (.iadd, 1) := by decide +kernel
theorem dX8_wrong_28 : decode cX8_wrong 28 = .ok (.iaload, 1) := by decide +kernel
theorem dX8_wrong_29 : decode cX8_wrong 29 = .ok (.istore_n 3, 1) := by decide +kernel
theorem dX8_wrong_30 : decode cX8_wrong 30 = .ok (.aload_n 0, 1) := by decide +kernel
theorem dX8_wrong_31 : decode cX8_wrong 31 = .ok (.iload_n 2, 1) := by decide +kernel
theorem dX8_wrong_32 : decode cX8_wrong 32 = .ok (.invokevirtual 171, 3) := by decide +kernel
theorem dX8_wrong_35 : decode cX8_wrong 35 = .ok (.ifCond .eq 30, 3) := by decide +kernel
theorem dX8_wrong_38 : decode cX8_wrong 38 = .ok (.aload_n 0, 1) := by decide +kernel
theorem dX8_wrong_39 : decode cX8_wrong 39 = .ok (.iload_n 3, 1) := by decide +kernel
theorem dX8_wrong_40 : decode cX8_wrong 40 = .ok (.invokevirtual 171, 3) := by decide +kernel
theorem dX8_wrong_43 : decode cX8_wrong 43 = .ok (.ifCond .eq 22, 3) := by decide +kernel
theorem dX8_wrong_46 : decode cX8_wrong 46 = .ok (.aload_n 0, 1) := by decide +kernel
theorem dX8_wrong_47 : decode cX8_wrong 47 = .ok (.iload_n 2, 1) := by decide +kernel
theorem dX8_wrong_48 : decode cX8_wrong 48 = .ok (.iload_n 3, 1) := by decide +kernel
theorem dX8_wrong_49 : decode cX8_wrong 49 = .ok (.invokevirtual 111, 3) := by decide +kernel
theorem dX8_wrong_52 : decode cX8_wrong 52 = .ok (.aload_n 0, 1) := by decide +kernel
theorem dX8_wrong_53 : decode cX8_wrong 53 = .ok (.getfield 26, 3) := by decide +kernel
theorem dX8_wrong_56 : decode cX8_wrong 56 = .ok (.iconst 3, 1) := by decide +kernel
theorem dX8_wrong_57 : decode cX8_wrong 57 = .ok (.iload_n 1, 1) := by decide +kernel
theorem dX8_wrong_58 : decode cX8_wrong 58 = .ok (.imul, 1) := by decide +kernel
theorem dX8_wrong_59 : decode cX8_wrong 59 = .ok (.iconst 2, 1) := by decide +kernel
theorem dX8_wrong_60 : decode cX8_wrong 60 = .ok (.iadd, 1) := by decide +kernel
theorem dX8_wrong_61 : decode cX8_wrong 61 = .ok (.iaload, 1) := by decide +kernel
theorem dX8_wrong_62 : decode cX8_wrong 62 = .ok (.if_icmp .eq 5, 3) := by decide +kernel
theorem dX8_wrong_65 : decode cX8_wrong 65 = .ok (.iload_n 1, 1) := by decide +kernel
theorem dX8_wrong_66 : decode cX8_wrong 66 = .ok (.ireturn, 1) := by decide +kernel
theorem dX8_wrong_67 : decode cX8_wrong 67 = .ok (.iinc 1 1, 3) := by decide +kernel
theorem dX8_wrong_70 : decode cX8_wrong 70 = .ok (.goto (-68), 3) := by decide +kernel
theorem dX8_wrong_73 : decode cX8_wrong 73 = .ok (.iconst (-1), 1) := by decide +kernel
theorem dX8_wrong_74 : decode cX8_wrong 74 = .ok (.ireturn, 1) := by decide +kernel
theorem dX8_told_0 : decode cX8_told 0 = .ok (.iload_n 1, 1) := by decide +kernel
theorem dX8_told_1 : decode cX8_told 1 = .ok (.tableswitch 103 0 8 #[51, 58, 63, 70, 75, 80, 88, 93, 98], 51) := by decide +kernel
theorem dX8_told_52 : decode cX8_told 52 = .ok (.aload_n 0, 1) := by decide +kernel
theorem dX8_told_53 : decode cX8_told 53 = .ok (.getfield 7, 3) := by decide +kernel
theorem dX8_told_56 : decode cX8_told 56 = .ok (.iconst 0, 1) := by decide +kernel
theorem dX8_told_57 : decode cX8_told 57 = .ok (.iaload, 1) := by decide +kernel
theorem dX8_told_58 : decode cX8_told 58 = .ok (.ireturn, 1) := by decide +kernel
theorem dX8_told_59 : decode cX8_told 59 = .ok (.aload_n 0, 1) := by decide +kernel
theorem dX8_told_60 : decode cX8_told 60 = .ok (.getfield 149, 3) := by decide +kernel
theorem dX8_told_63 : decode cX8_told 63 = .ok (.ireturn, 1) := by decide +kernel
theorem dX8_told_64 : decode cX8_told 64 = .ok (.aload_n 0, 1) := by decide +kernel
theorem dX8_told_65 : decode cX8_told 65 = .ok (.getfield 7, 3) := by decide +kernel
theorem dX8_told_68 : decode cX8_told 68 = .ok (.iconst 1, 1) := by decide +kernel
theorem dX8_told_69 : decode cX8_told 69 = .ok (.iaload, 1) := by decide +kernel
theorem dX8_told_70 : decode cX8_told 70 = .ok (.ireturn, 1) := by decide +kernel
theorem dX8_told_71 : decode cX8_told 71 = .ok (.aload_n 0, 1) := by decide +kernel
theorem dX8_told_72 : decode cX8_told 72 = .ok (.invokevirtual 142, 3) := by decide +kernel
theorem dX8_told_75 : decode cX8_told 75 = .ok (.ireturn, 1) := by decide +kernel
theorem dX8_told_76 : decode cX8_told 76 = .ok (.aload_n 0, 1) := by decide +kernel
theorem dX8_told_77 : decode cX8_told 77 = .ok (.invokevirtual 174, 3) := by decide +kernel
theorem dX8_told_80 : decode cX8_told 80 = .ok (.ireturn, 1) := by decide +kernel
theorem dX8_told_81 : decode cX8_told 81 = .ok (.aload_n 0, 1) := by decide +kernel
theorem dX8_told_82 : decode cX8_told 82 = .ok (.sipush 255, 3) := by decide +kernel
theorem dX8_told_85 : decode cX8_told 85 = .ok (.invokevirtual 177, 3) := by decide +kernel
theorem dX8_told_88 : decode cX8_told 88 = .ok (.ireturn, 1) := by decide +kernel
theorem dX8_told_89 : decode cX8_told 89 = .ok (.aload_n 0, 1) := by decide +kernel
theorem dX8_told_90 : decode cX8_told 90 = .ok (.getfield 168, 3) := by decide +kernel
theorem dX8_told_93 : decode cX8_told 93 = .ok (.ireturn, 1) := by decide +kernel
theorem dX8_told_94 : decode cX8_told 94 = .ok (.aload_n 0, 1) := by decide +kernel
theorem dX8_told_95 : decode cX8_told 95 = .ok (.invokevirtual 180, 3) := by decide +kernel
theorem dX8_told_98 : decode cX8_told 98 = .ok (.ireturn, 1) := by decide +kernel
theorem dX8_told_99 : decode cX8_told 99 = .ok (.aload_n 0, 1) := by decide +kernel
theorem dX8_told_100 : decode cX8_told 100 = .ok (.getfield 161, 3) := by decide +kernel
theorem dX8_told_103 : decode cX8_told 103 = .ok (.ireturn, 1) := by decide +kernel
theorem dX8_told_104 : decode cX8_told 104 = .ok (.ldc 159, 2) := by decide +kernel
theorem dX8_told_106 : decode cX8_told 106 = .ok (.ireturn, 1) := by decide +kernel
theorem dX8_taleAt_0 : decode cX8_taleAt 0 = .ok (.aload_n 0, 1) := by decide +kernel
theorem dX8_taleAt_1 : decode cX8_taleAt 1 = .ok (.iload_n 1, 1) := by decide +kernel
theorem dX8_taleAt_2 : decode cX8_taleAt 2 = .ok (.invokevirtual 171, 3) := by decide +kernel
theorem dX8_taleAt_5 : decode cX8_taleAt 5 = .ok (.ifCond .ne 6, 3) := by decide +kernel
theorem dX8_taleAt_8 : decode cX8_taleAt 8 = .ok (.ldc 183, 2) := by decide +kernel
theorem dX8_taleAt_10 : decode cX8_taleAt 10 = .ok (.ireturn, 1) := by decide +kernel
theorem dX8_taleAt_11 : decode cX8_taleAt 11 = .ok (.iload_n 2, 1) := by decide +kernel
theorem dX8_taleAt_12 : decode cX8_taleAt 12 = .ok (.tableswitch 80 0 3 #[32, 42, 52, 66], 32) := by decide +kernel
theorem dX8_taleAt_44 : decode cX8_taleAt 44 = .ok (.aload_n 0, 1) := by decide +kernel
theorem dX8_taleAt_45 : decode cX8_taleAt 45 = .ok (.getfield 7, 3) := by decide +kernel
theorem dX8_taleAt_48 : decode cX8_taleAt 48 = .ok (.bipush 6, 2) := by decide +kernel
theorem dX8_taleAt_50 : decode cX8_taleAt 50 = .ok (.iload_n 1, 1) := by decide +kernel
theorem dX8_taleAt_51 : decode cX8_taleAt 51 = .ok (.iadd, 1) := by decide +kernel
theorem dX8_taleAt_52 : decode cX8_taleAt 52 = .ok (.iaload, 1) := by decide +kernel
theorem dX8_taleAt_53 : decode cX8_taleAt 53 = .ok (.ireturn, 1) := by decide +kernel
theorem dX8_taleAt_54 : decode cX8_taleAt 54 = .ok (.aload_n 0, 1) := by decide +kernel
theorem dX8_taleAt_55 : decode cX8_taleAt 55 = .ok (.getfield 7, 3) := by decide +kernel
theorem dX8_taleAt_58 : decode cX8_taleAt 58 = .ok (.bipush 14, 2) := by decide +kernel
theorem dX8_taleAt_60 : decode cX8_taleAt 60 = .ok (.iload_n 1, 1) := by decide +kernel
theorem dX8_taleAt_61 : decode cX8_taleAt 61 = .ok (.iadd, 1) := by decide +kernel
theorem dX8_taleAt_62 : decode cX8_taleAt 62 = .ok (.iaload, 1) := by decide +kernel
theorem dX8_taleAt_63 : decode cX8_taleAt 63 = .ok (.ireturn, 1) := by decide +kernel
theorem dX8_taleAt_64 : decode cX8_taleAt 64 = .ok (.aload_n 0, 1) := by decide +kernel
theorem dX8_taleAt_65 : decode cX8_taleAt 65 = .ok (.aload_n 0, 1) := by decide +kernel
theorem dX8_taleAt_66 : decode cX8_taleAt 66 = .ok (.getfield 7, 3) := by decide +kernel
theorem dX8_taleAt_69 : decode cX8_taleAt 69 = .ok (.bipush 14, 2) := by decide +kernel
theorem dX8_taleAt_71 : decode cX8_taleAt 71 = .ok (.iload_n 1, 1) := by decide +kernel
theorem dX8_taleAt_72 : decode cX8_taleAt 72 = .ok (.iadd, 1) := by decide +kernel
theorem dX8_taleAt_73 : decode cX8_taleAt 73 = .ok (.iaload, 1) := by decide +kernel
theorem dX8_taleAt_74 : decode cX8_taleAt 74 = .ok (.invokevirtual 184, 3) := by decide +kernel
theorem dX8_taleAt_77 : decode cX8_taleAt 77 = .ok (.ireturn, 1) := by decide +kernel
theorem dX8_taleAt_78 : decode cX8_taleAt 78 = .ok (.aload_n 0, 1) := by decide +kernel
theorem dX8_taleAt_79 : decode cX8_taleAt 79 = .ok (.aload_n 0, 1) := by decide +kernel
theorem dX8_taleAt_80 : decode cX8_taleAt 80 = .ok (.getfield 7, 3) := by decide +kernel
theorem dX8_taleAt_83 : decode cX8_taleAt 83 = .ok (.bipush 14, 2) := by decide +kernel
theorem dX8_taleAt_85 : decode cX8_taleAt 85 = .ok (.iload_n 1, 1) := by decide +kernel
theorem dX8_taleAt_86 : decode cX8_taleAt 86 = .ok (.iadd, 1) := by decide +kernel
theorem dX8_taleAt_87 : decode cX8_taleAt 87 = .ok (.iaload, 1) := by decide +kernel
theorem dX8_taleAt_88 : decode cX8_taleAt 88 = .ok (.invokevirtual 156, 3) := by decide +kernel
theorem dX8_taleAt_91 : decode cX8_taleAt 91 = .ok (.ireturn, 1) := by decide +kernel
theorem dX8_taleAt_92 : decode cX8_taleAt 92 = .ok (.ldc 159, 2) := by decide +kernel
theorem dX8_taleAt_94 : decode cX8_taleAt 94 = .ok (.ireturn, 1) := by decide +kernel
theorem dX8_motif_0 : decode cX8_motif 0 = .ok (.aload_n 0, 1) := by decide +kernel
theorem dX8_motif_1 : decode cX8_motif 1 = .ok (.iload_n 1, 1) := by decide +kernel
theorem dX8_motif_2 : decode cX8_motif 2 = .ok (.invokevirtual 171, 3) := by decide +kernel
theorem dX8_motif_5 : decode cX8_motif 5 = .ok (.ifCond .ne 6, 3) := by decide +kernel
theorem dX8_motif_8 : decode cX8_motif 8 = .ok (.ldc 183, 2) := by decide +kernel
theorem dX8_motif_10 : decode cX8_motif 10 = .ok (.ireturn, 1) := by decide +kernel
theorem dX8_motif_11 : decode cX8_motif 11 = .ok (.iload_n 2, 1) := by decide +kernel
theorem dX8_motif_12 : decode cX8_motif 12 = .ok (.iconst 0, 1) := by decide +kernel
theorem dX8_motif_13 : decode cX8_motif 13 = .ok (.aload_n 0, 1) := by decide +kernel
theorem dX8_motif_14 : decode cX8_motif 14 = .ok (.getfield 7, 3) := by decide +kernel
theorem dX8_motif_17 : decode cX8_motif 17 = .ok (.bipush 6, 2) := by decide +kernel
theorem dX8_motif_19 : decode cX8_motif 19 = .ok (.iload_n 1, 1) := by decide +kernel
theorem dX8_motif_20 : decode cX8_motif 20 = .ok (.iadd, 1) := by decide +kernel
theorem dX8_motif_21 : decode cX8_motif 21 = .ok (.iaload, 1) := by decide +kernel
theorem dX8_motif_22 : decode cX8_motif 22 = .ok (.iconst 1, 1) := by decide +kernel
theorem dX8_motif_23 : decode cX8_motif 23 = .ok (.isub, 1) := by decide +kernel
theorem dX8_motif_24 : decode cX8_motif 24 = .ok (.invokestatic 62, 3) := by decide +kernel
theorem dX8_motif_27 : decode cX8_motif 27 = .ok (.ifCond .eq 20, 3) := by decide +kernel
theorem dX8_motif_30 : decode cX8_motif 30 = .ok (.aload_n 0, 1) := by decide +kernel
theorem dX8_motif_31 : decode cX8_motif 31 = .ok (.getfield 7, 3) := by decide +kernel
theorem dX8_motif_34 : decode cX8_motif 34 = .ok (.bipush 30, 2) := by decide +kernel
theorem dX8_motif_36 : decode cX8_motif 36 = .ok (.bipush 10, 2) := by decide +kernel
theorem dX8_motif_38 : decode cX8_motif 38 = .ok (.iload_n 1, 1) := by decide +kernel
theorem dX8_motif_39 : decode cX8_motif 39 = .ok (.imul, 1) := by decide +kernel
theorem dX8_motif_40 : decode cX8_motif 40 = .ok (.iadd, 1) := by decide +kernel
theorem dX8_motif_41 : decode cX8_motif 41 = .ok (.iload_n 2, 1) := by decide +kernel
theorem dX8_motif_42 : decode cX8_motif 42 = .ok (.iadd, 1) := by decide +kernel
theorem dX8_motif_43 : decode cX8_motif 43 = .ok (.iaload, 1) := by decide +kernel
theorem dX8_motif_44 : decode cX8_motif 44 = .ok (.goto 4, 3) := by decide +kernel
theorem dX8_motif_47 : decode cX8_motif 47 = .ok (.iconst (-1), 1) := by decide +kernel
theorem dX8_motif_48 : decode cX8_motif 48 = .ok (.ireturn, 1) := by decide +kernel
theorem dX8_costAt_0 : decode cX8_costAt 0 = .ok (.iload_n 1, 1) := by decide +kernel
theorem dX8_costAt_1 : decode cX8_costAt 1 = .ok (.iconst 0, 1) := by decide +kernel
theorem dX8_costAt_2 : decode cX8_costAt 2 = .ok (.iconst 3, 1) := by decide +kernel
theorem dX8_costAt_3 : decode cX8_costAt 3 = .ok (.invokestatic 62, 3) := by decide +kernel
theorem dX8_costAt_6 : decode cX8_costAt 6 = .ok (.ifCond .eq 14, 3) := by decide +kernel
theorem dX8_costAt_9 : decode cX8_costAt 9 = .ok (.aload_n 0, 1) := by decide +kernel
theorem dX8_costAt_10 : decode cX8_costAt 10 = .ok (.getfield 7, 3) := by decide +kernel
theorem dX8_costAt_13 : decode cX8_costAt 13 = .ok (.iconst 2, 1) := by decide +kernel
theorem dX8_costAt_14 : decode cX8_costAt 14 = .ok (.iload_n 1, 1) := by decide +kernel
theorem dX8_costAt_15 : decode cX8_costAt 15 = .ok (.iadd, 1) := by decide +kernel
theorem dX8_costAt_16 : decode cX8_costAt 16 = .ok (.iaload, 1) := by decide +kernel
theorem dX8_costAt_17 : decode cX8_costAt 17 = .ok (.goto 5, 3) := by decide +kernel
theorem dX8_costAt_20 : decode cX8_costAt 20 = .ok (.ldc 159, 2) := by decide +kernel
theorem dX8_costAt_22 : decode cX8_costAt 22 = .ok (.ireturn, 1) := by decide +kernel
theorem dX8_pair_0 : decode cX8_pair 0 = .ok (.aload_n 0, 1) := by decide +kernel
theorem dX8_pair_1 : decode cX8_pair 1 = .ok (.iload_n 1, 1) := by decide +kernel
theorem dX8_pair_2 : decode cX8_pair 2 = .ok (.invokevirtual 171, 3) := by decide +kernel
theorem dX8_pair_5 : decode cX8_pair 5 = .ok (.ifCond .eq 11, 3) := by decide +kernel
theorem dX8_pair_8 : decode cX8_pair 8 = .ok (.aload_n 0, 1) := by decide +kernel
theorem dX8_pair_9 : decode cX8_pair 9 = .ok (.iload_n 2, 1) := by decide +kernel
theorem dX8_pair_10 : decode cX8_pair 10 = .ok (.invokevirtual 171, 3) := by decide +kernel
theorem dX8_pair_13 : decode cX8_pair 13 = .ok (.ifCond .ne 6, 3) := by decide +kernel
theorem dX8_pair_16 : decode cX8_pair 16 = .ok (.ldc 183, 2) := by decide +kernel
theorem dX8_pair_18 : decode cX8_pair 18 = .ok (.ireturn, 1) := by decide +kernel
theorem dX8_pair_19 : decode cX8_pair 19 = .ok (.iload_n 3, 1) := by decide +kernel
theorem dX8_pair_20 : decode cX8_pair 20 = .ok (.tableswitch 75 0 3 #[32, 39, 61, 68], 32) := by decide +kernel
theorem dX8_pair_52 : decode cX8_pair 52 = .ok (.aload_n 0, 1) := by decide +kernel
theorem dX8_pair_53 : decode cX8_pair 53 = .ok (.iload_n 1, 1) := by decide +kernel
theorem dX8_pair_54 : decode cX8_pair 54 = .ok (.iload_n 2, 1) := by decide +kernel
theorem dX8_pair_55 : decode cX8_pair 55 = .ok (.invokevirtual 111, 3) := by decide +kernel
theorem dX8_pair_58 : decode cX8_pair 58 = .ok (.ireturn, 1) := by decide +kernel
theorem dX8_pair_59 : decode cX8_pair 59 = .ok (.aload_n 0, 1) := by decide +kernel
theorem dX8_pair_60 : decode cX8_pair 60 = .ok (.iload_n 1, 1) := by decide +kernel
theorem dX8_pair_61 : decode cX8_pair 61 = .ok (.iload_n 2, 1) := by decide +kernel
theorem dX8_pair_62 : decode cX8_pair 62 = .ok (.invokevirtual 111, 3) := by decide +kernel
theorem dX8_pair_65 : decode cX8_pair 65 = .ok (.ldc 84, 2) := by decide +kernel
theorem dX8_pair_67 : decode cX8_pair 67 = .ok (.if_icmp .ge 12, 3) := by decide +kernel
theorem dX8_pair_70 : decode cX8_pair 70 = .ok (.aload_n 0, 1) := by decide +kernel
theorem dX8_pair_71 : decode cX8_pair 71 = .ok (.getfield 38, 3) := by decide +kernel
theorem dX8_pair_74 : decode cX8_pair 74 = .ok (.iconst 0, 1) := by decide +kernel
theorem dX8_pair_75 : decode cX8_pair 75 = .ok (.iaload, 1) := by decide +kernel
theorem dX8_pair_76 : decode cX8_pair 76 = .ok (.goto 4, 3) := by decide +kernel
theorem dX8_pair_79 : decode cX8_pair 79 = .ok (.iconst (-1), 1) := by decide +kernel
theorem dX8_pair_80 : decode cX8_pair 80 = .ok (.ireturn, 1) := by decide +kernel
theorem dX8_pair_81 : decode cX8_pair 81 = .ok (.aload_n 0, 1) := by decide +kernel
theorem dX8_pair_82 : decode cX8_pair 82 = .ok (.iload_n 1, 1) := by decide +kernel
theorem dX8_pair_83 : decode cX8_pair 83 = .ok (.iload_n 2, 1) := by decide +kernel
theorem dX8_pair_84 : decode cX8_pair 84 = .ok (.invokevirtual 187, 3) := by decide +kernel
theorem dX8_pair_87 : decode cX8_pair 87 = .ok (.ireturn, 1) := by decide +kernel
theorem dX8_pair_88 : decode cX8_pair 88 = .ok (.aload_n 0, 1) := by decide +kernel
theorem dX8_pair_89 : decode cX8_pair 89 = .ok (.iload_n 1, 1) := by decide +kernel
theorem dX8_pair_90 : decode cX8_pair 90 = .ok (.iload_n 2, 1) := by decide +kernel
theorem dX8_pair_91 : decode cX8_pair 91 = .ok (.invokevirtual 190, 3) := by decide +kernel
theorem dX8_pair_94 : decode cX8_pair 94 = .ok (.ireturn, 1) := by decide +kernel
theorem dX8_pair_95 : decode cX8_pair 95 = .ok (.ldc 159, 2) := by decide +kernel
theorem dX8_pair_97 : decode cX8_pair 97 = .ok (.ireturn, 1) := by decide +kernel
theorem dX8_step_0 : decode cX8_step 0 = .ok (.aload_n 0, 1) := by decide +kernel
theorem dX8_step_1 : decode cX8_step 1 = .ok (.iload_n 1, 1) := by decide +kernel
theorem dX8_step_2 : decode cX8_step 2 = .ok (.invokevirtual 171, 3) := by decide +kernel
theorem dX8_step_5 : decode cX8_step 5 = .ok (.ifCond .eq 11, 3) := by decide +kernel
theorem dX8_step_8 : decode cX8_step 8 = .ok (.aload_n 0, 1) := by decide +kernel
theorem dX8_step_9 : decode cX8_step 9 = .ok (.iload_n 2, 1) := by decide +kernel
theorem dX8_step_10 : decode cX8_step 10 = .ok (.invokevirtual 171, 3) := by decide +kernel
theorem dX8_step_13 : decode cX8_step 13 = .ok (.ifCond .ne 6, 3) := by decide +kernel
theorem dX8_step_16 : decode cX8_step 16 = .ok (.ldc 183, 2) := by decide +kernel
theorem dX8_step_18 : decode cX8_step 18 = .ok (.ireturn, 1) := by decide +kernel
theorem dX8_step_19 : decode cX8_step 19 = .ok (.aload_n 0, 1) := by decide +kernel
theorem dX8_step_20 : decode cX8_step 20 = .ok (.iload_n 1, 1) := by decide +kernel
theorem dX8_step_21 : decode cX8_step 21 = .ok (.iload_n 2, 1) := by decide +kernel
theorem dX8_step_22 : decode cX8_step 22 = .ok (.invokevirtual 187, 3) := by decide +kernel
theorem dX8_step_25 : decode cX8_step 25 = .ok (.istore 4, 2) := by decide +kernel
theorem dX8_step_27 : decode cX8_step 27 = .ok (.iload_n 3, 1) := by decide +kernel
theorem dX8_step_28 : decode cX8_step 28 = .ok (.iconst 0, 1) := by decide +kernel
theorem dX8_step_29 : decode cX8_step 29 = .ok (.iload 4, 2) := by decide +kernel
theorem dX8_step_31 : decode cX8_step 31 = .ok (.iconst 1, 1) := by decide +kernel
theorem dX8_step_32 : decode cX8_step 32 = .ok (.isub, 1) := by decide +kernel
theorem dX8_step_33 : decode cX8_step 33 = .ok (.invokestatic 62, 3) := by decide +kernel
theorem dX8_step_36 : decode cX8_step 36 = .ok (.ifCond .eq 12, 3) := by decide +kernel
theorem dX8_step_39 : decode cX8_step 39 = .ok (.aload_n 0, 1) := by decide +kernel
theorem dX8_step_40 : decode cX8_step 40 = .ok (.getfield 41, 3) := by decide +kernel
theorem dX8_step_43 : decode cX8_step 43 = .ok (.iload_n 3, 1) := by decide +kernel
theorem dX8_step_44 : decode cX8_step 44 = .ok (.iaload, 1) := by decide +kernel
theorem dX8_step_45 : decode cX8_step 45 = .ok (.goto 4, 3) := by decide +kernel
theorem dX8_step_48 : decode cX8_step 48 = .ok (.iconst (-1), 1) := by decide +kernel
theorem dX8_step_49 : decode cX8_step 49 = .ok (.ireturn, 1) := by decide +kernel
theorem dX8_node_0 : decode cX8_node 0 = .ok (.iload_n 1, 1) := by decide +kernel
theorem dX8_node_1 : decode cX8_node 1 = .ok (.iconst 0, 1) := by decide +kernel
theorem dX8_node_2 : decode cX8_node 2 = .ok (.aload_n 0, 1) := by decide +kernel
theorem dX8_node_3 : decode cX8_node 3 = .ok (.invokevirtual 142, 3) := by decide +kernel
theorem dX8_node_6 : decode cX8_node 6 = .ok (.iconst 1, 1) := by decide +kernel
theorem dX8_node_7 : decode cX8_node 7 = .ok (.isub, 1) := by decide +kernel
theorem dX8_node_8 : decode cX8_node 8 = .ok (.invokestatic 62, 3) := by decide +kernel
theorem dX8_node_11 : decode cX8_node 11 = .ok (.ifCond .ne 6, 3) := by decide +kernel
theorem dX8_node_14 : decode cX8_node 14 = .ok (.ldc 183, 2) := by decide +kernel
theorem dX8_node_16 : decode cX8_node 16 = .ok (.ireturn, 1) := by decide +kernel
theorem dX8_node_17 : decode cX8_node 17 = .ok (.iload_n 2, 1) := by decide +kernel
theorem dX8_node_18 : decode cX8_node 18 = .ok (.iconst 0, 1) := by decide +kernel
theorem dX8_node_19 : decode cX8_node 19 = .ok (.iconst 3, 1) := by decide +kernel
theorem dX8_node_20 : decode cX8_node 20 = .ok (.invokestatic 62, 3) := by decide +kernel
theorem dX8_node_23 : decode cX8_node 23 = .ok (.ifCond .ne 6, 3) := by decide +kernel
theorem dX8_node_26 : decode cX8_node 26 = .ok (.ldc 159, 2) := by decide +kernel
theorem dX8_node_28 : decode cX8_node 28 = .ok (.ireturn, 1) := by decide +kernel
theorem dX8_node_29 : decode cX8_node 29 = .ok (.aload_n 0, 1) := by decide +kernel
theorem dX8_node_30 : decode cX8_node 30 = .ok (.invokevirtual 193, 3) := by decide +kernel
theorem dX8_node_33 : decode cX8_node 33 = .ok (.iload_n 2, 1) := by decide +kernel
theorem dX8_node_34 : decode cX8_node 34 = .ok (.ifCond .ne 12, 3) := by decide +kernel
theorem dX8_node_37 : decode cX8_node 37 = .ok (.aload_n 0, 1) := by decide +kernel
theorem dX8_node_38 : decode cX8_node 38 = .ok (.getfield 59, 3) := by decide +kernel
theorem dX8_node_41 : decode cX8_node 41 = .ok (.iload_n 1, 1) := by decide +kernel
theorem dX8_node_42 : decode cX8_node 42 = .ok (.iaload, 1) := by decide +kernel
theorem dX8_node_43 : decode cX8_node 43 = .ok (.goto 41, 3) := by decide +kernel
theorem dX8_node_46 : decode cX8_node 46 = .ok (.iload_n 2, 1) := by decide +kernel
theorem dX8_node_47 : decode cX8_node 47 = .ok (.iconst 1, 1) := by decide +kernel
theorem dX8_node_48 : decode cX8_node 48 = .ok (.if_icmp .ne 12, 3) := by decide +kernel
theorem dX8_node_51 : decode cX8_node 51 = .ok (.aload_n 0, 1) := by decide +kernel
theorem dX8_node_52 : decode cX8_node 52 = .ok (.getfield 53, 3) := by decide +kernel
theorem dX8_node_55 : decode cX8_node 55 = .ok (.iload_n 1, 1) := by decide +kernel
theorem dX8_node_56 : decode cX8_node 56 = .ok (.iaload, 1) := by decide +kernel
theorem dX8_node_57 : decode cX8_node 57 = .ok (.goto 27, 3) := by decide +kernel
theorem dX8_node_60 : decode cX8_node 60 = .ok (.iload_n 2, 1) := by decide +kernel
theorem dX8_node_61 : decode cX8_node 61 = .ok (.iconst 2, 1) := by decide +kernel
theorem dX8_node_62 : decode cX8_node 62 = .ok (.if_icmp .ne 12, 3) := by decide +kernel
theorem dX8_node_65 : decode cX8_node 65 = .ok (.aload_n 0, 1) := by decide +kernel
theorem dX8_node_66 : decode cX8_node 66 = .ok (.getfield 56, 3) := by decide +kernel
theorem dX8_node_69 : decode cX8_node 69 = .ok (.iload_n 1, 1) := by decide +kernel
theorem dX8_node_70 : decode cX8_node 70 = .ok (.iaload, 1) := by decide +kernel
theorem dX8_node_71 : decode cX8_node 71 = .ok (.goto 13, 3) := by decide +kernel
theorem dX8_node_74 : decode cX8_node 74 = .ok (.aload_n 0, 1) := by decide +kernel
theorem dX8_node_75 : decode cX8_node 75 = .ok (.aload_n 0, 1) := by decide +kernel
theorem dX8_node_76 : decode cX8_node 76 = .ok (.getfield 53, 3) := by decide +kernel
theorem dX8_node_79 : decode cX8_node 79 = .ok (.iload_n 1, 1) := by decide +kernel
theorem dX8_node_80 : decode cX8_node 80 = .ok (.iaload, 1) := by decide +kernel
theorem dX8_node_81 : decode cX8_node 81 = .ok (.invokevirtual 196, 3) := by decide +kernel
theorem dX8_node_84 : decode cX8_node 84 = .ok (.ireturn, 1) := by decide +kernel
theorem dX8_types_0 : decode cX8_types 0 = .ok (.iload_n 2, 1) := by decide +kernel
theorem dX8_types_1 : decode cX8_types 1 = .ok (.ifCond .le 16, 3) := by decide +kernel
theorem dX8_types_4 : decode cX8_types 4 = .ok (.aload_n 0, 1) := by decide +kernel
theorem dX8_types_5 : decode cX8_types 5 = .ok (.iload_n 2, 1) := by decide +kernel
theorem dX8_types_6 : decode cX8_types 6 = .ok (.iconst 1, 1) := by decide +kernel
theorem dX8_types_7 : decode cX8_types 7 = .ok (.isub, 1) := by decide +kernel
theorem dX8_types_8 : decode cX8_types 8 = .ok (.invokevirtual 171, 3) := by decide +kernel
theorem dX8_types_11 : decode cX8_types 11 = .ok (.ifCond .ne 6, 3) := by decide +kernel
theorem dX8_types_14 : decode cX8_types 14 = .ok (.ldc 183, 2) := by decide +kernel
theorem dX8_types_16 : decode cX8_types 16 = .ok (.ireturn, 1) := by decide +kernel
theorem dX8_types_17 : decode cX8_types 17 = .ok (.iload_n 1, 1) := by decide +kernel
theorem dX8_types_18 : decode cX8_types 18 = .ok (.iconst 0, 1) := by decide +kernel
theorem dX8_types_19 : decode cX8_types 19 = .ok (.sipush 999, 3) := by decide +kernel
theorem dX8_types_22 : decode cX8_types 22 = .ok (.invokestatic 62, 3) := by decide +kernel
theorem dX8_types_25 : decode cX8_types 25 = .ok (.ifCond .eq 7, 3) := by decide +kernel
theorem dX8_types_28 : decode cX8_types 28 = .ok (.iload_n 2, 1) := by decide +kernel
theorem dX8_types_29 : decode cX8_types 29 = .ok (.ifCond .ge 6, 3) := by decide +kernel
theorem dX8_types_32 : decode cX8_types 32 = .ok (.ldc 159, 2) := by decide +kernel
