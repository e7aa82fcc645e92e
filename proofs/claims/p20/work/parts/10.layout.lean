def xSH (k : Nat) : Nat × Nat := ([(0, 7), (0, 5), (2, 8), (1, 8), (1, 4), (1, 8), (0, 1), (4, 16), (0, 5), (2, 8), (1, 8), (1, 4), (1, 8), (0, 5), (2, 8), (1, 8), (1, 4), (1, 8), (0, 5), (2, 8), (1, 8), (1, 4), (1, 8), (0, 5), (2, 8), (1, 8), (1, 4), (1, 8), (0, 5), (2, 8), (1, 8), (1, 4), (1, 8), (0, 5), (2, 8), (1, 8), (1, 4), (1, 8), (0, 5), (2, 8), (1, 8), (1, 4), (1, 8), (0, 5), (2, 8), (1, 8), (1, 4), (1, 8), (0, 5), (2, 8), (1, 8), (1, 4), (1, 8), (0, 5), (2, 8), (1, 8), (1, 4), (1, 8), (0, 5), (2, 8), (1, 8), (1, 4), (1, 8), (0, 5), (2, 8), (1, 8), (1, 4), (1, 8), (0, 5), (2, 8), (1, 8), (1, 4), (1, 8), (0, 5), (2, 8), (1, 8), (1, 4), (1, 8), (0, 5), (2, 8), (1, 8), (1, 4), (1, 8), (0, 5), (2, 8), (1, 8), (1, 4), (1, 8), (0, 0), (1, 20), (1, 20), (1, 20), (0, 4), (1, 10), (1, 10), (1, 4), (1, 121), (1, 121), (1, 121), (1, 20), (0, 2), (1, 64), (0, 6), (1, 8), (1, 8), (1, 8), (1, 8), (5, 2), (0, 3), (0, 5), (2, 8), (1, 8), (1, 4), (1, 8), (0, 3), (0, 5), (2, 8), (1, 8), (1, 4), (1, 8), (0, 8), (1, 110), (1, 1760), (1, 222), (3, 2), (1, 10), (1, 60), (1, 10), (1, 10), (1, 121), (1, 121), (1, 20), (1, 121), (1, 64), (1, 8), (1, 7), (1, 7), (1, 7)] : List (Nat × Nat)).getD k (1, 0)
def xRF (k : Nat) (j : Int) : Int := if j < 0 then -1 else (([[1, 6, 88, 92, 100, 102, 107], [2, 3, 4, 5], [], [], [], [], [7], [8, 13, 18, 23, 28, 33, 38, 43, 48, 53, 58, 63, 68, 73, 78, 83], [9, 10, 11, 12], [], [], [], [], [14, 15, 16, 17], [], [], [], [], [19, 20, 21, 22], [], [], [], [], [24, 25, 26, 27], [], [], [], [], [29, 30, 31, 32], [], [], [], [], [34, 35, 36, 37], [], [], [], [], [39, 40, 41, 42], [], [], [], [], [44, 45, 46, 47], [], [], [], [], [49, 50, 51, 52], [], [], [], [], [54, 55, 56, 57], [], [], [], [], [59, 60, 61, 62], [], [], [], [], [64, 65, 66, 67], [], [], [], [], [69, 70, 71, 72], [], [], [], [], [74, 75, 76, 77], [], [], [], [], [79, 80, 81, 82], [], [], [], [], [84, 85, 86, 87], [], [], [], [], [89, 90, 91], [], [], [], [93, 94, 95, 96, 97, 98, 99], [], [], [], [], [], [], [], [101], [], [103, 104, 105, 106], [], [], [], [], [108, 114], [109], [110, 111, 112, 113], [], [], [], [], [115], [116, 117, 118, 119], [], [], [], [], [121, 122, -1, 123, 124, 125, -1, 126, -1, -1, 127, -1, 128, -1, 129, 130, 131, 132, 133, 134, -1, 135, 136, 137], [], [], [], [], [], [], [], [], [], [], [], [], [], [], [], [], []] : List (List Int)).getD k []).getD j.toNat (-1)
def WW : xW := (138, xSH, xRF)
theorem s_0 : WW.2.1 0 = (0, 7) := by decide +kernel
theorem s_1 : WW.2.1 1 = (0, 5) := by decide +kernel
theorem s_2 : WW.2.1 2 = (2, 8) := by decide +kernel
theorem s_3 : WW.2.1 3 = (1, 8) := by decide +kernel
theorem s_4 : WW.2.1 4 = (1, 4) := by decide +kernel
theorem s_5 : WW.2.1 5 = (1, 8) := by decide +kernel
theorem s_6 : WW.2.1 6 = (0, 1) := by decide +kernel
theorem s_7 : WW.2.1 7 = (4, 16) := by decide +kernel
theorem s_8 : WW.2.1 8 = (0, 5) := by decide +kernel
theorem s_9 : WW.2.1 9 = (2, 8) := by decide +kernel
theorem s_10 : WW.2.1 10 = (1, 8) := by decide +kernel
theorem s_11 : WW.2.1 11 = (1, 4) := by decide +kernel
theorem s_12 : WW.2.1 12 = (1, 8) := by decide +kernel
theorem s_13 : WW.2.1 13 = (0, 5) := by decide +kernel
theorem s_14 : WW.2.1 14 = (2, 8) := by decide +kernel
theorem s_15 : WW.2.1 15 = (1, 8) := by decide +kernel
theorem s_16 : WW.2.1 16 = (1, 4) := by decide +kernel
theorem s_17 : WW.2.1 17 = (1, 8) := by decide +kernel
theorem s_18 : WW.2.1 18 = (0, 5) := by decide +kernel
theorem s_19 : WW.2.1 19 = (2, 8) := by decide +kernel
theorem s_20 : WW.2.1 20 = (1, 8) := by decide +kernel
theorem s_21 : WW.2.1 21 = (1, 4) := by decide +kernel
theorem s_22 : WW.2.1 22 = (1, 8) := by decide +kernel
theorem s_23 : WW.2.1 23 = (0, 5) := by decide +kernel
theorem s_24 : WW.2.1 24 = (2, 8) := by decide +kernel
theorem s_25 : WW.2.1 25 = (1, 8) := by decide +kernel
theorem s_26 : WW.2.1 26 = (1, 4) := by decide +kernel
theorem s_27 : WW.2.1 27 = (1, 8) := by decide +kernel
theorem s_28 : WW.2.1 28 = (0, 5) := by decide +kernel
theorem s_29 : WW.2.1 29 = (2, 8) := by decide +kernel
theorem s_30 : WW.2.1 30 = (1, 8) := by decide +kernel
theorem s_31 : WW.2.1 31 = (1, 4) := by decide +kernel
theorem s_32 : WW.2.1 32 = (1, 8) := by decide +kernel
theorem s_33 : WW.2.1 33 = (0, 5) := by decide +kernel
theorem s_34 : WW.2.1 34 = (2, 8) := by decide +kernel
theorem s_35 : WW.2.1 35 = (1, 8) := by decide +kernel
theorem s_36 : WW.2.1 36 = (1, 4) := by decide +kernel
theorem s_37 : WW.2.1 37 = (1, 8) := by decide +kernel
theorem s_38 : WW.2.1 38 = (0, 5) := by decide +kernel
theorem s_39 : WW.2.1 39 = (2, 8) := by decide +kernel
theorem s_40 : WW.2.1 40 = (1, 8) := by decide +kernel
theorem s_41 : WW.2.1 41 = (1, 4) := by decide +kernel
theorem s_42 : WW.2.1 42 = (1, 8) := by decide +kernel
theorem s_43 : WW.2.1 43 = (0, 5) := by decide +kernel
theorem s_44 : WW.2.1 44 = (2, 8) := by decide +kernel
theorem s_45 : WW.2.1 45 = (1, 8) := by decide +kernel
theorem s_46 : WW.2.1 46 = (1, 4) := by decide +kernel
theorem s_47 : WW.2.1 47 = (1, 8) := by decide +kernel
theorem s_48 : WW.2.1 48 = (0, 5) := by decide +kernel
theorem s_49 : WW.2.1 49 = (2, 8) := by decide +kernel
theorem s_50 : WW.2.1 50 = (1, 8) := by decide +kernel
theorem s_51 : WW.2.1 51 = (1, 4) := by decide +kernel
theorem s_52 : WW.2.1 52 = (1, 8) := by decide +kernel
theorem s_53 : WW.2.1 53 = (0, 5) := by decide +kernel
theorem s_54 : WW.2.1 54 = (2, 8) := by decide +kernel
theorem s_55 : WW.2.1 55 = (1, 8) := by decide +kernel
theorem s_56 : WW.2.1 56 = (1, 4) := by decide +kernel
theorem s_57 : WW.2.1 57 = (1, 8) := by decide +kernel
theorem s_58 : WW.2.1 58 = (0, 5) := by decide +kernel
theorem s_59 : WW.2.1 59 = (2, 8) := by decide +kernel
theorem s_60 : WW.2.1 60 = (1, 8) := by decide +kernel
theorem s_61 : WW.2.1 61 = (1, 4) := by decide +kernel
theorem s_62 : WW.2.1 62 = (1, 8) := by decide +kernel
theorem s_63 : WW.2.1 63 = (0, 5) := by decide +kernel
theorem s_64 : WW.2.1 64 = (2, 8) := by decide +kernel
theorem s_65 : WW.2.1 65 = (1, 8) := by decide +kernel
theorem s_66 : WW.2.1 66 = (1, 4) := by decide +kernel
theorem s_67 : WW.2.1 67 = (1, 8) := by decide +kernel
theorem s_68 : WW.2.1 68 = (0, 5) := by decide +kernel
theorem s_69 : WW.2.1 69 = (2, 8) := by decide +kernel
theorem s_70 : WW.2.1 70 = (1, 8) := by decide +kernel
theorem s_71 : WW.2.1 71 = (1, 4) := by decide +kernel
theorem s_72 : WW.2.1 72 = (1, 8) := by decide +kernel
theorem s_73 : WW.2.1 73 = (0, 5) := by decide +kernel
theorem s_74 : WW.2.1 74 = (2, 8) := by decide +kernel
theorem s_75 : WW.2.1 75 = (1, 8) := by decide +kernel
theorem s_76 : WW.2.1 76 = (1, 4) := by decide +kernel
theorem s_77 : WW.2.1 77 = (1, 8) := by decide +kernel
theorem s_78 : WW.2.1 78 = (0, 5) := by decide +kernel
theorem s_79 : WW.2.1 79 = (2, 8) := by decide +kernel
theorem s_80 : WW.2.1 80 = (1, 8) := by decide +kernel
theorem s_81 : WW.2.1 81 = (1, 4) := by decide +kernel
theorem s_82 : WW.2.1 82 = (1, 8) := by decide +kernel
theorem s_83 : WW.2.1 83 = (0, 5) := by decide +kernel
theorem s_84 : WW.2.1 84 = (2, 8) := by decide +kernel
theorem s_85 : WW.2.1 85 = (1, 8) := by decide +kernel
theorem s_86 : WW.2.1 86 = (1, 4) := by decide +kernel
theorem s_87 : WW.2.1 87 = (1, 8) := by decide +kernel
theorem s_88 : WW.2.1 88 = (0, 0) := by decide +kernel
theorem s_89 : WW.2.1 89 = (1, 20) := by decide +kernel
theorem s_90 : WW.2.1 90 = (1, 20) := by decide +kernel
theorem s_91 : WW.2.1 91 = (1, 20) := by decide +kernel
theorem s_92 : WW.2.1 92 = (0, 4) := by decide +kernel
theorem s_93 : WW.2.1 93 = (1, 10) := by decide +kernel
theorem s_94 : WW.2.1 94 = (1, 10) := by decide +kernel
theorem s_95 : WW.2.1 95 = (1, 4) := by decide +kernel
theorem s_96 : WW.2.1 96 = (1, 121) := by decide +kernel
theorem s_97 : WW.2.1 97 = (1, 121) := by decide +kernel
theorem s_98 : WW.2.1 98 = (1, 121) := by decide +kernel
theorem s_99 : WW.2.1 99 = (1, 20) := by decide +kernel
theorem s_100 : WW.2.1 100 = (0, 2) := by decide +kernel
theorem s_101 : WW.2.1 101 = (1, 64) := by decide +kernel
theorem s_102 : WW.2.1 102 = (0, 6) := by decide +kernel
theorem s_103 : WW.2.1 103 = (1, 8) := by decide +kernel
theorem s_104 : WW.2.1 104 = (1, 8) := by decide +kernel
theorem s_105 : WW.2.1 105 = (1, 8) := by decide +kernel
theorem s_106 : WW.2.1 106 = (1, 8) := by decide +kernel
theorem s_107 : WW.2.1 107 = (5, 2) := by decide +kernel
theorem s_108 : WW.2.1 108 = (0, 3) := by decide +kernel
theorem s_109 : WW.2.1 109 = (0, 5) := by decide +kernel
theorem s_110 : WW.2.1 110 = (2, 8) := by decide +kernel
theorem s_111 : WW.2.1 111 = (1, 8) := by decide +kernel
theorem s_112 : WW.2.1 112 = (1, 4) := by decide +kernel
theorem s_113 : WW.2.1 113 = (1, 8) := by decide +kernel
theorem s_114 : WW.2.1 114 = (0, 3) := by decide +kernel
theorem s_115 : WW.2.1 115 = (0, 5) := by decide +kernel
theorem s_116 : WW.2.1 116 = (2, 8) := by decide +kernel
theorem s_117 : WW.2.1 117 = (1, 8) := by decide +kernel
theorem s_118 : WW.2.1 118 = (1, 4) := by decide +kernel
theorem s_119 : WW.2.1 119 = (1, 8) := by decide +kernel
theorem s_120 : WW.2.1 120 = (0, 8) := by decide +kernel
theorem s_121 : WW.2.1 121 = (1, 110) := by decide +kernel
theorem s_122 : WW.2.1 122 = (1, 1760) := by decide +kernel
theorem s_123 : WW.2.1 123 = (1, 222) := by decide +kernel
theorem s_124 : WW.2.1 124 = (3, 2) := by decide +kernel
theorem s_125 : WW.2.1 125 = (1, 10) := by decide +kernel
theorem s_126 : WW.2.1 126 = (1, 60) := by decide +kernel
theorem s_127 : WW.2.1 127 = (1, 10) := by decide +kernel
theorem s_128 : WW.2.1 128 = (1, 10) := by decide +kernel
theorem s_129 : WW.2.1 129 = (1, 121) := by decide +kernel
theorem s_130 : WW.2.1 130 = (1, 121) := by decide +kernel
theorem s_131 : WW.2.1 131 = (1, 20) := by decide +kernel
theorem s_132 : WW.2.1 132 = (1, 121) := by decide +kernel
theorem s_133 : WW.2.1 133 = (1, 64) := by decide +kernel
theorem s_134 : WW.2.1 134 = (1, 8) := by decide +kernel
theorem s_135 : WW.2.1 135 = (1, 7) := by decide +kernel
theorem s_136 : WW.2.1 136 = (1, 7) := by decide +kernel
theorem s_137 : WW.2.1 137 = (1, 7) := by decide +kernel
theorem f_0_0 : WW.2.2 0 0 = ((1 : Nat) : Int) := by decide +kernel
theorem f_0_1 : WW.2.2 0 1 = ((6 : Nat) : Int) := by decide +kernel
theorem f_0_2 : WW.2.2 0 2 = ((88 : Nat) : Int) := by decide +kernel
theorem f_0_3 : WW.2.2 0 3 = ((92 : Nat) : Int) := by decide +kernel
theorem f_0_4 : WW.2.2 0 4 = ((100 : Nat) : Int) := by decide +kernel
theorem f_0_5 : WW.2.2 0 5 = ((102 : Nat) : Int) := by decide +kernel
theorem f_0_6 : WW.2.2 0 6 = ((107 : Nat) : Int) := by decide +kernel
theorem f_1_0 : WW.2.2 1 0 = ((2 : Nat) : Int) := by decide +kernel
theorem f_1_1 : WW.2.2 1 1 = ((3 : Nat) : Int) := by decide +kernel
theorem f_1_2 : WW.2.2 1 2 = ((4 : Nat) : Int) := by decide +kernel
theorem f_1_3 : WW.2.2 1 3 = ((5 : Nat) : Int) := by decide +kernel
theorem f_6_0 : WW.2.2 6 0 = ((7 : Nat) : Int) := by decide +kernel
theorem f_7_0 : WW.2.2 7 0 = ((8 : Nat) : Int) := by decide +kernel
theorem f_7_1 : WW.2.2 7 1 = ((13 : Nat) : Int) := by decide +kernel
theorem f_7_2 : WW.2.2 7 2 = ((18 : Nat) : Int) := by decide +kernel
theorem f_7_3 : WW.2.2 7 3 = ((23 : Nat) : Int) := by decide +kernel
theorem f_7_4 : WW.2.2 7 4 = ((28 : Nat) : Int) := by decide +kernel
theorem f_7_5 : WW.2.2 7 5 = ((33 : Nat) : Int) := by decide +kernel
theorem f_7_6 : WW.2.2 7 6 = ((38 : Nat) : Int) := by decide +kernel
theorem f_7_7 : WW.2.2 7 7 = ((43 : Nat) : Int) := by decide +kernel
theorem f_7_8 : WW.2.2 7 8 = ((48 : Nat) : Int) := by decide +kernel
theorem f_7_9 : WW.2.2 7 9 = ((53 : Nat) : Int) := by decide +kernel
theorem f_7_10 : WW.2.2 7 10 = ((58 : Nat) : Int) := by decide +kernel
theorem f_7_11 : WW.2.2 7 11 = ((63 : Nat) : Int) := by decide +kernel
theorem f_7_12 : WW.2.2 7 12 = ((68 : Nat) : Int) := by decide +kernel
theorem f_7_13 : WW.2.2 7 13 = ((73 : Nat) : Int) := by decide +kernel
theorem f_7_14 : WW.2.2 7 14 = ((78 : Nat) : Int) := by decide +kernel
theorem f_7_15 : WW.2.2 7 15 = ((83 : Nat) : Int) := by decide +kernel
theorem f_8_0 : WW.2.2 8 0 = ((9 : Nat) : Int) := by decide +kernel
theorem f_8_1 : WW.2.2 8 1 = ((10 : Nat) : Int) := by decide +kernel
theorem f_8_2 : WW.2.2 8 2 = ((11 : Nat) : Int) := by decide +kernel
theorem f_8_3 : WW.2.2 8 3 = ((12 : Nat) : Int) := by decide +kernel
theorem f_13_0 : WW.2.2 13 0 = ((14 : Nat) : Int) := by decide +kernel
theorem f_13_1 : WW.2.2 13 1 = ((15 : Nat) : Int) := by decide +kernel
theorem f_13_2 : WW.2.2 13 2 = ((16 : Nat) : Int) := by decide +kernel
theorem f_13_3 : WW.2.2 13 3 = ((17 : Nat) : Int) := by decide +kernel
theorem f_18_0 : WW.2.2 18 0 = ((19 : Nat) : Int) := by decide +kernel
theorem f_18_1 : WW.2.2 18 1 = ((20 : Nat) : Int) := by decide +kernel
theorem f_18_2 : WW.2.2 18 2 = ((21 : Nat) : Int) := by decide +kernel
theorem f_18_3 : WW.2.2 18 3 = ((22 : Nat) : Int) := by decide +kernel
theorem f_23_0 : WW.2.2 23 0 = ((24 : Nat) : Int) := by decide +kernel
theorem f_23_1 : WW.2.2 23 1 = ((25 : Nat) : Int) := by decide +kernel
theorem f_23_2 : WW.2.2 23 2 = ((26 : Nat) : Int) := by decide +kernel
theorem f_23_3 : WW.2.2 23 3 = ((27 : Nat) : Int) := by decide +kernel
theorem f_28_0 : WW.2.2 28 0 = ((29 : Nat) : Int) := by decide +kernel
theorem f_28_1 : WW.2.2 28 1 = ((30 : Nat) : Int) := by decide +kernel
theorem f_28_2 : WW.2.2 28 2 = ((31 : Nat) : Int) := by decide +kernel
theorem f_28_3 : WW.2.2 28 3 = ((32 : Nat) : Int) := by decide +kernel
theorem f_33_0 : WW.2.2 33 0 = ((34 : Nat) : Int) := by decide +kernel
theorem f_33_1 : WW.2.2 33 1 = ((35 : Nat) : Int) := by decide +kernel
theorem f_33_2 : WW.2.2 33 2 = ((36 : Nat) : Int) := by decide +kernel
theorem f_33_3 : WW.2.2 33 3 = ((37 : Nat) : Int) := by decide +kernel
theorem f_38_0 : WW.2.2 38 0 = ((39 : Nat) : Int) := by decide +kernel
theorem f_38_1 : WW.2.2 38 1 = ((40 : Nat) : Int) := by decide +kernel
theorem f_38_2 : WW.2.2 38 2 = ((41 : Nat) : Int) := by decide +kernel
theorem f_38_3 : WW.2.2 38 3 = ((42 : Nat) : Int) := by decide +kernel
theorem f_43_0 : WW.2.2 43 0 = ((44 : Nat) : Int) := by decide +kernel
theorem f_43_1 : WW.2.2 43 1 = ((45 : Nat) : Int) := by decide +kernel
theorem f_43_2 : WW.2.2 43 2 = ((46 : Nat) : Int) := by decide +kernel
theorem f_43_3 : WW.2.2 43 3 = ((47 : Nat) : Int) := by decide +kernel
theorem f_48_0 : WW.2.2 48 0 = ((49 : Nat) : Int) := by decide +kernel
theorem f_48_1 : WW.2.2 48 1 = ((50 : Nat) : Int) := by decide +kernel
theorem f_48_2 : WW.2.2 48 2 = ((51 : Nat) : Int) := by decide +kernel
theorem f_48_3 : WW.2.2 48 3 = ((52 : Nat) : Int) := by decide +kernel
theorem f_53_0 : WW.2.2 53 0 = ((54 : Nat) : Int) := by decide +kernel
theorem f_53_1 : WW.2.2 53 1 = ((55 : Nat) : Int) := by decide +kernel
theorem f_53_2 : WW.2.2 53 2 = ((56 : Nat) : Int) := by decide +kernel
theorem f_53_3 : WW.2.2 53 3 = ((57 : Nat) : Int) := by decide +kernel
theorem f_58_0 : WW.2.2 58 0 = ((59 : Nat) : Int) := by decide +kernel
theorem f_58_1 : WW.2.2 58 1 = ((60 : Nat) : Int) := by decide +kernel
theorem f_58_2 : WW.2.2 58 2 = ((61 : Nat) : Int) := by decide +kernel
theorem f_58_3 : WW.2.2 58 3 = ((62 : Nat) : Int) := by decide +kernel
theorem f_63_0 : WW.2.2 63 0 = ((64 : Nat) : Int) := by decide +kernel
theorem f_63_1 : WW.2.2 63 1 = ((65 : Nat) : Int) := by decide +kernel
theorem f_63_2 : WW.2.2 63 2 = ((66 : Nat) : Int) := by decide +kernel
theorem f_63_3 : WW.2.2 63 3 = ((67 : Nat) : Int) := by decide +kernel
theorem f_68_0 : WW.2.2 68 0 = ((69 : Nat) : Int) := by decide +kernel
theorem f_68_1 : WW.2.2 68 1 = ((70 : Nat) : Int) := by decide +kernel
theorem f_68_2 : WW.2.2 68 2 = ((71 : Nat) : Int) := by decide +kernel
theorem f_68_3 : WW.2.2 68 3 = ((72 : Nat) : Int) := by decide +kernel
theorem f_73_0 : WW.2.2 73 0 = ((74 : Nat) : Int) := by decide +kernel
theorem f_73_1 : WW.2.2 73 1 = ((75 : Nat) : Int) := by decide +kernel
theorem f_73_2 : WW.2.2 73 2 = ((76 : Nat) : Int) := by decide +kernel
theorem f_73_3 : WW.2.2 73 3 = ((77 : Nat) : Int) := by decide +kernel
theorem f_78_0 : WW.2.2 78 0 = ((79 : Nat) : Int) := by decide +kernel
theorem f_78_1 : WW.2.2 78 1 = ((80 : Nat) : Int) := by decide +kernel
theorem f_78_2 : WW.2.2 78 2 = ((81 : Nat) : Int) := by decide +kernel
theorem f_78_3 : WW.2.2 78 3 = ((82 : Nat) : Int) := by decide +kernel
theorem f_83_0 : WW.2.2 83 0 = ((84 : Nat) : Int) := by decide +kernel
theorem f_83_1 : WW.2.2 83 1 = ((85 : Nat) : Int) := by decide +kernel
theorem f_83_2 : WW.2.2 83 2 = ((86 : Nat) : Int) := by decide +kernel
theorem f_83_3 : WW.2.2 83 3 = ((87 : Nat) : Int) := by decide +kernel
theorem f_88_0 : WW.2.2 88 0 = ((89 : Nat) : Int) := by decide +kernel
theorem f_88_1 : WW.2.2 88 1 = ((90 : Nat) : Int) := by decide +kernel
theorem f_88_2 : WW.2.2 88 2 = ((91 : Nat) : Int) := by decide +kernel
theorem f_92_0 : WW.2.2 92 0 = ((93 : Nat) : Int) := by decide +kernel
theorem f_92_1 : WW.2.2 92 1 = ((94 : Nat) : Int) := by decide +kernel
theorem f_92_2 : WW.2.2 92 2 = ((95 : Nat) : Int) := by decide +kernel
theorem f_92_3 : WW.2.2 92 3 = ((96 : Nat) : Int) := by decide +kernel
theorem f_92_4 : WW.2.2 92 4 = ((97 : Nat) : Int) := by decide +kernel
theorem f_92_5 : WW.2.2 92 5 = ((98 : Nat) : Int) := by decide +kernel
theorem f_92_6 : WW.2.2 92 6 = ((99 : Nat) : Int) := by decide +kernel
theorem f_100_0 : WW.2.2 100 0 = ((101 : Nat) : Int) := by decide +kernel
theorem f_102_0 : WW.2.2 102 0 = ((103 : Nat) : Int) := by decide +kernel
theorem f_102_1 : WW.2.2 102 1 = ((104 : Nat) : Int) := by decide +kernel
theorem f_102_2 : WW.2.2 102 2 = ((105 : Nat) : Int) := by decide +kernel
theorem f_102_3 : WW.2.2 102 3 = ((106 : Nat) : Int) := by decide +kernel
theorem f_107_0 : WW.2.2 107 0 = ((108 : Nat) : Int) := by decide +kernel
theorem f_107_1 : WW.2.2 107 1 = ((114 : Nat) : Int) := by decide +kernel
theorem f_108_0 : WW.2.2 108 0 = ((109 : Nat) : Int) := by decide +kernel
theorem f_109_0 : WW.2.2 109 0 = ((110 : Nat) : Int) := by decide +kernel
theorem f_109_1 : WW.2.2 109 1 = ((111 : Nat) : Int) := by decide +kernel
theorem f_109_2 : WW.2.2 109 2 = ((112 : Nat) : Int) := by decide +kernel
theorem f_109_3 : WW.2.2 109 3 = ((113 : Nat) : Int) := by decide +kernel
theorem f_114_0 : WW.2.2 114 0 = ((115 : Nat) : Int) := by decide +kernel
theorem f_115_0 : WW.2.2 115 0 = ((116 : Nat) : Int) := by decide +kernel
theorem f_115_1 : WW.2.2 115 1 = ((117 : Nat) : Int) := by decide +kernel
theorem f_115_2 : WW.2.2 115 2 = ((118 : Nat) : Int) := by decide +kernel
theorem f_115_3 : WW.2.2 115 3 = ((119 : Nat) : Int) := by decide +kernel
theorem f_120_0 : WW.2.2 120 0 = ((121 : Nat) : Int) := by decide +kernel
theorem f_120_1 : WW.2.2 120 1 = ((122 : Nat) : Int) := by decide +kernel
theorem f_120_3 : WW.2.2 120 3 = ((123 : Nat) : Int) := by decide +kernel
theorem f_120_4 : WW.2.2 120 4 = ((124 : Nat) : Int) := by decide +kernel
theorem f_120_5 : WW.2.2 120 5 = ((125 : Nat) : Int) := by decide +kernel
theorem f_120_7 : WW.2.2 120 7 = ((126 : Nat) : Int) := by decide +kernel
theorem f_120_10 : WW.2.2 120 10 = ((127 : Nat) : Int) := by decide +kernel
theorem f_120_12 : WW.2.2 120 12 = ((128 : Nat) : Int) := by decide +kernel
theorem f_120_14 : WW.2.2 120 14 = ((129 : Nat) : Int) := by decide +kernel
theorem f_120_15 : WW.2.2 120 15 = ((130 : Nat) : Int) := by decide +kernel
theorem f_120_16 : WW.2.2 120 16 = ((131 : Nat) : Int) := by decide +kernel
theorem f_120_17 : WW.2.2 120 17 = ((132 : Nat) : Int) := by decide +kernel
theorem f_120_18 : WW.2.2 120 18 = ((133 : Nat) : Int) := by decide +kernel
theorem f_120_19 : WW.2.2 120 19 = ((134 : Nat) : Int) := by decide +kernel
theorem f_120_21 : WW.2.2 120 21 = ((135 : Nat) : Int) := by decide +kernel
theorem f_120_22 : WW.2.2 120 22 = ((136 : Nat) : Int) := by decide +kernel
theorem f_120_23 : WW.2.2 120 23 = ((137 : Nat) : Int) := by decide +kernel
def xsts : List Nat := [1, 8, 13, 18, 23, 28, 33, 38, 43, 48, 53, 58, 63, 68, 73, 78, 83, 109, 115]
/-- a State: its cell, and the four rows behind it -/
theorem st_sh : ∀ c ∈ xsts, WW.2.1 c = (0, 5) ∧ WW.2.1 (c + 1) = (2, 8) ∧ WW.2.1 (c + 2) = (1, 8) ∧ WW.2.1 (c + 3) = (1, 4) ∧ WW.2.1 (c + 4) = (1, 8) ∧ c + 4 < WW.1 ∧ WW.2.2 c 0 = ((c + 1 : Nat) : Int) ∧ WW.2.2 c 1 = ((c + 2 : Nat) : Int) ∧ WW.2.2 c 2 = ((c + 3 : Nat) : Int) ∧ WW.2.2 c 3 = ((c + 4 : Nat) : Int) := by decide +kernel
def bk (k : Nat) : Nat := ([9, 1, 2, 0, 3, 0, 4, 0, 1, 2, 0, 3, 0, 1, 2, 0, 3, 0, 1, 2, 0, 3, 0, 1, 2, 0, 3, 0, 1, 2, 0, 3, 0, 1, 2, 0, 3, 0, 1, 2, 0, 3, 0, 1, 2, 0, 3, 0, 1, 2, 0, 3, 0, 1, 2, 0, 3, 0, 1, 2, 0, 3, 0, 1, 2, 0, 3, 0, 1, 2, 0, 3, 0, 1, 2, 0, 3, 0, 1, 2, 0, 3, 0, 1, 2, 0, 3, 0, 5, 6, 6, 0, 10, 15, 15, 3, 0, 0, 0, 0, 0, 7, 8, 0, 0, 0, 0, 0, 0, 1, 2, 0, 3, 0, 0, 1, 2, 0, 3, 0, 11, 12, 13, 14, 0, 15, 16, 15, 15, 0, 0, 0, 0, 7, 0, 0, 0, 0] : List Nat).getD k 0
/-- what a slot may hold, by the kind of its cell -/
def bd (kd : Nat) (j v : Int) : Prop := match kd with
  | 1 => (j = 4 → 0 ≤ v ∧ v ≤ 8) ∧ (j = 5 → 0 ≤ v ∧ v ≤ 2)
  | 2 => 0 ≤ v ∧ v ≤ 47244640255
  | 3 => 0 ≤ v ∧ v ≤ 9
  | 4 => (j = 1 → 0 ≤ v ∧ v ≤ 16) ∧ (j = 2 → 0 ≤ v ∧ v ≤ 15)
  | 5 => j = 3 → 0 ≤ v ∧ v ≤ 20
  | 6 => 0 ≤ v ∧ v ≤ 7
  | 7 => 0 ≤ v ∧ v ≤ 180
  | 8 => j = 4 → 0 ≤ v ∧ v ≤ 7
  | 9 => j = 7 → 0 ≤ v ∧ v ≤ 47244640255
  | 10 => (j = 7 → 0 ≤ v ∧ v ≤ 10) ∧ (j = 8 → 0 ≤ v ∧ v ≤ 10)
  | 11 => (j = 2 → 0 ≤ v ∧ v ≤ 16) ∧ (j = 6 → 0 ≤ v ∧ v ≤ 10) ∧ (j = 8 → 0 ≤ v ∧ v ≤ 20) ∧ (j = 9 → 0 ≤ v ∧ v ≤ 2147483647) ∧ (j = 11 → 0 ≤ v ∧ v ≤ 10) ∧ (j = 13 → 0 ≤ v ∧ v ≤ 10) ∧ (j = 20 → 0 ≤ v ∧ v ≤ 8)
  | 12 => (j = 0 → 0 ≤ v ∧ v ≤ 8) ∧ (j = 1 → 0 ≤ v ∧ v ≤ 2) ∧ (2 ≤ j ∧ j ≤ 5 → 0 ≤ v ∧ v ≤ 9) ∧ (6 ≤ j ∧ j ≤ 13 → 0 ≤ v ∧ v ≤ 10) ∧ (30 ≤ j → 0 ≤ v ∧ v ≤ 7)
  | 13 => (j % 110 = 0 → 0 ≤ v ∧ v ≤ 8) ∧ (j % 110 = 1 → 0 ≤ v ∧ v ≤ 2) ∧ (2 ≤ j % 110 ∧ j % 110 ≤ 5 → 0 ≤ v ∧ v ≤ 9) ∧ (6 ≤ j % 110 ∧ j % 110 ≤ 13 → 0 ≤ v ∧ v ≤ 10) ∧ (30 ≤ j % 110 → 0 ≤ v ∧ v ≤ 7)
  | 14 => (j % 111 = 0 → 0 ≤ v ∧ v ≤ 8) ∧ (j % 111 = 1 → 0 ≤ v ∧ v ≤ 2) ∧ (2 ≤ j % 111 ∧ j % 111 ≤ 5 → 0 ≤ v ∧ v ≤ 9) ∧ (6 ≤ j % 111 ∧ j % 111 ≤ 13 → 0 ≤ v ∧ v ≤ 10) ∧ (30 ≤ j % 111 ∧ j % 111 ≤ 109 → 0 ≤ v ∧ v ≤ 7) ∧ (j % 111 = 110 → 0 ≤ v ∧ v ≤ 2147483647)
  | 15 => 0 ≤ v ∧ v ≤ 7
  | 16 => (j % 3 ≤ 1 → 0 ≤ v ∧ v ≤ 7)
  | _ => True
def BI (μ : xM) : Prop := ∀ k j, bd (bk k) j (μ k j)
theorem BI.up {μ : xM} (h : BI μ) {k : Nat} {j v : Int} (hv : bd (bk k) j v) : BI (xup μ k j v) := by
  intro a b
  by_cases hab : a = k ∧ b = j
  · obtain ⟨rfl, rfl⟩ := hab
    rw [xup_s]
    exact hv
  · simp only [xup, if_neg hab]
    exact h a b
/-- nothing changes but what S names -/
def Fr (S : Nat → Int → Prop) (μ μ' : xM) : Prop := ∀ k j, ¬ S k j → μ' k j = μ k j
theorem Fr.rf {S : Nat → Int → Prop} {μ : xM} : Fr S μ μ := fun _ _ _ => rfl
theorem Fr.up {S : Nat → Int → Prop} {μ μ1 : xM} (h : Fr S μ μ1) {k : Nat} {j v : Int} (hs : S k j) : Fr S μ (xup μ1 k j v) := by
  intro a b hab
  have : ¬ (a = k ∧ b = j) := by
    rintro ⟨rfl, rfl⟩
    exact hab hs
  simp only [xup, if_neg this]
  exact h a b hab
theorem Fr.trans {S : Nat → Int → Prop} {μ μ1 μ2 : xM} (h : Fr S μ μ1) (h2 : Fr S μ1 μ2) : Fr S μ μ2 := fun k j hs => (h2 k j hs).trans (h k j hs)
theorem Fr.sub {S S' : Nat → Int → Prop} {μ μ' : xM} (h : Fr S μ μ') (hs : ∀ k j, S k j → S' k j) : Fr S' μ μ' := fun k j hn => h k j (fun z => hn (hs k j z))
/-- what the class's reads may touch: lineup, distances, tree, and whether they are measured -/
def RO (k : Nat) (j : Int) : Prop := (92 ≤ k ∧ k ≤ 106) ∨ (k = 0 ∧ j = 9)
/-- what the reference's reads may touch -/
def RM (k : Nat) (j : Int) : Prop := 127 ≤ k ∨ (k = 120 ∧ (j = 11 ∨ j = 13 ∨ j = 20))
/-! a method of these worlds, its names given -/
theorem xMet.go {y : MethodName} {cc : ByteArray} {maxL : Nat} {ret : Option FieldType} {fr lc mc ms : Nat} {av : List xV} {w : xW} {μ : xM} {K : Option xV → xW → xM → Prop} (own nm : String) (h1 : y.cls = own) (h2 : y.name = nm) (hy : plainName y.cls = true) (lo : xLoc) (hlen : (xpl av).length ≤ maxL) (hlo : xpl av ++ List.replicate (maxL - (xpl av).length) none = lo)
    (body : ∀ X, Lg own nm cc maxL { frames := fr, cells := mc, slots := ms, locals := lc } ret mc ms K X → X 0 0 w μ 0 lo []) : xMet y cc maxL ret fr lc mc ms av w μ K := by
  subst h1; subst h2
  exact xMet.of hy lo hlen hlo body
/-! numbers -/
theorem xand_rg (x y : Int) : xrg (xand x y) := xn_rg _
theorem xor_rg (x y : Int) : xrg (xor' x y) := xn_rg _
theorem xxor_rg (x y : Int) : xrg (xxor x y) := xn_rg _
theorem xshl_rg (x y : Int) : xrg (xshl x y) := xn_rg _
theorem xshr_rg (x y : Int) : xrg (xshr x y) := xn_rg _
theorem xushr_rg (x y : Int) : xrg (xushr x y) := xn_rg _
theorem xdiv_rg (x y : Int) : xrg (xdiv x y) := xn_rg _
theorem xrem_rg (x y : Int) : xrg (xrem x y) := xn_rg _
theorem xland_rg (x y : Int) : xrl (xland x y) := xn_rl _
theorem xlor_rg (x y : Int) : xrl (xlor x y) := xn_rl _
theorem xlshl_rg (x y : Int) : xrl (xlshl x y) := xn_rl _
theorem xlushr_rg (x y : Int) : xrl (xlushr x y) := xn_rl _
theorem xlrem_rg (x y : Int) : xrl (xlrem x y) := xn_rl _

