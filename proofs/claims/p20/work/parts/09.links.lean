theorem kk_L_7 : xWd (.classLink RL 7 "TaleTypes") := xWd.at (i := 60) (by decide +kernel) (by decide +kernel)
theorem in_RX7 : xWd (.instantiable RX7 10) := xWd.at (i := 61) (by decide +kernel) (by decide +kernel)
theorem ml_L_9 : xWd (.methodLink RL 9 yX7_init) := xWd.at (i := 62) (by decide +kernel) (by decide +kernel)
theorem im_yX7_init : xWd (.instanceMethod yX7_init) := xWd.at (i := 63) (by decide +kernel) (by decide +kernel)
theorem ml_X7_1 : xWd (.methodLink RX7 1 Lib.objectInit) := xWd.at (i := 65) (by decide +kernel) (by decide +kernel)
theorem im_Lib_objectInit : xWd (.instanceMethod Lib.objectInit) := xWd.at (i := 66) (by decide +kernel) (by decide +kernel)
theorem kk_X7_7 : xWd (.classLink RX7 7 "TaleTypes$State") := xWd.at (i := 68) (by decide +kernel) (by decide +kernel)
theorem in_RX5 : xWd (.instantiable RX5 6) := xWd.at (i := 69) (by decide +kernel) (by decide +kernel)
theorem ml_X7_9 : xWd (.methodLink RX7 9 yX5_init) := xWd.at (i := 70) (by decide +kernel) (by decide +kernel)
theorem im_yX5_init : xWd (.instanceMethod yX5_init) := xWd.at (i := 71) (by decide +kernel) (by decide +kernel)
theorem ml_X5_3 : xWd (.methodLink RX5 3 Lib.objectInit) := xWd.at (i := 73) (by decide +kernel) (by decide +kernel)
theorem fl_X5_9 : xFl RX5 9 "TaleTypes$State" "tales" "[J" := Or.inl (xWd.at (i := 74) (by decide +kernel) (by decide +kernel))
theorem fw_X5_9 : xWd (.fieldLink RX5 9 "TaleTypes$State" "tales" "[J") := xWd.at (i := 74) (by decide +kernel) (by decide +kernel)
theorem fl_X2_21 : xFl RX2 21 "TaleTypes$State" "tales" "[J" := Or.inr ⟨"TaleTypes", xWd.at (i := 75) (by decide +kernel) (by decide +kernel)⟩
theorem fl_X7_124 : xFl RX7 124 "TaleTypes$State" "tales" "[J" := Or.inr ⟨"TaleTypes", xWd.at (i := 76) (by decide +kernel) (by decide +kernel)⟩
theorem fl_X5_15 : xFl RX5 15 "TaleTypes$State" "places" "[I" := Or.inl (xWd.at (i := 77) (by decide +kernel) (by decide +kernel))
theorem fw_X5_15 : xWd (.fieldLink RX5 15 "TaleTypes$State" "places" "[I") := xWd.at (i := 77) (by decide +kernel) (by decide +kernel)
theorem fl_X7_128 : xFl RX7 128 "TaleTypes$State" "places" "[I" := Or.inr ⟨"TaleTypes", xWd.at (i := 78) (by decide +kernel) (by decide +kernel)⟩
theorem fl_X5_19 : xFl RX5 19 "TaleTypes$State" "costs" "[I" := Or.inl (xWd.at (i := 79) (by decide +kernel) (by decide +kernel))
theorem fw_X5_19 : xWd (.fieldLink RX5 19 "TaleTypes$State" "costs" "[I") := xWd.at (i := 79) (by decide +kernel) (by decide +kernel)
theorem fl_X2_25 : xFl RX2 25 "TaleTypes$State" "costs" "[I" := Or.inr ⟨"TaleTypes", xWd.at (i := 80) (by decide +kernel) (by decide +kernel)⟩
theorem fl_X7_146 : xFl RX7 146 "TaleTypes$State" "costs" "[I" := Or.inr ⟨"TaleTypes", xWd.at (i := 81) (by decide +kernel) (by decide +kernel)⟩
theorem fl_X5_22 : xFl RX5 22 "TaleTypes$State" "roads" "[I" := Or.inl (xWd.at (i := 82) (by decide +kernel) (by decide +kernel))
theorem fw_X5_22 : xWd (.fieldLink RX5 22 "TaleTypes$State" "roads" "[I") := xWd.at (i := 82) (by decide +kernel) (by decide +kernel)
theorem fl_X7_132 : xFl RX7 132 "TaleTypes$State" "roads" "[I" := Or.inr ⟨"TaleTypes", xWd.at (i := 83) (by decide +kernel) (by decide +kernel)⟩
theorem fl_X5_25 : xFl RX5 25 "TaleTypes$State" "count" "I" := Or.inl (xWd.at (i := 84) (by decide +kernel) (by decide +kernel))
theorem fw_X5_25 : xWd (.fieldLink RX5 25 "TaleTypes$State" "count" "I") := xWd.at (i := 84) (by decide +kernel) (by decide +kernel)
theorem fl_X2_15 : xFl RX2 15 "TaleTypes$State" "count" "I" := Or.inr ⟨"TaleTypes", xWd.at (i := 85) (by decide +kernel) (by decide +kernel)⟩
theorem fl_X7_80 : xFl RX7 80 "TaleTypes$State" "count" "I" := Or.inr ⟨"TaleTypes", xWd.at (i := 86) (by decide +kernel) (by decide +kernel)⟩
theorem fl_X5_29 : xFl RX5 29 "TaleTypes$State" "kind" "I" := Or.inl (xWd.at (i := 87) (by decide +kernel) (by decide +kernel))
theorem fw_X5_29 : xWd (.fieldLink RX5 29 "TaleTypes$State" "kind" "I") := xWd.at (i := 87) (by decide +kernel) (by decide +kernel)
theorem fl_X7_91 : xFl RX7 91 "TaleTypes$State" "kind" "I" := Or.inr ⟨"TaleTypes", xWd.at (i := 88) (by decide +kernel) (by decide +kernel)⟩
theorem ac_Jvm_ClassFile_FieldType_long : xWd (.arrayClass Jvm.ClassFile.FieldType.long) := xWd.at (i := 102) (by decide +kernel) (by decide +kernel)
theorem ac_Jvm_ClassFile_FieldType_int : xWd (.arrayClass Jvm.ClassFile.FieldType.int) := xWd.at (i := 103) (by decide +kernel) (by decide +kernel)
theorem kk_X7_16 : xWd (.classLink RX7 16 "TaleTypes$Deeds") := xWd.at (i := 104) (by decide +kernel) (by decide +kernel)
theorem in_RX1 : xWd (.instantiable RX1 3) := xWd.at (i := 105) (by decide +kernel) (by decide +kernel)
theorem ml_X7_18 : xWd (.methodLink RX7 18 yX1_init) := xWd.at (i := 106) (by decide +kernel) (by decide +kernel)
theorem im_yX1_init : xWd (.instanceMethod yX1_init) := xWd.at (i := 107) (by decide +kernel) (by decide +kernel)
theorem ml_X1_3 : xWd (.methodLink RX1 3 Lib.objectInit) := xWd.at (i := 109) (by decide +kernel) (by decide +kernel)
theorem kk_X1_9 : xWd (.classLink RX1 9 "TaleTypes$State") := xWd.at (i := 110) (by decide +kernel) (by decide +kernel)
theorem ao_Jvm_ClassFile_FieldType_object_TaleTypes_State : xWd (.arrayOver (Jvm.ClassFile.FieldType.object "TaleTypes$State")) := xWd.at (i := 111) (by decide +kernel) (by decide +kernel)
theorem ml_X1_24 : xWd (.methodLink RX1 24 yX5_init) := xWd.at (i := 112) (by decide +kernel) (by decide +kernel)
theorem fl_X1_11 : xFl RX1 11 "TaleTypes$Deeds" "before" "[LTaleTypes$State;" := Or.inl (xWd.at (i := 113) (by decide +kernel) (by decide +kernel))
theorem fw_X1_11 : xWd (.fieldLink RX1 11 "TaleTypes$Deeds" "before" "[LTaleTypes$State;") := xWd.at (i := 113) (by decide +kernel) (by decide +kernel)
theorem fl_X1_17 : xFl RX1 17 "TaleTypes$Deeds" "count" "I" := Or.inl (xWd.at (i := 114) (by decide +kernel) (by decide +kernel))
theorem fw_X1_17 : xWd (.fieldLink RX1 17 "TaleTypes$Deeds" "count" "I") := xWd.at (i := 114) (by decide +kernel) (by decide +kernel)
theorem fl_X7_118 : xFl RX7 118 "TaleTypes$Deeds" "count" "I" := Or.inr ⟨"TaleTypes", xWd.at (i := 115) (by decide +kernel) (by decide +kernel)⟩
theorem fl_X1_21 : xFl RX1 21 "TaleTypes$Deeds" "next" "I" := Or.inl (xWd.at (i := 116) (by decide +kernel) (by decide +kernel))
theorem fw_X1_21 : xWd (.fieldLink RX1 21 "TaleTypes$Deeds" "next" "I") := xWd.at (i := 116) (by decide +kernel) (by decide +kernel)
theorem kk_X7_23 : xWd (.classLink RX7 23 "TaleTypes$Book") := xWd.at (i := 124) (by decide +kernel) (by decide +kernel)
theorem in_RX0 : xWd (.instantiable RX0 4) := xWd.at (i := 125) (by decide +kernel) (by decide +kernel)
theorem ml_X7_25 : xWd (.methodLinkNest RX7 25 yX0_init "TaleTypes") := xWd.at (i := 126) (by decide +kernel) (by decide +kernel)
theorem im_yX0_init : xWd (.instanceMethod yX0_init) := xWd.at (i := 127) (by decide +kernel) (by decide +kernel)
theorem ml_X0_3 : xWd (.methodLink RX0 3 Lib.objectInit) := xWd.at (i := 129) (by decide +kernel) (by decide +kernel)
theorem fl_X0_9 : xFl RX0 9 "TaleTypes$Book" "firsts" "[I" := Or.inl (xWd.at (i := 130) (by decide +kernel) (by decide +kernel))
theorem fw_X0_9 : xWd (.fieldLink RX0 9 "TaleTypes$Book" "firsts" "[I") := xWd.at (i := 130) (by decide +kernel) (by decide +kernel)
theorem fl_X0_15 : xFl RX0 15 "TaleTypes$Book" "others" "[I" := Or.inl (xWd.at (i := 131) (by decide +kernel) (by decide +kernel))
theorem fw_X0_15 : xWd (.fieldLink RX0 15 "TaleTypes$Book" "others" "[I") := xWd.at (i := 131) (by decide +kernel) (by decide +kernel)
theorem fl_X0_18 : xFl RX0 18 "TaleTypes$Book" "says" "[I" := Or.inl (xWd.at (i := 132) (by decide +kernel) (by decide +kernel))
theorem fw_X0_18 : xWd (.fieldLink RX0 18 "TaleTypes$Book" "says" "[I") := xWd.at (i := 132) (by decide +kernel) (by decide +kernel)
theorem fl_X0_21 : xFl RX0 21 "TaleTypes$Book" "size" "I" := Or.inl (xWd.at (i := 133) (by decide +kernel) (by decide +kernel))
theorem fw_X0_21 : xWd (.fieldLink RX0 21 "TaleTypes$Book" "size" "I") := xWd.at (i := 133) (by decide +kernel) (by decide +kernel)
theorem fl_X7_108 : xFl RX7 108 "TaleTypes$Book" "size" "I" := Or.inr ⟨"TaleTypes", xWd.at (i := 134) (by decide +kernel) (by decide +kernel)⟩
theorem kk_X7_30 : xWd (.classLink RX7 30 "TaleTypes$Lineup") := xWd.at (i := 144) (by decide +kernel) (by decide +kernel)
theorem in_RX4 : xWd (.instantiable RX4 9) := xWd.at (i := 145) (by decide +kernel) (by decide +kernel)
theorem ml_X7_32 : xWd (.methodLinkNest RX7 32 yX4_init "TaleTypes") := xWd.at (i := 146) (by decide +kernel) (by decide +kernel)
theorem im_yX4_init : xWd (.instanceMethod yX4_init) := xWd.at (i := 147) (by decide +kernel) (by decide +kernel)
theorem ml_X4_3 : xWd (.methodLink RX4 3 Lib.objectInit) := xWd.at (i := 149) (by decide +kernel) (by decide +kernel)
theorem fl_X4_9 : xFl RX4 9 "TaleTypes$Lineup" "first" "[I" := Or.inl (xWd.at (i := 150) (by decide +kernel) (by decide +kernel))
theorem fw_X4_9 : xWd (.fieldLink RX4 9 "TaleTypes$Lineup" "first" "[I") := xWd.at (i := 150) (by decide +kernel) (by decide +kernel)
theorem fl_X4_15 : xFl RX4 15 "TaleTypes$Lineup" "other" "[I" := Or.inl (xWd.at (i := 151) (by decide +kernel) (by decide +kernel))
theorem fw_X4_15 : xWd (.fieldLink RX4 15 "TaleTypes$Lineup" "other" "[I") := xWd.at (i := 151) (by decide +kernel) (by decide +kernel)
theorem fl_X4_18 : xFl RX4 18 "TaleTypes$Lineup" "costs" "[I" := Or.inl (xWd.at (i := 152) (by decide +kernel) (by decide +kernel))
theorem fw_X4_18 : xWd (.fieldLink RX4 18 "TaleTypes$Lineup" "costs" "[I") := xWd.at (i := 152) (by decide +kernel) (by decide +kernel)
theorem fl_X4_21 : xFl RX4 21 "TaleTypes$Lineup" "least" "[I" := Or.inl (xWd.at (i := 153) (by decide +kernel) (by decide +kernel))
theorem fw_X4_21 : xWd (.fieldLink RX4 21 "TaleTypes$Lineup" "least" "[I") := xWd.at (i := 153) (by decide +kernel) (by decide +kernel)
theorem fl_X4_24 : xFl RX4 24 "TaleTypes$Lineup" "rows" "[I" := Or.inl (xWd.at (i := 154) (by decide +kernel) (by decide +kernel))
theorem fw_X4_24 : xWd (.fieldLink RX4 24 "TaleTypes$Lineup" "rows" "[I") := xWd.at (i := 154) (by decide +kernel) (by decide +kernel)
theorem fl_X4_27 : xFl RX4 27 "TaleTypes$Lineup" "shared" "[I" := Or.inl (xWd.at (i := 155) (by decide +kernel) (by decide +kernel))
theorem fw_X4_27 : xWd (.fieldLink RX4 27 "TaleTypes$Lineup" "shared" "[I") := xWd.at (i := 155) (by decide +kernel) (by decide +kernel)
theorem fl_X4_30 : xFl RX4 30 "TaleTypes$Lineup" "way" "[I" := Or.inl (xWd.at (i := 156) (by decide +kernel) (by decide +kernel))
theorem fw_X4_30 : xWd (.fieldLink RX4 30 "TaleTypes$Lineup" "way" "[I") := xWd.at (i := 156) (by decide +kernel) (by decide +kernel)
theorem fl_X4_33 : xFl RX4 33 "TaleTypes$Lineup" "firstLength" "I" := Or.inl (xWd.at (i := 157) (by decide +kernel) (by decide +kernel))
theorem fw_X4_33 : xWd (.fieldLink RX4 33 "TaleTypes$Lineup" "firstLength" "I") := xWd.at (i := 157) (by decide +kernel) (by decide +kernel)
theorem fl_X4_37 : xFl RX4 37 "TaleTypes$Lineup" "otherLength" "I" := Or.inl (xWd.at (i := 158) (by decide +kernel) (by decide +kernel))
theorem fw_X4_37 : xWd (.fieldLink RX4 37 "TaleTypes$Lineup" "otherLength" "I") := xWd.at (i := 158) (by decide +kernel) (by decide +kernel)
theorem kk_X7_37 : xWd (.classLink RX7 37 "TaleTypes$Distances") := xWd.at (i := 178) (by decide +kernel) (by decide +kernel)
theorem in_RX2 : xWd (.instantiable RX2 1) := xWd.at (i := 179) (by decide +kernel) (by decide +kernel)
theorem ml_X7_39 : xWd (.methodLinkNest RX7 39 yX2_init "TaleTypes") := xWd.at (i := 180) (by decide +kernel) (by decide +kernel)
theorem im_yX2_init : xWd (.instanceMethod yX2_init) := xWd.at (i := 181) (by decide +kernel) (by decide +kernel)
theorem ml_X2_3 : xWd (.methodLink RX2 3 Lib.objectInit) := xWd.at (i := 183) (by decide +kernel) (by decide +kernel)
theorem fl_X2_9 : xFl RX2 9 "TaleTypes$Distances" "apart" "[I" := Or.inl (xWd.at (i := 184) (by decide +kernel) (by decide +kernel))
theorem fw_X2_9 : xWd (.fieldLink RX2 9 "TaleTypes$Distances" "apart" "[I") := xWd.at (i := 184) (by decide +kernel) (by decide +kernel)
theorem kk_X7_44 : xWd (.classLink RX7 44 "TaleTypes$Tree") := xWd.at (i := 188) (by decide +kernel) (by decide +kernel)
theorem in_RX6 : xWd (.instantiable RX6 11) := xWd.at (i := 189) (by decide +kernel) (by decide +kernel)
theorem ml_X7_46 : xWd (.methodLinkNest RX7 46 yX6_init "TaleTypes") := xWd.at (i := 190) (by decide +kernel) (by decide +kernel)
theorem im_yX6_init : xWd (.instanceMethod yX6_init) := xWd.at (i := 191) (by decide +kernel) (by decide +kernel)
theorem ml_X6_3 : xWd (.methodLink RX6 3 Lib.objectInit) := xWd.at (i := 193) (by decide +kernel) (by decide +kernel)
theorem fl_X6_9 : xFl RX6 9 "TaleTypes$Tree" "heights" "[I" := Or.inl (xWd.at (i := 194) (by decide +kernel) (by decide +kernel))
theorem fw_X6_9 : xWd (.fieldLink RX6 9 "TaleTypes$Tree" "heights" "[I") := xWd.at (i := 194) (by decide +kernel) (by decide +kernel)
theorem fl_X7_168 : xFl RX7 168 "TaleTypes$Tree" "heights" "[I" := Or.inr ⟨"TaleTypes", xWd.at (i := 195) (by decide +kernel) (by decide +kernel)⟩
theorem fl_X6_15 : xFl RX6 15 "TaleTypes$Tree" "wholes" "[I" := Or.inl (xWd.at (i := 196) (by decide +kernel) (by decide +kernel))
theorem fw_X6_15 : xWd (.fieldLink RX6 15 "TaleTypes$Tree" "wholes" "[I") := xWd.at (i := 196) (by decide +kernel) (by decide +kernel)
theorem fl_X7_171 : xFl RX7 171 "TaleTypes$Tree" "wholes" "[I" := Or.inr ⟨"TaleTypes", xWd.at (i := 197) (by decide +kernel) (by decide +kernel)⟩
theorem fl_X6_18 : xFl RX6 18 "TaleTypes$Tree" "leasts" "[I" := Or.inl (xWd.at (i := 198) (by decide +kernel) (by decide +kernel))
theorem fw_X6_18 : xWd (.fieldLink RX6 18 "TaleTypes$Tree" "leasts" "[I") := xWd.at (i := 198) (by decide +kernel) (by decide +kernel)
theorem fl_X7_174 : xFl RX7 174 "TaleTypes$Tree" "leasts" "[I" := Or.inr ⟨"TaleTypes", xWd.at (i := 199) (by decide +kernel) (by decide +kernel)⟩
theorem fl_X6_21 : xFl RX6 21 "TaleTypes$Tree" "types" "[I" := Or.inl (xWd.at (i := 200) (by decide +kernel) (by decide +kernel))
theorem fw_X6_21 : xWd (.fieldLink RX6 21 "TaleTypes$Tree" "types" "[I") := xWd.at (i := 200) (by decide +kernel) (by decide +kernel)
theorem fl_X6_24 : xFl RX6 24 "TaleTypes$Tree" "nodes" "I" := Or.inl (xWd.at (i := 201) (by decide +kernel) (by decide +kernel))
theorem fw_X6_24 : xWd (.fieldLink RX6 24 "TaleTypes$Tree" "nodes" "I") := xWd.at (i := 201) (by decide +kernel) (by decide +kernel)
theorem fl_X6_28 : xFl RX6 28 "TaleTypes$Tree" "over" "I" := Or.inl (xWd.at (i := 202) (by decide +kernel) (by decide +kernel))
theorem fw_X6_28 : xWd (.fieldLink RX6 28 "TaleTypes$Tree" "over" "I") := xWd.at (i := 202) (by decide +kernel) (by decide +kernel)
theorem fl_X6_31 : xFl RX6 31 "TaleTypes$Tree" "under" "I" := Or.inl (xWd.at (i := 203) (by decide +kernel) (by decide +kernel))
theorem fw_X6_31 : xWd (.fieldLink RX6 31 "TaleTypes$Tree" "under" "I") := xWd.at (i := 203) (by decide +kernel) (by decide +kernel)
theorem fl_X6_34 : xFl RX6 34 "TaleTypes$Tree" "nearestOver" "I" := Or.inl (xWd.at (i := 204) (by decide +kernel) (by decide +kernel))
theorem fw_X6_34 : xWd (.fieldLink RX6 34 "TaleTypes$Tree" "nearestOver" "I") := xWd.at (i := 204) (by decide +kernel) (by decide +kernel)
theorem fl_X6_37 : xFl RX6 37 "TaleTypes$Tree" "nearestUnder" "I" := Or.inl (xWd.at (i := 205) (by decide +kernel) (by decide +kernel))
theorem fw_X6_37 : xWd (.fieldLink RX6 37 "TaleTypes$Tree" "nearestUnder" "I") := xWd.at (i := 205) (by decide +kernel) (by decide +kernel)
theorem fl_X6_40 : xFl RX6 40 "TaleTypes$Tree" "nearestOne" "I" := Or.inl (xWd.at (i := 206) (by decide +kernel) (by decide +kernel))
theorem fw_X6_40 : xWd (.fieldLink RX6 40 "TaleTypes$Tree" "nearestOne" "I") := xWd.at (i := 206) (by decide +kernel) (by decide +kernel)
theorem fl_X6_43 : xFl RX6 43 "TaleTypes$Tree" "nearestOther" "I" := Or.inl (xWd.at (i := 207) (by decide +kernel) (by decide +kernel))
theorem fw_X6_43 : xWd (.fieldLink RX6 43 "TaleTypes$Tree" "nearestOther" "I") := xWd.at (i := 207) (by decide +kernel) (by decide +kernel)
theorem kk_X7_51 : xWd (.classLink RX7 51 "TaleTypes$Image") := xWd.at (i := 231) (by decide +kernel) (by decide +kernel)
theorem ao_Jvm_ClassFile_FieldType_object_TaleTypes_Image : xWd (.arrayOver (Jvm.ClassFile.FieldType.object "TaleTypes$Image")) := xWd.at (i := 232) (by decide +kernel) (by decide +kernel)
theorem in_RX3 : xWd (.instantiable RX3 3) := xWd.at (i := 233) (by decide +kernel) (by decide +kernel)
theorem ml_X7_69 : xWd (.methodLinkNest RX7 69 yX3_init "TaleTypes") := xWd.at (i := 234) (by decide +kernel) (by decide +kernel)
theorem im_yX3_init : xWd (.instanceMethod yX3_init) := xWd.at (i := 235) (by decide +kernel) (by decide +kernel)
theorem ml_X3_1 : xWd (.methodLink RX3 1 Lib.objectInit) := xWd.at (i := 237) (by decide +kernel) (by decide +kernel)
theorem kk_X3_7 : xWd (.classLink RX3 7 "TaleTypes$State") := xWd.at (i := 238) (by decide +kernel) (by decide +kernel)
theorem ml_X3_9 : xWd (.methodLink RX3 9 yX5_init) := xWd.at (i := 239) (by decide +kernel) (by decide +kernel)
theorem fl_X3_10 : xFl RX3 10 "TaleTypes$Image" "state" "LTaleTypes$State;" := Or.inl (xWd.at (i := 240) (by decide +kernel) (by decide +kernel))
theorem fw_X3_10 : xWd (.fieldLink RX3 10 "TaleTypes$Image" "state" "LTaleTypes$State;") := xWd.at (i := 240) (by decide +kernel) (by decide +kernel)
theorem fl_X7_217 : xFl RX7 217 "TaleTypes$Image" "state" "LTaleTypes$State;" := Or.inr ⟨"TaleTypes", xWd.at (i := 241) (by decide +kernel) (by decide +kernel)⟩
theorem fl_X3_16 : xFl RX3 16 "TaleTypes$Image" "seed" "I" := Or.inl (xWd.at (i := 242) (by decide +kernel) (by decide +kernel))
theorem fw_X3_16 : xWd (.fieldLink RX3 16 "TaleTypes$Image" "seed" "I") := xWd.at (i := 242) (by decide +kernel) (by decide +kernel)
theorem fl_X7_224 : xFl RX7 224 "TaleTypes$Image" "seed" "I" := Or.inr ⟨"TaleTypes", xWd.at (i := 243) (by decide +kernel) (by decide +kernel)⟩
theorem fl_X3_20 : xFl RX3 20 "TaleTypes$Image" "kept" "Z" := Or.inl (xWd.at (i := 244) (by decide +kernel) (by decide +kernel))
theorem fw_X3_20 : xWd (.fieldLink RX3 20 "TaleTypes$Image" "kept" "Z") := xWd.at (i := 244) (by decide +kernel) (by decide +kernel)
theorem fl_X7_227 : xFl RX7 227 "TaleTypes$Image" "kept" "Z" := Or.inr ⟨"TaleTypes", xWd.at (i := 245) (by decide +kernel) (by decide +kernel)⟩
theorem fl_X7_10 : xFl RX7 10 "TaleTypes" "now" "LTaleTypes$State;" := Or.inl (xWd.at (i := 253) (by decide +kernel) (by decide +kernel))
theorem fw_X7_10 : xWd (.fieldLink RX7 10 "TaleTypes" "now" "LTaleTypes$State;") := xWd.at (i := 253) (by decide +kernel) (by decide +kernel)
theorem fl_X7_19 : xFl RX7 19 "TaleTypes" "deeds" "LTaleTypes$Deeds;" := Or.inl (xWd.at (i := 254) (by decide +kernel) (by decide +kernel))
theorem fw_X7_19 : xWd (.fieldLink RX7 19 "TaleTypes" "deeds" "LTaleTypes$Deeds;") := xWd.at (i := 254) (by decide +kernel) (by decide +kernel)
theorem fl_X7_26 : xFl RX7 26 "TaleTypes" "book" "LTaleTypes$Book;" := Or.inl (xWd.at (i := 255) (by decide +kernel) (by decide +kernel))
theorem fw_X7_26 : xWd (.fieldLink RX7 26 "TaleTypes" "book" "LTaleTypes$Book;") := xWd.at (i := 255) (by decide +kernel) (by decide +kernel)
theorem fl_X7_33 : xFl RX7 33 "TaleTypes" "lineup" "LTaleTypes$Lineup;" := Or.inl (xWd.at (i := 256) (by decide +kernel) (by decide +kernel))
theorem fw_X7_33 : xWd (.fieldLink RX7 33 "TaleTypes" "lineup" "LTaleTypes$Lineup;") := xWd.at (i := 256) (by decide +kernel) (by decide +kernel)
theorem fl_X7_40 : xFl RX7 40 "TaleTypes" "distances" "LTaleTypes$Distances;" := Or.inl (xWd.at (i := 257) (by decide +kernel) (by decide +kernel))
theorem fw_X7_40 : xWd (.fieldLink RX7 40 "TaleTypes" "distances" "LTaleTypes$Distances;") := xWd.at (i := 257) (by decide +kernel) (by decide +kernel)
theorem fl_X7_47 : xFl RX7 47 "TaleTypes" "tree" "LTaleTypes$Tree;" := Or.inl (xWd.at (i := 258) (by decide +kernel) (by decide +kernel))
theorem fw_X7_47 : xWd (.fieldLink RX7 47 "TaleTypes" "tree" "LTaleTypes$Tree;") := xWd.at (i := 258) (by decide +kernel) (by decide +kernel)
theorem fl_X7_53 : xFl RX7 53 "TaleTypes" "images" "[LTaleTypes$Image;" := Or.inl (xWd.at (i := 259) (by decide +kernel) (by decide +kernel))
theorem fw_X7_53 : xWd (.fieldLink RX7 53 "TaleTypes" "images" "[LTaleTypes$Image;") := xWd.at (i := 259) (by decide +kernel) (by decide +kernel)
theorem fl_X7_57 : xFl RX7 57 "TaleTypes" "typed" "J" := Or.inl (xWd.at (i := 260) (by decide +kernel) (by decide +kernel))
theorem fw_X7_57 : xWd (.fieldLink RX7 57 "TaleTypes" "typed" "J") := xWd.at (i := 260) (by decide +kernel) (by decide +kernel)
theorem fl_X7_61 : xFl RX7 61 "TaleTypes" "theSeed" "I" := Or.inl (xWd.at (i := 261) (by decide +kernel) (by decide +kernel))
theorem fw_X7_61 : xWd (.fieldLink RX7 61 "TaleTypes" "theSeed" "I") := xWd.at (i := 261) (by decide +kernel) (by decide +kernel)
theorem fl_X7_65 : xFl RX7 65 "TaleTypes" "measured" "Z" := Or.inl (xWd.at (i := 262) (by decide +kernel) (by decide +kernel))
theorem fw_X7_65 : xWd (.fieldLink RX7 65 "TaleTypes" "measured" "Z") := xWd.at (i := 262) (by decide +kernel) (by decide +kernel)
theorem ml_L_13 : xWd (.methodLink RL 13 yX7_feed) := xWd.at (i := 284) (by decide +kernel) (by decide +kernel)
theorem im_yX7_feed : xWd (.instanceMethod yX7_feed) := xWd.at (i := 285) (by decide +kernel) (by decide +kernel)
theorem kc_X7_70 : xWd (.constant RX7 70 (-1000000002)) := xWd.at (i := 288) (by decide +kernel) (by decide +kernel)
theorem ml_X7_71 : xWd (.methodLink RX7 71 yX7_lengthOf) := xWd.at (i := 289) (by decide +kernel) (by decide +kernel)
theorem sm_yX7_lengthOf : xWd (.static yX7_lengthOf) := xWd.at (i := 290) (by decide +kernel) (by decide +kernel)
theorem kc_X7_75 : xWd (.constant RX7 75 (-1000000004)) := xWd.at (i := 292) (by decide +kernel) (by decide +kernel)
theorem ml_X7_76 : xWd (.methodLink RX7 76 yX7_longer) := xWd.at (i := 293) (by decide +kernel) (by decide +kernel)
theorem sm_yX7_longer : xWd (.static yX7_longer) := xWd.at (i := 294) (by decide +kernel) (by decide +kernel)
theorem kl_X7_251 : xWd (.constantLong RX7 251 (4294967296)) := xWd.at (i := 296) (by decide +kernel) (by decide +kernel)
theorem ml_L_18 : xWd (.methodLink RL 18 yX7_tale) := xWd.at (i := 297) (by decide +kernel) (by decide +kernel)
theorem im_yX7_tale : xWd (.instanceMethod yX7_tale) := xWd.at (i := 298) (by decide +kernel) (by decide +kernel)
theorem kc_X7_83 : xWd (.constant RX7 83 (-1000000003)) := xWd.at (i := 301) (by decide +kernel) (by decide +kernel)
theorem ml_X7_84 : xWd (.methodLink RX7 84 yX7_beginDeed) := xWd.at (i := 302) (by decide +kernel) (by decide +kernel)
theorem im_yX7_beginDeed : xWd (.instanceMethod yX7_beginDeed) := xWd.at (i := 304) (by decide +kernel) (by decide +kernel)
theorem ml_X7_230 : xWd (.methodLink RX7 230 yX1_remember) := xWd.at (i := 306) (by decide +kernel) (by decide +kernel)
theorem im_yX1_remember : xWd (.instanceMethod yX1_remember) := xWd.at (i := 307) (by decide +kernel) (by decide +kernel)
theorem ml_X1_25 : xWd (.methodLink RX1 25 yX5_become) := xWd.at (i := 310) (by decide +kernel) (by decide +kernel)
theorem im_yX5_become : xWd (.instanceMethod yX5_become) := xWd.at (i := 311) (by decide +kernel) (by decide +kernel)
theorem ml_X5_32 : xWd (.methodLink RX5 32 arraycopyName) := xWd.at (i := 314) (by decide +kernel) (by decide +kernel)
theorem sm_arraycopyName : xWd (.static arraycopyName) := xWd.at (i := 315) (by decide +kernel) (by decide +kernel)
theorem nm_arraycopyName : xWd (.native arraycopyName) := xWd.at (i := 316) (by decide +kernel) (by decide +kernel)
theorem ml_X1_29 : xWd (.methodLink RX1 29 yJ9_min_7cf53) := xWd.at (i := 317) (by decide +kernel) (by decide +kernel)
theorem sm_yJ9_min_7cf53 : xWd (.static yJ9_min_7cf53) := xWd.at (i := 318) (by decide +kernel) (by decide +kernel)
theorem ml_X7_87 : xWd (.methodLink RX7 87 yX5_add) := xWd.at (i := 320) (by decide +kernel) (by decide +kernel)
theorem im_yX5_add : xWd (.instanceMethod yX5_add) := xWd.at (i := 321) (by decide +kernel) (by decide +kernel)
theorem ml_L_23 : xWd (.methodLink RL 23 yX7_told) := xWd.at (i := 324) (by decide +kernel) (by decide +kernel)
theorem im_yX7_told : xWd (.instanceMethod yX7_told) := xWd.at (i := 325) (by decide +kernel) (by decide +kernel)
theorem ml_X7_94 : xWd (.methodLink RX7 94 yX7_nodeCount) := xWd.at (i := 328) (by decide +kernel) (by decide +kernel)
theorem im_yX7_nodeCount : xWd (.instanceMethod yX7_nodeCount) := xWd.at (i := 330) (by decide +kernel) (by decide +kernel)
theorem ml_X7_98 : xWd (.methodLink RX7 98 yX7_likeTyped) := xWd.at (i := 332) (by decide +kernel) (by decide +kernel)
theorem im_yX7_likeTyped : xWd (.instanceMethod yX7_likeTyped) := xWd.at (i := 334) (by decide +kernel) (by decide +kernel)
theorem ml_X7_149 : xWd (.methodLink RX7 149 yX4_lineUp) := xWd.at (i := 336) (by decide +kernel) (by decide +kernel)
theorem im_yX4_lineUp : xWd (.instanceMethod yX4_lineUp) := xWd.at (i := 337) (by decide +kernel) (by decide +kernel)
theorem ml_X4_40 : xWd (.methodLink RX4 40 yX4_spell) := xWd.at (i := 340) (by decide +kernel) (by decide +kernel)
theorem sm_yX4_spell : xWd (.static yX4_spell) := xWd.at (i := 341) (by decide +kernel) (by decide +kernel)
theorem ml_X4_73 : xWd (.methodLinkNest RX4 73 yX7_lengthOf "TaleTypes") := xWd.at (i := 343) (by decide +kernel) (by decide +kernel)
theorem ml_X4_77 : xWd (.methodLink RX4 77 yJ9_min_7cf53) := xWd.at (i := 344) (by decide +kernel) (by decide +kernel)
theorem ml_X4_82 : xWd (.methodLinkNest RX4 82 yX7_motifOf "TaleTypes") := xWd.at (i := 345) (by decide +kernel) (by decide +kernel)
theorem sm_yX7_motifOf : xWd (.static yX7_motifOf) := xWd.at (i := 346) (by decide +kernel) (by decide +kernel)
theorem ml_X4_44 : xWd (.methodLink RX4 44 arraycopyName) := xWd.at (i := 348) (by decide +kernel) (by decide +kernel)
theorem ml_X4_50 : xWd (.methodLink RX4 50 yX4_leastFrom) := xWd.at (i := 349) (by decide +kernel) (by decide +kernel)
theorem im_yX4_leastFrom : xWd (.instanceMethod yX4_leastFrom) := xWd.at (i := 351) (by decide +kernel) (by decide +kernel)
theorem kc_X4_86 : xWd (.constant RX4 86 (1000000)) := xWd.at (i := 353) (by decide +kernel) (by decide +kernel)
theorem ml_X4_87 : xWd (.methodLink RX4 87 yX4_sumThrough) := xWd.at (i := 354) (by decide +kernel) (by decide +kernel)
theorem im_yX4_sumThrough : xWd (.instanceMethod yX4_sumThrough) := xWd.at (i := 356) (by decide +kernel) (by decide +kernel)
theorem fl_X4_60 : xFl RX4 60 "TaleTypes$Lineup" "OF_FIRST" "[I" := Or.inl (xWd.at (i := 358) (by decide +kernel) (by decide +kernel))
theorem fw_X4_60 : xWd (.fieldLink RX4 60 "TaleTypes$Lineup" "OF_FIRST" "[I") := xWd.at (i := 358) (by decide +kernel) (by decide +kernel)
theorem fl_X4_63 : xFl RX4 63 "TaleTypes$Lineup" "OF_OTHER" "[I" := Or.inl (xWd.at (i := 360) (by decide +kernel) (by decide +kernel))
theorem fw_X4_63 : xWd (.fieldLink RX4 63 "TaleTypes$Lineup" "OF_OTHER" "[I") := xWd.at (i := 360) (by decide +kernel) (by decide +kernel)
theorem ml_X4_91 : xWd (.methodLink RX4 91 yJ9_abs_0f7a4) := xWd.at (i := 362) (by decide +kernel) (by decide +kernel)
theorem sm_yJ9_abs_0f7a4 : xWd (.static yJ9_abs_0f7a4) := xWd.at (i := 363) (by decide +kernel) (by decide +kernel)
theorem ml_X4_95 : xWd (.methodLink RX4 95 yX4_isTurned) := xWd.at (i := 365) (by decide +kernel) (by decide +kernel)
theorem im_yX4_isTurned : xWd (.instanceMethod yX4_isTurned) := xWd.at (i := 367) (by decide +kernel) (by decide +kernel)
theorem ml_X7_153 : xWd (.methodLink RX7 153 yX4_apart) := xWd.at (i := 369) (by decide +kernel) (by decide +kernel)
theorem im_yX4_apart : xWd (.instanceMethod yX4_apart) := xWd.at (i := 370) (by decide +kernel) (by decide +kernel)
theorem ml_X7_101 : xWd (.methodLink RX7 101 yX7_allTales) := xWd.at (i := 373) (by decide +kernel) (by decide +kernel)
theorem im_yX7_allTales : xWd (.instanceMethod yX7_allTales) := xWd.at (i := 375) (by decide +kernel) (by decide +kernel)
theorem ml_X7_104 : xWd (.methodLink RX7 104 yX5_motifsOfAll) := xWd.at (i := 377) (by decide +kernel) (by decide +kernel)
theorem im_yX5_motifsOfAll : xWd (.instanceMethod yX5_motifsOfAll) := xWd.at (i := 378) (by decide +kernel) (by decide +kernel)
theorem ml_X5_44 : xWd (.methodLinkNest RX5 44 yX7_motifsOf "TaleTypes") := xWd.at (i := 381) (by decide +kernel) (by decide +kernel)
theorem sm_yX7_motifsOf : xWd (.static yX7_motifsOf) := xWd.at (i := 382) (by decide +kernel) (by decide +kernel)
theorem ml_X7_142 : xWd (.methodLink RX7 142 yX7_motifOf) := xWd.at (i := 384) (by decide +kernel) (by decide +kernel)
theorem ml_X7_111 : xWd (.methodLink RX7 111 yX7_measureAnew) := xWd.at (i := 385) (by decide +kernel) (by decide +kernel)
theorem im_yX7_measureAnew : xWd (.instanceMethod yX7_measureAnew) := xWd.at (i := 387) (by decide +kernel) (by decide +kernel)
theorem ml_X7_233 : xWd (.methodLink RX7 233 yX2_measure) := xWd.at (i := 389) (by decide +kernel) (by decide +kernel)
theorem im_yX2_measure : xWd (.instanceMethod yX2_measure) := xWd.at (i := 390) (by decide +kernel) (by decide +kernel)
theorem ml_X2_28 : xWd (.methodLink RX2 28 yX4_lineUp) := xWd.at (i := 393) (by decide +kernel) (by decide +kernel)
theorem ml_X2_34 : xWd (.methodLink RX2 34 yX4_apart) := xWd.at (i := 394) (by decide +kernel) (by decide +kernel)
theorem ml_X7_237 : xWd (.methodLink RX7 237 yX6_grow) := xWd.at (i := 395) (by decide +kernel) (by decide +kernel)
theorem im_yX6_grow : xWd (.instanceMethod yX6_grow) := xWd.at (i := 396) (by decide +kernel) (by decide +kernel)
theorem ml_X6_46 : xWd (.methodLink RX6 46 yX6_findNearest) := xWd.at (i := 399) (by decide +kernel) (by decide +kernel)
theorem im_yX6_findNearest : xWd (.instanceMethod yX6_findNearest) := xWd.at (i := 401) (by decide +kernel) (by decide +kernel)
theorem ml_X6_58 : xWd (.methodLink RX6 58 yX6_compareTypes) := xWd.at (i := 403) (by decide +kernel) (by decide +kernel)
theorem im_yX6_compareTypes : xWd (.instanceMethod yX6_compareTypes) := xWd.at (i := 405) (by decide +kernel) (by decide +kernel)
theorem kc_X6_62 : xWd (.constant RX6 62 (1000000)) := xWd.at (i := 407) (by decide +kernel) (by decide +kernel)
theorem ml_X6_63 : xWd (.methodLink RX6 63 yX2_between) := xWd.at (i := 408) (by decide +kernel) (by decide +kernel)
theorem im_yX2_between : xWd (.instanceMethod yX2_between) := xWd.at (i := 409) (by decide +kernel) (by decide +kernel)
theorem ml_X6_69 : xWd (.methodLink RX6 69 yJ9_min_7cf53) := xWd.at (i := 412) (by decide +kernel) (by decide +kernel)
theorem ml_X6_74 : xWd (.methodLink RX6 74 yJ9_max_7cf53) := xWd.at (i := 413) (by decide +kernel) (by decide +kernel)
theorem sm_yJ9_max_7cf53 : xWd (.static yJ9_max_7cf53) := xWd.at (i := 414) (by decide +kernel) (by decide +kernel)
theorem ml_X6_77 : xWd (.methodLink RX6 77 yJ6_bitCount_0f7a4) := xWd.at (i := 416) (by decide +kernel) (by decide +kernel)
theorem sm_yJ6_bitCount_0f7a4 : xWd (.static yJ6_bitCount_0f7a4) := xWd.at (i := 417) (by decide +kernel) (by decide +kernel)
theorem kc_J6_265 : xWd (.constant RJ6 265 (1431655765)) := xWd.at (i := 419) (by decide +kernel) (by decide +kernel)
theorem kc_J6_266 : xWd (.constant RJ6 266 (858993459)) := xWd.at (i := 420) (by decide +kernel) (by decide +kernel)
theorem kc_J6_267 : xWd (.constant RJ6 267 (252645135)) := xWd.at (i := 421) (by decide +kernel) (by decide +kernel)
theorem ml_X6_50 : xWd (.methodLink RX6 50 yX6_joinNearest) := xWd.at (i := 422) (by decide +kernel) (by decide +kernel)
theorem im_yX6_joinNearest : xWd (.instanceMethod yX6_joinNearest) := xWd.at (i := 424) (by decide +kernel) (by decide +kernel)
theorem ml_X7_114 : xWd (.methodLink RX7 114 yX0_firstOtherwise) := xWd.at (i := 426) (by decide +kernel) (by decide +kernel)
theorem im_yX0_firstOtherwise : xWd (.instanceMethod yX0_firstOtherwise) := xWd.at (i := 427) (by decide +kernel) (by decide +kernel)
theorem ml_X0_25 : xWd (.methodLink RX0 25 yX2_between) := xWd.at (i := 430) (by decide +kernel) (by decide +kernel)
theorem ml_L_27 : xWd (.methodLink RL 27 yX7_taleAt) := xWd.at (i := 431) (by decide +kernel) (by decide +kernel)
theorem im_yX7_taleAt : xWd (.instanceMethod yX7_taleAt) := xWd.at (i := 432) (by decide +kernel) (by decide +kernel)
theorem ml_X7_119 : xWd (.methodLink RX7 119 yX7_isTale) := xWd.at (i := 435) (by decide +kernel) (by decide +kernel)
theorem im_yX7_isTale : xWd (.instanceMethod yX7_isTale) := xWd.at (i := 437) (by decide +kernel) (by decide +kernel)
theorem kc_X7_123 : xWd (.constant RX7 123 (-1000000001)) := xWd.at (i := 439) (by decide +kernel) (by decide +kernel)
theorem ml_X7_135 : xWd (.methodLink RX7 135 yX7_hull) := xWd.at (i := 440) (by decide +kernel) (by decide +kernel)
theorem sm_yX7_hull : xWd (.static yX7_hull) := xWd.at (i := 441) (by decide +kernel) (by decide +kernel)
theorem ml_X7_253 : xWd (.methodLink RX7 253 yJ6_bitCount_0f7a4) := xWd.at (i := 443) (by decide +kernel) (by decide +kernel)
theorem ml_X7_258 : xWd (.methodLink RX7 258 yX7_hangTogether) := xWd.at (i := 444) (by decide +kernel) (by decide +kernel)
theorem sm_yX7_hangTogether : xWd (.static yX7_hangTogether) := xWd.at (i := 445) (by decide +kernel) (by decide +kernel)
theorem ml_X7_139 : xWd (.methodLink RX7 139 yX7_roadsOf) := xWd.at (i := 447) (by decide +kernel) (by decide +kernel)
theorem sm_yX7_roadsOf : xWd (.static yX7_roadsOf) := xWd.at (i := 448) (by decide +kernel) (by decide +kernel)
theorem ml_L_32 : xWd (.methodLink RL 32 yX7_motif) := xWd.at (i := 450) (by decide +kernel) (by decide +kernel)
theorem im_yX7_motif : xWd (.instanceMethod yX7_motif) := xWd.at (i := 451) (by decide +kernel) (by decide +kernel)
theorem ml_L_36 : xWd (.methodLink RL 36 yX7_costAt) := xWd.at (i := 454) (by decide +kernel) (by decide +kernel)
theorem im_yX7_costAt : xWd (.instanceMethod yX7_costAt) := xWd.at (i := 455) (by decide +kernel) (by decide +kernel)
theorem ml_L_40 : xWd (.methodLink RL 40 yX7_pair) := xWd.at (i := 458) (by decide +kernel) (by decide +kernel)
theorem im_yX7_pair : xWd (.instanceMethod yX7_pair) := xWd.at (i := 459) (by decide +kernel) (by decide +kernel)
theorem ml_X7_156 : xWd (.methodLink RX7 156 yX4_ways) := xWd.at (i := 462) (by decide +kernel) (by decide +kernel)
theorem im_yX4_ways : xWd (.instanceMethod yX4_ways) := xWd.at (i := 463) (by decide +kernel) (by decide +kernel)
theorem ml_X4_54 : xWd (.methodLink RX4 54 yX4_rowsFrom) := xWd.at (i := 466) (by decide +kernel) (by decide +kernel)
theorem im_yX4_rowsFrom : xWd (.instanceMethod yX4_rowsFrom) := xWd.at (i := 468) (by decide +kernel) (by decide +kernel)
theorem ml_X7_159 : xWd (.methodLink RX7 159 yX4_wayLength) := xWd.at (i := 470) (by decide +kernel) (by decide +kernel)
theorem im_yX4_wayLength : xWd (.instanceMethod yX4_wayLength) := xWd.at (i := 471) (by decide +kernel) (by decide +kernel)
theorem ml_X4_57 : xWd (.methodLink RX4 57 yX4_leastStep) := xWd.at (i := 474) (by decide +kernel) (by decide +kernel)
theorem im_yX4_leastStep : xWd (.instanceMethod yX4_leastStep) := xWd.at (i := 476) (by decide +kernel) (by decide +kernel)
theorem ml_X7_162 : xWd (.methodLink RX7 162 yX4_commonLength) := xWd.at (i := 478) (by decide +kernel) (by decide +kernel)
theorem im_yX4_commonLength : xWd (.instanceMethod yX4_commonLength) := xWd.at (i := 479) (by decide +kernel) (by decide +kernel)
theorem ml_X4_70 : xWd (.methodLink RX4 70 yX4_sharedFrom) := xWd.at (i := 482) (by decide +kernel) (by decide +kernel)
theorem im_yX4_sharedFrom : xWd (.instanceMethod yX4_sharedFrom) := xWd.at (i := 484) (by decide +kernel) (by decide +kernel)
theorem ml_X4_99 : xWd (.methodLink RX4 99 yJ9_max_7cf53) := xWd.at (i := 486) (by decide +kernel) (by decide +kernel)
theorem ml_L_45 : xWd (.methodLink RL 45 yX7_step) := xWd.at (i := 487) (by decide +kernel) (by decide +kernel)
theorem im_yX7_step : xWd (.instanceMethod yX7_step) := xWd.at (i := 488) (by decide +kernel) (by decide +kernel)
theorem ml_X7_165 : xWd (.methodLink RX7 165 yX4_stepOfWay) := xWd.at (i := 491) (by decide +kernel) (by decide +kernel)
theorem im_yX4_stepOfWay : xWd (.instanceMethod yX4_stepOfWay) := xWd.at (i := 492) (by decide +kernel) (by decide +kernel)
theorem ml_X4_66 : xWd (.methodLink RX4 66 yX4_wayLength) := xWd.at (i := 495) (by decide +kernel) (by decide +kernel)
theorem ml_L_49 : xWd (.methodLink RL 49 yX7_node) := xWd.at (i := 496) (by decide +kernel) (by decide +kernel)
theorem im_yX7_node : xWd (.instanceMethod yX7_node) := xWd.at (i := 497) (by decide +kernel) (by decide +kernel)
theorem ml_X7_177 : xWd (.methodLink RX7 177 yX2_middleOf) := xWd.at (i := 500) (by decide +kernel) (by decide +kernel)
theorem im_yX2_middleOf : xWd (.instanceMethod yX2_middleOf) := xWd.at (i := 501) (by decide +kernel) (by decide +kernel)
theorem ml_X2_37 : xWd (.methodLink RX2 37 yX2_sumTo) := xWd.at (i := 504) (by decide +kernel) (by decide +kernel)
theorem im_yX2_sumTo : xWd (.instanceMethod yX2_sumTo) := xWd.at (i := 506) (by decide +kernel) (by decide +kernel)
theorem ml_X2_41 : xWd (.methodLink RX2 41 yX2_between) := xWd.at (i := 508) (by decide +kernel) (by decide +kernel)
theorem ml_L_53 : xWd (.methodLink RL 53 yX7_types) := xWd.at (i := 509) (by decide +kernel) (by decide +kernel)
theorem im_yX7_types : xWd (.instanceMethod yX7_types) := xWd.at (i := 510) (by decide +kernel) (by decide +kernel)
theorem ml_X7_180 : xWd (.methodLink RX7 180 yX6_nodesUpTo) := xWd.at (i := 513) (by decide +kernel) (by decide +kernel)
theorem im_yX6_nodesUpTo : xWd (.instanceMethod yX6_nodesUpTo) := xWd.at (i := 514) (by decide +kernel) (by decide +kernel)
theorem ml_X7_183 : xWd (.methodLink RX7 183 yX6_typeOf) := xWd.at (i := 517) (by decide +kernel) (by decide +kernel)
theorem im_yX6_typeOf : xWd (.instanceMethod yX6_typeOf) := xWd.at (i := 518) (by decide +kernel) (by decide +kernel)
theorem ml_X6_54 : xWd (.methodLink RX6 54 yX6_nodesUpTo) := xWd.at (i := 521) (by decide +kernel) (by decide +kernel)
theorem ml_L_57 : xWd (.methodLink RL 57 yX7_middle) := xWd.at (i := 522) (by decide +kernel) (by decide +kernel)
theorem im_yX7_middle : xWd (.instanceMethod yX7_middle) := xWd.at (i := 523) (by decide +kernel) (by decide +kernel)
theorem ml_X7_187 : xWd (.methodLink RX7 187 yX7_areTales) := xWd.at (i := 526) (by decide +kernel) (by decide +kernel)
theorem im_yX7_areTales : xWd (.instanceMethod yX7_areTales) := xWd.at (i := 528) (by decide +kernel) (by decide +kernel)
theorem ml_L_61 : xWd (.methodLink RL 61 yX7_common) := xWd.at (i := 530) (by decide +kernel) (by decide +kernel)
theorem im_yX7_common : xWd (.instanceMethod yX7_common) := xWd.at (i := 531) (by decide +kernel) (by decide +kernel)
theorem ml_L_65 : xWd (.methodLink RL 65 yX7_wandered) := xWd.at (i := 534) (by decide +kernel) (by decide +kernel)
theorem im_yX7_wandered : xWd (.instanceMethod yX7_wandered) := xWd.at (i := 535) (by decide +kernel) (by decide +kernel)
theorem ml_X7_190 : xWd (.methodLink RX7 190 yX7_arePlaces) := xWd.at (i := 538) (by decide +kernel) (by decide +kernel)
theorem sm_yX7_arePlaces : xWd (.static yX7_arePlaces) := xWd.at (i := 539) (by decide +kernel) (by decide +kernel)
theorem ml_L_69 : xWd (.methodLink RL 69 yX7_take) := xWd.at (i := 541) (by decide +kernel) (by decide +kernel)
theorem im_yX7_take : xWd (.instanceMethod yX7_take) := xWd.at (i := 542) (by decide +kernel) (by decide +kernel)
theorem ml_X7_193 : xWd (.methodLink RX7 193 yX5_remove) := xWd.at (i := 545) (by decide +kernel) (by decide +kernel)
theorem im_yX5_remove : xWd (.instanceMethod yX5_remove) := xWd.at (i := 546) (by decide +kernel) (by decide +kernel)
theorem ml_L_73 : xWd (.methodLink RL 73 yX7_cost) := xWd.at (i := 549) (by decide +kernel) (by decide +kernel)
theorem im_yX7_cost : xWd (.instanceMethod yX7_cost) := xWd.at (i := 550) (by decide +kernel) (by decide +kernel)
theorem ml_L_77 : xWd (.methodLink RL 77 yX7_kind) := xWd.at (i := 553) (by decide +kernel) (by decide +kernel)
theorem im_yX7_kind : xWd (.instanceMethod yX7_kind) := xWd.at (i := 554) (by decide +kernel) (by decide +kernel)
theorem ml_L_81 : xWd (.methodLink RL 81 yX7_road) := xWd.at (i := 557) (by decide +kernel) (by decide +kernel)
theorem im_yX7_road : xWd (.instanceMethod yX7_road) := xWd.at (i := 558) (by decide +kernel) (by decide +kernel)
theorem ml_X7_197 : xWd (.methodLink RX7 197 yX7_isPlace) := xWd.at (i := 561) (by decide +kernel) (by decide +kernel)
theorem sm_yX7_isPlace : xWd (.static yX7_isPlace) := xWd.at (i := 562) (by decide +kernel) (by decide +kernel)
theorem ml_X7_200 : xWd (.methodLink RX7 200 yX5_setRoad) := xWd.at (i := 564) (by decide +kernel) (by decide +kernel)
theorem im_yX5_setRoad : xWd (.instanceMethod yX5_setRoad) := xWd.at (i := 565) (by decide +kernel) (by decide +kernel)
theorem ml_X7_204 : xWd (.methodLink RX7 204 yX5_countRoads) := xWd.at (i := 568) (by decide +kernel) (by decide +kernel)
theorem im_yX5_countRoads : xWd (.instanceMethod yX5_countRoads) := xWd.at (i := 569) (by decide +kernel) (by decide +kernel)
theorem ml_X5_38 : xWd (.methodLink RX5 38 yJ6_bitCount_0f7a4) := xWd.at (i := 572) (by decide +kernel) (by decide +kernel)
theorem ml_L_86 : xWd (.methodLink RL 86 yX7_at) := xWd.at (i := 573) (by decide +kernel) (by decide +kernel)
theorem im_yX7_at : xWd (.instanceMethod yX7_at) := xWd.at (i := 574) (by decide +kernel) (by decide +kernel)
theorem ml_L_90 : xWd (.methodLink RL 90 yX7_drift) := xWd.at (i := 577) (by decide +kernel) (by decide +kernel)
theorem im_yX7_drift : xWd (.instanceMethod yX7_drift) := xWd.at (i := 578) (by decide +kernel) (by decide +kernel)
theorem ml_X7_207 : xWd (.methodLink RX7 207 yX7_addDrawn) := xWd.at (i := 581) (by decide +kernel) (by decide +kernel)
theorem im_yX7_addDrawn : xWd (.instanceMethod yX7_addDrawn) := xWd.at (i := 583) (by decide +kernel) (by decide +kernel)
theorem ml_X7_241 : xWd (.methodLink RX7 241 yX7_draw) := xWd.at (i := 585) (by decide +kernel) (by decide +kernel)
theorem im_yX7_draw : xWd (.instanceMethod yX7_draw) := xWd.at (i := 587) (by decide +kernel) (by decide +kernel)
theorem kl_X7_244 : xWd (.constantLong RX7 244 (1103515245)) := xWd.at (i := 589) (by decide +kernel) (by decide +kernel)
theorem kl_X7_246 : xWd (.constantLong RX7 246 (12345)) := xWd.at (i := 590) (by decide +kernel) (by decide +kernel)
theorem kl_X7_248 : xWd (.constantLong RX7 248 (2147483647)) := xWd.at (i := 591) (by decide +kernel) (by decide +kernel)
theorem kc_X7_250 : xWd (.constant RX7 250 (65536)) := xWd.at (i := 592) (by decide +kernel) (by decide +kernel)
theorem ml_L_94 : xWd (.methodLink RL 94 yX7_undo) := xWd.at (i := 593) (by decide +kernel) (by decide +kernel)
theorem im_yX7_undo : xWd (.instanceMethod yX7_undo) := xWd.at (i := 594) (by decide +kernel) (by decide +kernel)
theorem ml_X7_210 : xWd (.methodLink RX7 210 yX1_takeBack) := xWd.at (i := 597) (by decide +kernel) (by decide +kernel)
theorem im_yX1_takeBack : xWd (.instanceMethod yX1_takeBack) := xWd.at (i := 598) (by decide +kernel) (by decide +kernel)
theorem ml_L_98 : xWd (.methodLink RL 98 yX7_write) := xWd.at (i := 601) (by decide +kernel) (by decide +kernel)
theorem im_yX7_write : xWd (.instanceMethod yX7_write) := xWd.at (i := 602) (by decide +kernel) (by decide +kernel)
theorem ml_X7_214 : xWd (.methodLink RX7 214 yX0_add) := xWd.at (i := 605) (by decide +kernel) (by decide +kernel)
theorem im_yX0_add : xWd (.instanceMethod yX0_add) := xWd.at (i := 606) (by decide +kernel) (by decide +kernel)
theorem ml_L_102 : xWd (.methodLink RL 102 yX7_tear) := xWd.at (i := 609) (by decide +kernel) (by decide +kernel)
theorem im_yX7_tear : xWd (.instanceMethod yX7_tear) := xWd.at (i := 610) (by decide +kernel) (by decide +kernel)
theorem ml_L_106 : xWd (.methodLink RL 106 yX7_seed) := xWd.at (i := 613) (by decide +kernel) (by decide +kernel)
theorem im_yX7_seed : xWd (.instanceMethod yX7_seed) := xWd.at (i := 614) (by decide +kernel) (by decide +kernel)
theorem ml_L_110 : xWd (.methodLink RL 110 yX7_keep) := xWd.at (i := 617) (by decide +kernel) (by decide +kernel)
theorem im_yX7_keep : xWd (.instanceMethod yX7_keep) := xWd.at (i := 618) (by decide +kernel) (by decide +kernel)
theorem ml_X7_220 : xWd (.methodLink RX7 220 yX5_become) := xWd.at (i := 621) (by decide +kernel) (by decide +kernel)
theorem ml_L_114 : xWd (.methodLink RL 114 yX7_goBack) := xWd.at (i := 622) (by decide +kernel) (by decide +kernel)
theorem im_yX7_goBack : xWd (.instanceMethod yX7_goBack) := xWd.at (i := 623) (by decide +kernel) (by decide +kernel)
theorem kk_L_10 : xWd (.classLink RL 10 "TaleTypesModel") := xWd.at (i := 626) (by decide +kernel) (by decide +kernel)
theorem in_RX8 : xWd (.instantiable RX8 24) := xWd.at (i := 627) (by decide +kernel) (by decide +kernel)
theorem ml_L_12 : xWd (.methodLink RL 12 yX8_init) := xWd.at (i := 628) (by decide +kernel) (by decide +kernel)
theorem im_yX8_init : xWd (.instanceMethod yX8_init) := xWd.at (i := 629) (by decide +kernel) (by decide +kernel)
theorem ml_X8_1 : xWd (.methodLink RX8 1 Lib.objectInit) := xWd.at (i := 631) (by decide +kernel) (by decide +kernel)
theorem fl_X8_7 : xFl RX8 7 "TaleTypesModel" "st" "[I" := Or.inl (xWd.at (i := 632) (by decide +kernel) (by decide +kernel))
theorem fw_X8_7 : xWd (.fieldLink RX8 7 "TaleTypesModel" "st" "[I") := xWd.at (i := 632) (by decide +kernel) (by decide +kernel)
theorem fl_X8_13 : xFl RX8 13 "TaleTypesModel" "past" "[I" := Or.inl (xWd.at (i := 633) (by decide +kernel) (by decide +kernel))
theorem fw_X8_13 : xWd (.fieldLink RX8 13 "TaleTypesModel" "past" "[I") := xWd.at (i := 633) (by decide +kernel) (by decide +kernel)
theorem fl_X8_161 : xFl RX8 161 "TaleTypesModel" "deeds" "I" := Or.inl (xWd.at (i := 634) (by decide +kernel) (by decide +kernel))
theorem fw_X8_161 : xWd (.fieldLink RX8 161 "TaleTypesModel" "deeds" "I") := xWd.at (i := 634) (by decide +kernel) (by decide +kernel)
theorem fl_X8_16 : xFl RX8 16 "TaleTypesModel" "images" "[I" := Or.inl (xWd.at (i := 635) (by decide +kernel) (by decide +kernel))
theorem fw_X8_16 : xWd (.fieldLink RX8 16 "TaleTypesModel" "images" "[I") := xWd.at (i := 635) (by decide +kernel) (by decide +kernel)
theorem fl_X8_19 : xFl RX8 19 "TaleTypesModel" "isKept" "[Z" := Or.inl (xWd.at (i := 636) (by decide +kernel) (by decide +kernel))
theorem fw_X8_19 : xWd (.fieldLink RX8 19 "TaleTypesModel" "isKept" "[Z") := xWd.at (i := 636) (by decide +kernel) (by decide +kernel)
theorem fl_X8_23 : xFl RX8 23 "TaleTypesModel" "typed" "[I" := Or.inl (xWd.at (i := 637) (by decide +kernel) (by decide +kernel))
theorem fw_X8_23 : xWd (.fieldLink RX8 23 "TaleTypesModel" "typed" "[I") := xWd.at (i := 637) (by decide +kernel) (by decide +kernel)
theorem fl_X8_149 : xFl RX8 149 "TaleTypesModel" "typedMany" "I" := Or.inl (xWd.at (i := 638) (by decide +kernel) (by decide +kernel))
theorem fw_X8_149 : xWd (.fieldLink RX8 149 "TaleTypesModel" "typedMany" "I") := xWd.at (i := 638) (by decide +kernel) (by decide +kernel)
theorem fl_X8_26 : xFl RX8 26 "TaleTypesModel" "book" "[I" := Or.inl (xWd.at (i := 639) (by decide +kernel) (by decide +kernel))
theorem fw_X8_26 : xWd (.fieldLink RX8 26 "TaleTypesModel" "book" "[I") := xWd.at (i := 639) (by decide +kernel) (by decide +kernel)
theorem fl_X8_168 : xFl RX8 168 "TaleTypesModel" "entries" "I" := Or.inl (xWd.at (i := 640) (by decide +kernel) (by decide +kernel))
theorem fw_X8_168 : xWd (.fieldLink RX8 168 "TaleTypesModel" "entries" "I") := xWd.at (i := 640) (by decide +kernel) (by decide +kernel)
theorem fl_X8_205 : xFl RX8 205 "TaleTypesModel" "seed" "I" := Or.inl (xWd.at (i := 641) (by decide +kernel) (by decide +kernel))
theorem fw_X8_205 : xWd (.fieldLink RX8 205 "TaleTypesModel" "seed" "I") := xWd.at (i := 641) (by decide +kernel) (by decide +kernel)
theorem fl_X8_29 : xFl RX8 29 "TaleTypesModel" "one" "[I" := Or.inl (xWd.at (i := 642) (by decide +kernel) (by decide +kernel))
theorem fw_X8_29 : xWd (.fieldLink RX8 29 "TaleTypesModel" "one" "[I") := xWd.at (i := 642) (by decide +kernel) (by decide +kernel)
theorem fl_X8_66 : xFl RX8 66 "TaleTypesModel" "oneMany" "I" := Or.inl (xWd.at (i := 643) (by decide +kernel) (by decide +kernel))
theorem fw_X8_66 : xWd (.fieldLink RX8 66 "TaleTypesModel" "oneMany" "I") := xWd.at (i := 643) (by decide +kernel) (by decide +kernel)
theorem fl_X8_32 : xFl RX8 32 "TaleTypesModel" "other" "[I" := Or.inl (xWd.at (i := 644) (by decide +kernel) (by decide +kernel))
theorem fw_X8_32 : xWd (.fieldLink RX8 32 "TaleTypesModel" "other" "[I") := xWd.at (i := 644) (by decide +kernel) (by decide +kernel)
theorem fl_X8_70 : xFl RX8 70 "TaleTypesModel" "otherMany" "I" := Or.inl (xWd.at (i := 645) (by decide +kernel) (by decide +kernel))
theorem fw_X8_70 : xWd (.fieldLink RX8 70 "TaleTypesModel" "otherMany" "I") := xWd.at (i := 645) (by decide +kernel) (by decide +kernel)
theorem fl_X8_35 : xFl RX8 35 "TaleTypesModel" "sums" "[I" := Or.inl (xWd.at (i := 646) (by decide +kernel) (by decide +kernel))
theorem fw_X8_35 : xWd (.fieldLink RX8 35 "TaleTypesModel" "sums" "[I") := xWd.at (i := 646) (by decide +kernel) (by decide +kernel)
theorem fl_X8_38 : xFl RX8 38 "TaleTypesModel" "ways" "[I" := Or.inl (xWd.at (i := 647) (by decide +kernel) (by decide +kernel))
theorem fw_X8_38 : xWd (.fieldLink RX8 38 "TaleTypesModel" "ways" "[I") := xWd.at (i := 647) (by decide +kernel) (by decide +kernel)
theorem fl_X8_41 : xFl RX8 41 "TaleTypesModel" "way" "[I" := Or.inl (xWd.at (i := 648) (by decide +kernel) (by decide +kernel))
theorem fw_X8_41 : xWd (.fieldLink RX8 41 "TaleTypesModel" "way" "[I") := xWd.at (i := 648) (by decide +kernel) (by decide +kernel)
theorem fl_X8_44 : xFl RX8 44 "TaleTypesModel" "inBoth" "[I" := Or.inl (xWd.at (i := 649) (by decide +kernel) (by decide +kernel))
theorem fw_X8_44 : xWd (.fieldLink RX8 44 "TaleTypesModel" "inBoth" "[I") := xWd.at (i := 649) (by decide +kernel) (by decide +kernel)
theorem fl_X8_47 : xFl RX8 47 "TaleTypesModel" "far" "[I" := Or.inl (xWd.at (i := 650) (by decide +kernel) (by decide +kernel))
theorem fw_X8_47 : xWd (.fieldLink RX8 47 "TaleTypesModel" "far" "[I") := xWd.at (i := 650) (by decide +kernel) (by decide +kernel)
theorem fl_X8_50 : xFl RX8 50 "TaleTypesModel" "typeSets" "[I" := Or.inl (xWd.at (i := 651) (by decide +kernel) (by decide +kernel))
theorem fw_X8_50 : xWd (.fieldLink RX8 50 "TaleTypesModel" "typeSets" "[I") := xWd.at (i := 651) (by decide +kernel) (by decide +kernel)
theorem fl_X8_124 : xFl RX8 124 "TaleTypesModel" "typesMany" "I" := Or.inl (xWd.at (i := 652) (by decide +kernel) (by decide +kernel))
theorem fw_X8_124 : xWd (.fieldLink RX8 124 "TaleTypesModel" "typesMany" "I") := xWd.at (i := 652) (by decide +kernel) (by decide +kernel)
theorem fl_X8_53 : xFl RX8 53 "TaleTypesModel" "nodes" "[I" := Or.inl (xWd.at (i := 653) (by decide +kernel) (by decide +kernel))
theorem fw_X8_53 : xWd (.fieldLink RX8 53 "TaleTypesModel" "nodes" "[I") := xWd.at (i := 653) (by decide +kernel) (by decide +kernel)
theorem fl_X8_56 : xFl RX8 56 "TaleTypesModel" "firsts" "[I" := Or.inl (xWd.at (i := 654) (by decide +kernel) (by decide +kernel))
theorem fw_X8_56 : xWd (.fieldLink RX8 56 "TaleTypesModel" "firsts" "[I") := xWd.at (i := 654) (by decide +kernel) (by decide +kernel)
theorem fl_X8_59 : xFl RX8 59 "TaleTypesModel" "heights" "[I" := Or.inl (xWd.at (i := 655) (by decide +kernel) (by decide +kernel))
theorem fw_X8_59 : xWd (.fieldLink RX8 59 "TaleTypesModel" "heights" "[I") := xWd.at (i := 655) (by decide +kernel) (by decide +kernel)
theorem ac_Jvm_ClassFile_FieldType_boolean : xWd (.arrayClass Jvm.ClassFile.FieldType.boolean) := xWd.at (i := 705) (by decide +kernel) (by decide +kernel)
theorem ml_L_17 : xWd (.methodLink RL 17 yX8_feed) := xWd.at (i := 706) (by decide +kernel) (by decide +kernel)
theorem im_yX8_feed : xWd (.instanceMethod yX8_feed) := xWd.at (i := 707) (by decide +kernel) (by decide +kernel)
theorem ml_X8_62 : xWd (.methodLink RX8 62 yX8_in) := xWd.at (i := 710) (by decide +kernel) (by decide +kernel)
theorem sm_yX8_in : xWd (.static yX8_in) := xWd.at (i := 711) (by decide +kernel) (by decide +kernel)
theorem kc_X8_159 : xWd (.constant RX8 159 (-1000000002)) := xWd.at (i := 713) (by decide +kernel) (by decide +kernel)
theorem kc_X8_160 : xWd (.constant RX8 160 (-1000000004)) := xWd.at (i := 714) (by decide +kernel) (by decide +kernel)
theorem ml_L_22 : xWd (.methodLink RL 22 yX8_tale) := xWd.at (i := 715) (by decide +kernel) (by decide +kernel)
theorem im_yX8_tale : xWd (.instanceMethod yX8_tale) := xWd.at (i := 716) (by decide +kernel) (by decide +kernel)
theorem kc_X8_164 : xWd (.constant RX8 164 (-1000000003)) := xWd.at (i := 719) (by decide +kernel) (by decide +kernel)
theorem ml_X8_165 : xWd (.methodLink RX8 165 yX8_notes) := xWd.at (i := 720) (by decide +kernel) (by decide +kernel)
theorem im_yX8_notes : xWd (.instanceMethod yX8_notes) := xWd.at (i := 722) (by decide +kernel) (by decide +kernel)
theorem ml_X8_73 : xWd (.methodLink RX8 73 yX8_bring) := xWd.at (i := 724) (by decide +kernel) (by decide +kernel)
theorem sm_yX8_bring : xWd (.static yX8_bring) := xWd.at (i := 725) (by decide +kernel) (by decide +kernel)
theorem ml_L_26 : xWd (.methodLink RL 26 yX8_told) := xWd.at (i := 727) (by decide +kernel) (by decide +kernel)
theorem im_yX8_told : xWd (.instanceMethod yX8_told) := xWd.at (i := 728) (by decide +kernel) (by decide +kernel)
theorem ml_X8_142 : xWd (.methodLink RX8 142 yX8_nodesMany) := xWd.at (i := 731) (by decide +kernel) (by decide +kernel)
theorem im_yX8_nodesMany : xWd (.instanceMethod yX8_nodesMany) := xWd.at (i := 733) (by decide +kernel) (by decide +kernel)
theorem ml_X8_174 : xWd (.methodLink RX8 174 yX8_likeTyped) := xWd.at (i := 735) (by decide +kernel) (by decide +kernel)
theorem im_yX8_likeTyped : xWd (.instanceMethod yX8_likeTyped) := xWd.at (i := 737) (by decide +kernel) (by decide +kernel)
theorem kc_X8_84 : xWd (.constant RX8 84 (100000)) := xWd.at (i := 739) (by decide +kernel) (by decide +kernel)
theorem ml_X8_103 : xWd (.methodLink RX8 103 yX8_takes) := xWd.at (i := 740) (by decide +kernel) (by decide +kernel)
theorem im_yX8_takes : xWd (.instanceMethod yX8_takes) := xWd.at (i := 742) (by decide +kernel) (by decide +kernel)
theorem ml_X8_107 : xWd (.methodLink RX8 107 yX8_linesUp) := xWd.at (i := 744) (by decide +kernel) (by decide +kernel)
theorem im_yX8_linesUp : xWd (.instanceMethod yX8_linesUp) := xWd.at (i := 746) (by decide +kernel) (by decide +kernel)
theorem ml_X8_89 : xWd (.methodLink RX8 89 yX8_stepCost) := xWd.at (i := 748) (by decide +kernel) (by decide +kernel)
theorem im_yX8_stepCost : xWd (.instanceMethod yX8_stepCost) := xWd.at (i := 750) (by decide +kernel) (by decide +kernel)
theorem ml_X8_81 : xWd (.methodLink RX8 81 yX8_changeOf) := xWd.at (i := 752) (by decide +kernel) (by decide +kernel)
theorem im_yX8_changeOf : xWd (.instanceMethod yX8_changeOf) := xWd.at (i := 754) (by decide +kernel) (by decide +kernel)
theorem ml_X8_77 : xWd (.methodLink RX8 77 yX8_lesser) := xWd.at (i := 756) (by decide +kernel) (by decide +kernel)
theorem sm_yX8_lesser : xWd (.static yX8_lesser) := xWd.at (i := 757) (by decide +kernel) (by decide +kernel)
theorem ml_X8_85 : xWd (.methodLink RX8 85 yX8_isTurned) := xWd.at (i := 759) (by decide +kernel) (by decide +kernel)
theorem im_yX8_isTurned : xWd (.instanceMethod yX8_isTurned) := xWd.at (i := 761) (by decide +kernel) (by decide +kernel)
theorem ml_X8_93 : xWd (.methodLink RX8 93 yX8_firstBy) := xWd.at (i := 763) (by decide +kernel) (by decide +kernel)
theorem sm_yX8_firstBy : xWd (.static yX8_firstBy) := xWd.at (i := 764) (by decide +kernel) (by decide +kernel)
theorem ml_X8_97 : xWd (.methodLink RX8 97 yX8_otherBy) := xWd.at (i := 766) (by decide +kernel) (by decide +kernel)
theorem sm_yX8_otherBy : xWd (.static yX8_otherBy) := xWd.at (i := 767) (by decide +kernel) (by decide +kernel)
theorem ml_X8_100 : xWd (.methodLink RX8 100 yX8_cellOf) := xWd.at (i := 769) (by decide +kernel) (by decide +kernel)
theorem sm_yX8_cellOf : xWd (.static yX8_cellOf) := xWd.at (i := 770) (by decide +kernel) (by decide +kernel)
theorem ml_X8_177 : xWd (.methodLink RX8 177 yX8_allHave) := xWd.at (i := 772) (by decide +kernel) (by decide +kernel)
theorem im_yX8_allHave : xWd (.instanceMethod yX8_allHave) := xWd.at (i := 774) (by decide +kernel) (by decide +kernel)
theorem ml_X8_118 : xWd (.methodLink RX8 118 yX8_has) := xWd.at (i := 776) (by decide +kernel) (by decide +kernel)
theorem sm_yX8_has : xWd (.static yX8_has) := xWd.at (i := 777) (by decide +kernel) (by decide +kernel)
theorem ml_X8_180 : xWd (.methodLink RX8 180 yX8_wrong) := xWd.at (i := 779) (by decide +kernel) (by decide +kernel)
theorem im_yX8_wrong : xWd (.instanceMethod yX8_wrong) := xWd.at (i := 781) (by decide +kernel) (by decide +kernel)
theorem ml_X8_171 : xWd (.methodLink RX8 171 yX8_isTale) := xWd.at (i := 783) (by decide +kernel) (by decide +kernel)
theorem im_yX8_isTale : xWd (.instanceMethod yX8_isTale) := xWd.at (i := 785) (by decide +kernel) (by decide +kernel)
theorem ml_X8_111 : xWd (.methodLink RX8 111 yX8_apart) := xWd.at (i := 787) (by decide +kernel) (by decide +kernel)
theorem im_yX8_apart : xWd (.instanceMethod yX8_apart) := xWd.at (i := 789) (by decide +kernel) (by decide +kernel)
theorem ml_L_31 : xWd (.methodLink RL 31 yX8_taleAt) := xWd.at (i := 791) (by decide +kernel) (by decide +kernel)
theorem im_yX8_taleAt : xWd (.instanceMethod yX8_taleAt) := xWd.at (i := 792) (by decide +kernel) (by decide +kernel)
theorem kc_X8_183 : xWd (.constant RX8 183 (-1000000001)) := xWd.at (i := 795) (by decide +kernel) (by decide +kernel)
theorem ml_X8_184 : xWd (.methodLink RX8 184 yX8_wanders) := xWd.at (i := 796) (by decide +kernel) (by decide +kernel)
theorem im_yX8_wanders : xWd (.instanceMethod yX8_wanders) := xWd.at (i := 798) (by decide +kernel) (by decide +kernel)
theorem ml_X8_156 : xWd (.methodLink RX8 156 yX8_over) := xWd.at (i := 800) (by decide +kernel) (by decide +kernel)
theorem im_yX8_over : xWd (.instanceMethod yX8_over) := xWd.at (i := 802) (by decide +kernel) (by decide +kernel)
theorem ml_X8_152 : xWd (.methodLink RX8 152 yX8_hangs) := xWd.at (i := 804) (by decide +kernel) (by decide +kernel)
theorem im_yX8_hangs : xWd (.instanceMethod yX8_hangs) := xWd.at (i := 806) (by decide +kernel) (by decide +kernel)
theorem ml_X8_121 : xWd (.methodLink RX8 121 yX8_ones) := xWd.at (i := 808) (by decide +kernel) (by decide +kernel)
theorem sm_yX8_ones : xWd (.static yX8_ones) := xWd.at (i := 809) (by decide +kernel) (by decide +kernel)
theorem ml_L_35 : xWd (.methodLink RL 35 yX8_motif) := xWd.at (i := 811) (by decide +kernel) (by decide +kernel)
theorem im_yX8_motif : xWd (.instanceMethod yX8_motif) := xWd.at (i := 812) (by decide +kernel) (by decide +kernel)
theorem ml_L_39 : xWd (.methodLink RL 39 yX8_costAt) := xWd.at (i := 815) (by decide +kernel) (by decide +kernel)
theorem im_yX8_costAt : xWd (.instanceMethod yX8_costAt) := xWd.at (i := 816) (by decide +kernel) (by decide +kernel)
theorem ml_L_44 : xWd (.methodLink RL 44 yX8_pair) := xWd.at (i := 819) (by decide +kernel) (by decide +kernel)
theorem im_yX8_pair : xWd (.instanceMethod yX8_pair) := xWd.at (i := 820) (by decide +kernel) (by decide +kernel)
theorem ml_X8_187 : xWd (.methodLink RX8 187 yX8_laysWay) := xWd.at (i := 823) (by decide +kernel) (by decide +kernel)
theorem im_yX8_laysWay : xWd (.instanceMethod yX8_laysWay) := xWd.at (i := 825) (by decide +kernel) (by decide +kernel)
theorem ml_X8_114 : xWd (.methodLink RX8 114 yX8_isOfLeast) := xWd.at (i := 827) (by decide +kernel) (by decide +kernel)
theorem im_yX8_isOfLeast : xWd (.instanceMethod yX8_isOfLeast) := xWd.at (i := 829) (by decide +kernel) (by decide +kernel)
theorem ml_X8_190 : xWd (.methodLink RX8 190 yX8_commonOrder) := xWd.at (i := 831) (by decide +kernel) (by decide +kernel)
theorem im_yX8_commonOrder : xWd (.instanceMethod yX8_commonOrder) := xWd.at (i := 833) (by decide +kernel) (by decide +kernel)
theorem ml_L_48 : xWd (.methodLink RL 48 yX8_step) := xWd.at (i := 835) (by decide +kernel) (by decide +kernel)
theorem im_yX8_step : xWd (.instanceMethod yX8_step) := xWd.at (i := 836) (by decide +kernel) (by decide +kernel)
theorem ml_L_52 : xWd (.methodLink RL 52 yX8_node) := xWd.at (i := 839) (by decide +kernel) (by decide +kernel)
theorem im_yX8_node : xWd (.instanceMethod yX8_node) := xWd.at (i := 840) (by decide +kernel) (by decide +kernel)
theorem ml_X8_193 : xWd (.methodLink RX8 193 yX8_laysNodes) := xWd.at (i := 843) (by decide +kernel) (by decide +kernel)
theorem im_yX8_laysNodes : xWd (.instanceMethod yX8_laysNodes) := xWd.at (i := 845) (by decide +kernel) (by decide +kernel)
theorem ml_X8_139 : xWd (.methodLink RX8 139 yX8_beginsTypes) := xWd.at (i := 847) (by decide +kernel) (by decide +kernel)
theorem im_yX8_beginsTypes : xWd (.instanceMethod yX8_beginsTypes) := xWd.at (i := 849) (by decide +kernel) (by decide +kernel)
theorem ml_X8_136 : xWd (.methodLink RX8 136 yX8_laysFar) := xWd.at (i := 851) (by decide +kernel) (by decide +kernel)
theorem im_yX8_laysFar : xWd (.instanceMethod yX8_laysFar) := xWd.at (i := 853) (by decide +kernel) (by decide +kernel)
theorem ml_X8_145 : xWd (.methodLink RX8 145 yX8_joinsOnce) := xWd.at (i := 855) (by decide +kernel) (by decide +kernel)
theorem im_yX8_joinsOnce : xWd (.instanceMethod yX8_joinsOnce) := xWd.at (i := 857) (by decide +kernel) (by decide +kernel)
theorem ml_X8_127 : xWd (.methodLink RX8 127 yX8_nearBy) := xWd.at (i := 859) (by decide +kernel) (by decide +kernel)
theorem im_yX8_nearBy : xWd (.instanceMethod yX8_nearBy) := xWd.at (i := 861) (by decide +kernel) (by decide +kernel)
theorem ml_X8_130 : xWd (.methodLink RX8 130 yX8_partsOf) := xWd.at (i := 863) (by decide +kernel) (by decide +kernel)
theorem im_yX8_partsOf : xWd (.instanceMethod yX8_partsOf) := xWd.at (i := 865) (by decide +kernel) (by decide +kernel)
theorem ml_X8_133 : xWd (.methodLink RX8 133 yX8_joins) := xWd.at (i := 867) (by decide +kernel) (by decide +kernel)
theorem im_yX8_joins : xWd (.instanceMethod yX8_joins) := xWd.at (i := 869) (by decide +kernel) (by decide +kernel)
theorem ml_X8_196 : xWd (.methodLink RX8 196 yX8_middleOf) := xWd.at (i := 871) (by decide +kernel) (by decide +kernel)
theorem im_yX8_middleOf : xWd (.instanceMethod yX8_middleOf) := xWd.at (i := 873) (by decide +kernel) (by decide +kernel)
theorem ml_L_56 : xWd (.methodLink RL 56 yX8_types) := xWd.at (i := 875) (by decide +kernel) (by decide +kernel)
theorem im_yX8_types : xWd (.instanceMethod yX8_types) := xWd.at (i := 876) (by decide +kernel) (by decide +kernel)
theorem ml_L_60 : xWd (.methodLink RL 60 yX8_middle) := xWd.at (i := 879) (by decide +kernel) (by decide +kernel)
theorem im_yX8_middle : xWd (.instanceMethod yX8_middle) := xWd.at (i := 880) (by decide +kernel) (by decide +kernel)
theorem ml_X8_199 : xWd (.methodLink RX8 199 yX8_areTales) := xWd.at (i := 883) (by decide +kernel) (by decide +kernel)
theorem im_yX8_areTales : xWd (.instanceMethod yX8_areTales) := xWd.at (i := 885) (by decide +kernel) (by decide +kernel)
theorem ml_L_64 : xWd (.methodLink RL 64 yX8_common) := xWd.at (i := 887) (by decide +kernel) (by decide +kernel)
theorem im_yX8_common : xWd (.instanceMethod yX8_common) := xWd.at (i := 888) (by decide +kernel) (by decide +kernel)
theorem ml_L_68 : xWd (.methodLink RL 68 yX8_wandered) := xWd.at (i := 891) (by decide +kernel) (by decide +kernel)
theorem im_yX8_wandered : xWd (.instanceMethod yX8_wandered) := xWd.at (i := 892) (by decide +kernel) (by decide +kernel)
theorem ml_L_72 : xWd (.methodLink RL 72 yX8_take) := xWd.at (i := 895) (by decide +kernel) (by decide +kernel)
theorem im_yX8_take : xWd (.instanceMethod yX8_take) := xWd.at (i := 896) (by decide +kernel) (by decide +kernel)
theorem ml_L_76 : xWd (.methodLink RL 76 yX8_cost) := xWd.at (i := 899) (by decide +kernel) (by decide +kernel)
theorem im_yX8_cost : xWd (.instanceMethod yX8_cost) := xWd.at (i := 900) (by decide +kernel) (by decide +kernel)
theorem ml_L_80 : xWd (.methodLink RL 80 yX8_kind) := xWd.at (i := 903) (by decide +kernel) (by decide +kernel)
theorem im_yX8_kind : xWd (.instanceMethod yX8_kind) := xWd.at (i := 904) (by decide +kernel) (by decide +kernel)
theorem ml_L_85 : xWd (.methodLink RL 85 yX8_road) := xWd.at (i := 907) (by decide +kernel) (by decide +kernel)
theorem im_yX8_road : xWd (.instanceMethod yX8_road) := xWd.at (i := 908) (by decide +kernel) (by decide +kernel)
theorem ml_X8_202 : xWd (.methodLink RX8 202 yX8_isPlace) := xWd.at (i := 911) (by decide +kernel) (by decide +kernel)
theorem sm_yX8_isPlace : xWd (.static yX8_isPlace) := xWd.at (i := 912) (by decide +kernel) (by decide +kernel)
theorem ml_L_89 : xWd (.methodLink RL 89 yX8_at) := xWd.at (i := 914) (by decide +kernel) (by decide +kernel)
theorem im_yX8_at : xWd (.instanceMethod yX8_at) := xWd.at (i := 915) (by decide +kernel) (by decide +kernel)
theorem ml_L_93 : xWd (.methodLink RL 93 yX8_drift) := xWd.at (i := 918) (by decide +kernel) (by decide +kernel)
theorem im_yX8_drift : xWd (.instanceMethod yX8_drift) := xWd.at (i := 919) (by decide +kernel) (by decide +kernel)
theorem ml_X8_215 : xWd (.methodLink RX8 215 yX8_draw) := xWd.at (i := 922) (by decide +kernel) (by decide +kernel)
theorem im_yX8_draw : xWd (.instanceMethod yX8_draw) := xWd.at (i := 924) (by decide +kernel) (by decide +kernel)
theorem kl_X8_208 : xWd (.constantLong RX8 208 (1103515245)) := xWd.at (i := 926) (by decide +kernel) (by decide +kernel)
theorem kl_X8_210 : xWd (.constantLong RX8 210 (12345)) := xWd.at (i := 927) (by decide +kernel) (by decide +kernel)
theorem kl_X8_212 : xWd (.constantLong RX8 212 (2147483648)) := xWd.at (i := 928) (by decide +kernel) (by decide +kernel)
theorem kc_X8_214 : xWd (.constant RX8 214 (65536)) := xWd.at (i := 929) (by decide +kernel) (by decide +kernel)
theorem ml_L_97 : xWd (.methodLink RL 97 yX8_undo) := xWd.at (i := 930) (by decide +kernel) (by decide +kernel)
theorem im_yX8_undo : xWd (.instanceMethod yX8_undo) := xWd.at (i := 931) (by decide +kernel) (by decide +kernel)
theorem ml_L_101 : xWd (.methodLink RL 101 yX8_write) := xWd.at (i := 934) (by decide +kernel) (by decide +kernel)
theorem im_yX8_write : xWd (.instanceMethod yX8_write) := xWd.at (i := 935) (by decide +kernel) (by decide +kernel)
theorem ml_L_105 : xWd (.methodLink RL 105 yX8_tear) := xWd.at (i := 938) (by decide +kernel) (by decide +kernel)
theorem im_yX8_tear : xWd (.instanceMethod yX8_tear) := xWd.at (i := 939) (by decide +kernel) (by decide +kernel)
theorem ml_L_109 : xWd (.methodLink RL 109 yX8_seed) := xWd.at (i := 942) (by decide +kernel) (by decide +kernel)
theorem im_yX8_seed : xWd (.instanceMethod yX8_seed) := xWd.at (i := 943) (by decide +kernel) (by decide +kernel)
theorem ml_L_113 : xWd (.methodLink RL 113 yX8_keep) := xWd.at (i := 946) (by decide +kernel) (by decide +kernel)
theorem im_yX8_keep : xWd (.instanceMethod yX8_keep) := xWd.at (i := 947) (by decide +kernel) (by decide +kernel)
theorem ml_L_117 : xWd (.methodLink RL 117 yX8_goBack) := xWd.at (i := 950) (by decide +kernel) (by decide +kernel)
theorem im_yX8_goBack : xWd (.instanceMethod yX8_goBack) := xWd.at (i := 951) (by decide +kernel) (by decide +kernel)
theorem it_TaleTypesLaw : xWd (.initialized "TaleTypesLaw") := xWd.at (i := 47) (by decide +kernel) (by decide +kernel)
theorem it_TaleTypes : xWd (.initialized "TaleTypes") := xWd.at (i := 48) (by decide +kernel) (by decide +kernel)
theorem it_TaleTypes_State : xWd (.initialized "TaleTypes$State") := xWd.at (i := 49) (by decide +kernel) (by decide +kernel)
theorem it_TaleTypes_Deeds : xWd (.initialized "TaleTypes$Deeds") := xWd.at (i := 50) (by decide +kernel) (by decide +kernel)
theorem it_TaleTypes_Book : xWd (.initialized "TaleTypes$Book") := xWd.at (i := 51) (by decide +kernel) (by decide +kernel)
theorem it_TaleTypes_Lineup : xWd (.initialized "TaleTypes$Lineup") := xWd.at (i := 52) (by decide +kernel) (by decide +kernel)
theorem it_TaleTypes_Distances : xWd (.initialized "TaleTypes$Distances") := xWd.at (i := 53) (by decide +kernel) (by decide +kernel)
theorem it_TaleTypes_Tree : xWd (.initialized "TaleTypes$Tree") := xWd.at (i := 54) (by decide +kernel) (by decide +kernel)
theorem it_TaleTypes_Image : xWd (.initialized "TaleTypes$Image") := xWd.at (i := 55) (by decide +kernel) (by decide +kernel)
theorem it_TaleTypesModel : xWd (.initialized "TaleTypesModel") := xWd.at (i := 56) (by decide +kernel) (by decide +kernel)
theorem it_java_lang_System : xWd (.initialized "java/lang/System") := xWd.at (i := 57) (by decide +kernel) (by decide +kernel)
theorem it_java_lang_Math : xWd (.initialized "java/lang/Math") := xWd.at (i := 58) (by decide +kernel) (by decide +kernel)
theorem it_java_lang_Integer : xWd (.initialized "java/lang/Integer") := xWd.at (i := 59) (by decide +kernel) (by decide +kernel)
theorem se_yX7_beginDeed : xWd (.selects RX7 yX7_beginDeed yX7_beginDeed) := xWd.at (i := 0) (by decide +kernel) (by decide +kernel)
theorem se_yX7_nodeCount : xWd (.selects RX7 yX7_nodeCount yX7_nodeCount) := xWd.at (i := 1) (by decide +kernel) (by decide +kernel)
theorem se_yX7_likeTyped : xWd (.selects RX7 yX7_likeTyped yX7_likeTyped) := xWd.at (i := 2) (by decide +kernel) (by decide +kernel)
theorem se_yX4_leastFrom : xWd (.selects RX4 yX4_leastFrom yX4_leastFrom) := xWd.at (i := 3) (by decide +kernel) (by decide +kernel)
theorem se_yX4_sumThrough : xWd (.selects RX4 yX4_sumThrough yX4_sumThrough) := xWd.at (i := 4) (by decide +kernel) (by decide +kernel)
theorem se_yX4_isTurned : xWd (.selects RX4 yX4_isTurned yX4_isTurned) := xWd.at (i := 5) (by decide +kernel) (by decide +kernel)
theorem se_yX7_allTales : xWd (.selects RX7 yX7_allTales yX7_allTales) := xWd.at (i := 6) (by decide +kernel) (by decide +kernel)
theorem se_yX7_measureAnew : xWd (.selects RX7 yX7_measureAnew yX7_measureAnew) := xWd.at (i := 7) (by decide +kernel) (by decide +kernel)
theorem se_yX6_findNearest : xWd (.selects RX6 yX6_findNearest yX6_findNearest) := xWd.at (i := 8) (by decide +kernel) (by decide +kernel)
theorem se_yX6_compareTypes : xWd (.selects RX6 yX6_compareTypes yX6_compareTypes) := xWd.at (i := 9) (by decide +kernel) (by decide +kernel)
theorem se_yX6_joinNearest : xWd (.selects RX6 yX6_joinNearest yX6_joinNearest) := xWd.at (i := 10) (by decide +kernel) (by decide +kernel)
theorem se_yX7_isTale : xWd (.selects RX7 yX7_isTale yX7_isTale) := xWd.at (i := 11) (by decide +kernel) (by decide +kernel)
theorem se_yX4_rowsFrom : xWd (.selects RX4 yX4_rowsFrom yX4_rowsFrom) := xWd.at (i := 12) (by decide +kernel) (by decide +kernel)
theorem se_yX4_leastStep : xWd (.selects RX4 yX4_leastStep yX4_leastStep) := xWd.at (i := 13) (by decide +kernel) (by decide +kernel)
theorem se_yX4_sharedFrom : xWd (.selects RX4 yX4_sharedFrom yX4_sharedFrom) := xWd.at (i := 14) (by decide +kernel) (by decide +kernel)
theorem se_yX2_sumTo : xWd (.selects RX2 yX2_sumTo yX2_sumTo) := xWd.at (i := 15) (by decide +kernel) (by decide +kernel)
theorem se_yX7_areTales : xWd (.selects RX7 yX7_areTales yX7_areTales) := xWd.at (i := 16) (by decide +kernel) (by decide +kernel)
theorem se_yX7_addDrawn : xWd (.selects RX7 yX7_addDrawn yX7_addDrawn) := xWd.at (i := 17) (by decide +kernel) (by decide +kernel)
theorem se_yX7_draw : xWd (.selects RX7 yX7_draw yX7_draw) := xWd.at (i := 18) (by decide +kernel) (by decide +kernel)
theorem se_yX8_notes : xWd (.selects RX8 yX8_notes yX8_notes) := xWd.at (i := 19) (by decide +kernel) (by decide +kernel)
theorem se_yX8_nodesMany : xWd (.selects RX8 yX8_nodesMany yX8_nodesMany) := xWd.at (i := 20) (by decide +kernel) (by decide +kernel)
theorem se_yX8_likeTyped : xWd (.selects RX8 yX8_likeTyped yX8_likeTyped) := xWd.at (i := 21) (by decide +kernel) (by decide +kernel)
theorem se_yX8_takes : xWd (.selects RX8 yX8_takes yX8_takes) := xWd.at (i := 22) (by decide +kernel) (by decide +kernel)
theorem se_yX8_linesUp : xWd (.selects RX8 yX8_linesUp yX8_linesUp) := xWd.at (i := 23) (by decide +kernel) (by decide +kernel)
theorem se_yX8_stepCost : xWd (.selects RX8 yX8_stepCost yX8_stepCost) := xWd.at (i := 24) (by decide +kernel) (by decide +kernel)
theorem se_yX8_changeOf : xWd (.selects RX8 yX8_changeOf yX8_changeOf) := xWd.at (i := 25) (by decide +kernel) (by decide +kernel)
theorem se_yX8_isTurned : xWd (.selects RX8 yX8_isTurned yX8_isTurned) := xWd.at (i := 26) (by decide +kernel) (by decide +kernel)
theorem se_yX8_allHave : xWd (.selects RX8 yX8_allHave yX8_allHave) := xWd.at (i := 27) (by decide +kernel) (by decide +kernel)
theorem se_yX8_wrong : xWd (.selects RX8 yX8_wrong yX8_wrong) := xWd.at (i := 28) (by decide +kernel) (by decide +kernel)
theorem se_yX8_isTale : xWd (.selects RX8 yX8_isTale yX8_isTale) := xWd.at (i := 29) (by decide +kernel) (by decide +kernel)
theorem se_yX8_apart : xWd (.selects RX8 yX8_apart yX8_apart) := xWd.at (i := 30) (by decide +kernel) (by decide +kernel)
theorem se_yX8_wanders : xWd (.selects RX8 yX8_wanders yX8_wanders) := xWd.at (i := 31) (by decide +kernel) (by decide +kernel)
theorem se_yX8_over : xWd (.selects RX8 yX8_over yX8_over) := xWd.at (i := 32) (by decide +kernel) (by decide +kernel)
theorem se_yX8_hangs : xWd (.selects RX8 yX8_hangs yX8_hangs) := xWd.at (i := 33) (by decide +kernel) (by decide +kernel)
theorem se_yX8_laysWay : xWd (.selects RX8 yX8_laysWay yX8_laysWay) := xWd.at (i := 34) (by decide +kernel) (by decide +kernel)
theorem se_yX8_isOfLeast : xWd (.selects RX8 yX8_isOfLeast yX8_isOfLeast) := xWd.at (i := 35) (by decide +kernel) (by decide +kernel)
theorem se_yX8_commonOrder : xWd (.selects RX8 yX8_commonOrder yX8_commonOrder) := xWd.at (i := 36) (by decide +kernel) (by decide +kernel)
theorem se_yX8_laysNodes : xWd (.selects RX8 yX8_laysNodes yX8_laysNodes) := xWd.at (i := 37) (by decide +kernel) (by decide +kernel)
theorem se_yX8_beginsTypes : xWd (.selects RX8 yX8_beginsTypes yX8_beginsTypes) := xWd.at (i := 38) (by decide +kernel) (by decide +kernel)
theorem se_yX8_laysFar : xWd (.selects RX8 yX8_laysFar yX8_laysFar) := xWd.at (i := 39) (by decide +kernel) (by decide +kernel)
theorem se_yX8_joinsOnce : xWd (.selects RX8 yX8_joinsOnce yX8_joinsOnce) := xWd.at (i := 40) (by decide +kernel) (by decide +kernel)
theorem se_yX8_nearBy : xWd (.selects RX8 yX8_nearBy yX8_nearBy) := xWd.at (i := 41) (by decide +kernel) (by decide +kernel)
theorem se_yX8_partsOf : xWd (.selects RX8 yX8_partsOf yX8_partsOf) := xWd.at (i := 42) (by decide +kernel) (by decide +kernel)
theorem se_yX8_joins : xWd (.selects RX8 yX8_joins yX8_joins) := xWd.at (i := 43) (by decide +kernel) (by decide +kernel)
theorem se_yX8_middleOf : xWd (.selects RX8 yX8_middleOf yX8_middleOf) := xWd.at (i := 44) (by decide +kernel) (by decide +kernel)
theorem se_yX8_areTales : xWd (.selects RX8 yX8_areTales yX8_areTales) := xWd.at (i := 45) (by decide +kernel) (by decide +kernel)
theorem se_yX8_draw : xWd (.selects RX8 yX8_draw yX8_draw) := xWd.at (i := 46) (by decide +kernel) (by decide +kernel)
theorem se_yX7_feed : xWd (.selects RX7 yX7_feed yX7_feed) := xWd.at (i := 286) (by decide +kernel) (by decide +kernel)
theorem se_yX7_tale : xWd (.selects RX7 yX7_tale yX7_tale) := xWd.at (i := 299) (by decide +kernel) (by decide +kernel)
theorem se_yX1_remember : xWd (.selects RX1 yX1_remember yX1_remember) := xWd.at (i := 308) (by decide +kernel) (by decide +kernel)
theorem se_yX5_become : xWd (.selects RX5 yX5_become yX5_become) := xWd.at (i := 312) (by decide +kernel) (by decide +kernel)
theorem se_yX5_add : xWd (.selects RX5 yX5_add yX5_add) := xWd.at (i := 322) (by decide +kernel) (by decide +kernel)
theorem se_yX7_told : xWd (.selects RX7 yX7_told yX7_told) := xWd.at (i := 326) (by decide +kernel) (by decide +kernel)
theorem se_yX4_lineUp : xWd (.selects RX4 yX4_lineUp yX4_lineUp) := xWd.at (i := 338) (by decide +kernel) (by decide +kernel)
theorem se_yX4_apart : xWd (.selects RX4 yX4_apart yX4_apart) := xWd.at (i := 371) (by decide +kernel) (by decide +kernel)
theorem se_yX5_motifsOfAll : xWd (.selects RX5 yX5_motifsOfAll yX5_motifsOfAll) := xWd.at (i := 379) (by decide +kernel) (by decide +kernel)
theorem se_yX2_measure : xWd (.selects RX2 yX2_measure yX2_measure) := xWd.at (i := 391) (by decide +kernel) (by decide +kernel)
theorem se_yX6_grow : xWd (.selects RX6 yX6_grow yX6_grow) := xWd.at (i := 397) (by decide +kernel) (by decide +kernel)
theorem se_yX2_between : xWd (.selects RX2 yX2_between yX2_between) := xWd.at (i := 410) (by decide +kernel) (by decide +kernel)
theorem se_yX0_firstOtherwise : xWd (.selects RX0 yX0_firstOtherwise yX0_firstOtherwise) := xWd.at (i := 428) (by decide +kernel) (by decide +kernel)
theorem se_yX7_taleAt : xWd (.selects RX7 yX7_taleAt yX7_taleAt) := xWd.at (i := 433) (by decide +kernel) (by decide +kernel)
theorem se_yX7_motif : xWd (.selects RX7 yX7_motif yX7_motif) := xWd.at (i := 452) (by decide +kernel) (by decide +kernel)
theorem se_yX7_costAt : xWd (.selects RX7 yX7_costAt yX7_costAt) := xWd.at (i := 456) (by decide +kernel) (by decide +kernel)
theorem se_yX7_pair : xWd (.selects RX7 yX7_pair yX7_pair) := xWd.at (i := 460) (by decide +kernel) (by decide +kernel)
theorem se_yX4_ways : xWd (.selects RX4 yX4_ways yX4_ways) := xWd.at (i := 464) (by decide +kernel) (by decide +kernel)
theorem se_yX4_wayLength : xWd (.selects RX4 yX4_wayLength yX4_wayLength) := xWd.at (i := 472) (by decide +kernel) (by decide +kernel)
theorem se_yX4_commonLength : xWd (.selects RX4 yX4_commonLength yX4_commonLength) := xWd.at (i := 480) (by decide +kernel) (by decide +kernel)
theorem se_yX7_step : xWd (.selects RX7 yX7_step yX7_step) := xWd.at (i := 489) (by decide +kernel) (by decide +kernel)
theorem se_yX4_stepOfWay : xWd (.selects RX4 yX4_stepOfWay yX4_stepOfWay) := xWd.at (i := 493) (by decide +kernel) (by decide +kernel)
theorem se_yX7_node : xWd (.selects RX7 yX7_node yX7_node) := xWd.at (i := 498) (by decide +kernel) (by decide +kernel)
theorem se_yX2_middleOf : xWd (.selects RX2 yX2_middleOf yX2_middleOf) := xWd.at (i := 502) (by decide +kernel) (by decide +kernel)
theorem se_yX7_types : xWd (.selects RX7 yX7_types yX7_types) := xWd.at (i := 511) (by decide +kernel) (by decide +kernel)
theorem se_yX6_nodesUpTo : xWd (.selects RX6 yX6_nodesUpTo yX6_nodesUpTo) := xWd.at (i := 515) (by decide +kernel) (by decide +kernel)
theorem se_yX6_typeOf : xWd (.selects RX6 yX6_typeOf yX6_typeOf) := xWd.at (i := 519) (by decide +kernel) (by decide +kernel)
theorem se_yX7_middle : xWd (.selects RX7 yX7_middle yX7_middle) := xWd.at (i := 524) (by decide +kernel) (by decide +kernel)
theorem se_yX7_common : xWd (.selects RX7 yX7_common yX7_common) := xWd.at (i := 532) (by decide +kernel) (by decide +kernel)
theorem se_yX7_wandered : xWd (.selects RX7 yX7_wandered yX7_wandered) := xWd.at (i := 536) (by decide +kernel) (by decide +kernel)
theorem se_yX7_take : xWd (.selects RX7 yX7_take yX7_take) := xWd.at (i := 543) (by decide +kernel) (by decide +kernel)
theorem se_yX5_remove : xWd (.selects RX5 yX5_remove yX5_remove) := xWd.at (i := 547) (by decide +kernel) (by decide +kernel)
theorem se_yX7_cost : xWd (.selects RX7 yX7_cost yX7_cost) := xWd.at (i := 551) (by decide +kernel) (by decide +kernel)
theorem se_yX7_kind : xWd (.selects RX7 yX7_kind yX7_kind) := xWd.at (i := 555) (by decide +kernel) (by decide +kernel)
theorem se_yX7_road : xWd (.selects RX7 yX7_road yX7_road) := xWd.at (i := 559) (by decide +kernel) (by decide +kernel)
theorem se_yX5_setRoad : xWd (.selects RX5 yX5_setRoad yX5_setRoad) := xWd.at (i := 566) (by decide +kernel) (by decide +kernel)
theorem se_yX5_countRoads : xWd (.selects RX5 yX5_countRoads yX5_countRoads) := xWd.at (i := 570) (by decide +kernel) (by decide +kernel)
theorem se_yX7_at : xWd (.selects RX7 yX7_at yX7_at) := xWd.at (i := 575) (by decide +kernel) (by decide +kernel)
theorem se_yX7_drift : xWd (.selects RX7 yX7_drift yX7_drift) := xWd.at (i := 579) (by decide +kernel) (by decide +kernel)
theorem se_yX7_undo : xWd (.selects RX7 yX7_undo yX7_undo) := xWd.at (i := 595) (by decide +kernel) (by decide +kernel)
theorem se_yX1_takeBack : xWd (.selects RX1 yX1_takeBack yX1_takeBack) := xWd.at (i := 599) (by decide +kernel) (by decide +kernel)
theorem se_yX7_write : xWd (.selects RX7 yX7_write yX7_write) := xWd.at (i := 603) (by decide +kernel) (by decide +kernel)
theorem se_yX0_add : xWd (.selects RX0 yX0_add yX0_add) := xWd.at (i := 607) (by decide +kernel) (by decide +kernel)
theorem se_yX7_tear : xWd (.selects RX7 yX7_tear yX7_tear) := xWd.at (i := 611) (by decide +kernel) (by decide +kernel)
theorem se_yX7_seed : xWd (.selects RX7 yX7_seed yX7_seed) := xWd.at (i := 615) (by decide +kernel) (by decide +kernel)
theorem se_yX7_keep : xWd (.selects RX7 yX7_keep yX7_keep) := xWd.at (i := 619) (by decide +kernel) (by decide +kernel)
theorem se_yX7_goBack : xWd (.selects RX7 yX7_goBack yX7_goBack) := xWd.at (i := 624) (by decide +kernel) (by decide +kernel)
theorem se_yX8_feed : xWd (.selects RX8 yX8_feed yX8_feed) := xWd.at (i := 708) (by decide +kernel) (by decide +kernel)
theorem se_yX8_tale : xWd (.selects RX8 yX8_tale yX8_tale) := xWd.at (i := 717) (by decide +kernel) (by decide +kernel)
theorem se_yX8_told : xWd (.selects RX8 yX8_told yX8_told) := xWd.at (i := 729) (by decide +kernel) (by decide +kernel)
theorem se_yX8_taleAt : xWd (.selects RX8 yX8_taleAt yX8_taleAt) := xWd.at (i := 793) (by decide +kernel) (by decide +kernel)
theorem se_yX8_motif : xWd (.selects RX8 yX8_motif yX8_motif) := xWd.at (i := 813) (by decide +kernel) (by decide +kernel)
theorem se_yX8_costAt : xWd (.selects RX8 yX8_costAt yX8_costAt) := xWd.at (i := 817) (by decide +kernel) (by decide +kernel)
theorem se_yX8_pair : xWd (.selects RX8 yX8_pair yX8_pair) := xWd.at (i := 821) (by decide +kernel) (by decide +kernel)
theorem se_yX8_step : xWd (.selects RX8 yX8_step yX8_step) := xWd.at (i := 837) (by decide +kernel) (by decide +kernel)
theorem se_yX8_node : xWd (.selects RX8 yX8_node yX8_node) := xWd.at (i := 841) (by decide +kernel) (by decide +kernel)
theorem se_yX8_types : xWd (.selects RX8 yX8_types yX8_types) := xWd.at (i := 877) (by decide +kernel) (by decide +kernel)
theorem se_yX8_middle : xWd (.selects RX8 yX8_middle yX8_middle) := xWd.at (i := 881) (by decide +kernel) (by decide +kernel)
theorem se_yX8_common : xWd (.selects RX8 yX8_common yX8_common) := xWd.at (i := 889) (by decide +kernel) (by decide +kernel)
theorem se_yX8_wandered : xWd (.selects RX8 yX8_wandered yX8_wandered) := xWd.at (i := 893) (by decide +kernel) (by decide +kernel)
theorem se_yX8_take : xWd (.selects RX8 yX8_take yX8_take) := xWd.at (i := 897) (by decide +kernel) (by decide +kernel)
theorem se_yX8_cost : xWd (.selects RX8 yX8_cost yX8_cost) := xWd.at (i := 901) (by decide +kernel) (by decide +kernel)
theorem se_yX8_kind : xWd (.selects RX8 yX8_kind yX8_kind) := xWd.at (i := 905) (by decide +kernel) (by decide +kernel)
theorem se_yX8_road : xWd (.selects RX8 yX8_road yX8_road) := xWd.at (i := 909) (by decide +kernel) (by decide +kernel)
theorem se_yX8_at : xWd (.selects RX8 yX8_at yX8_at) := xWd.at (i := 916) (by decide +kernel) (by decide +kernel)
theorem se_yX8_drift : xWd (.selects RX8 yX8_drift yX8_drift) := xWd.at (i := 920) (by decide +kernel) (by decide +kernel)
theorem se_yX8_undo : xWd (.selects RX8 yX8_undo yX8_undo) := xWd.at (i := 932) (by decide +kernel) (by decide +kernel)
theorem se_yX8_write : xWd (.selects RX8 yX8_write yX8_write) := xWd.at (i := 936) (by decide +kernel) (by decide +kernel)
theorem se_yX8_tear : xWd (.selects RX8 yX8_tear yX8_tear) := xWd.at (i := 940) (by decide +kernel) (by decide +kernel)
theorem se_yX8_seed : xWd (.selects RX8 yX8_seed yX8_seed) := xWd.at (i := 944) (by decide +kernel) (by decide +kernel)
theorem se_yX8_keep : xWd (.selects RX8 yX8_keep yX8_keep) := xWd.at (i := 948) (by decide +kernel) (by decide +kernel)
theorem se_yX8_goBack : xWd (.selects RX8 yX8_goBack yX8_goBack) := xWd.at (i := 952) (by decide +kernel) (by decide +kernel)
theorem ce_yX7_init : xCe yX7_init cX7_init 2 none 0 := ⟨xWd.at (i := 64) (by decide +kernel) (by decide +kernel), it_TaleTypes, by decide +kernel, by decide +kernel⟩
theorem kd_Lib_objectInit : xWd (.code Lib.objectInit object_method_1_code 1 none) := xWd.at (i := 67) (by decide +kernel) (by decide +kernel)
theorem ce_yX5_init : xCe yX5_init cX5_init 1 none 0 := ⟨xWd.at (i := 72) (by decide +kernel) (by decide +kernel), it_TaleTypes_State, by decide +kernel, by decide +kernel⟩
theorem ce_yX1_init : xCe yX1_init cX1_init 2 none 0 := ⟨xWd.at (i := 108) (by decide +kernel) (by decide +kernel), it_TaleTypes_Deeds, by decide +kernel, by decide +kernel⟩
theorem ce_yX0_init : xCe yX0_init cX0_init 1 none 0 := ⟨xWd.at (i := 128) (by decide +kernel) (by decide +kernel), it_TaleTypes_Book, by decide +kernel, by decide +kernel⟩
theorem ce_yX4_init : xCe yX4_init cX4_init 1 none 0 := ⟨xWd.at (i := 148) (by decide +kernel) (by decide +kernel), it_TaleTypes_Lineup, by decide +kernel, by decide +kernel⟩
theorem ce_yX2_init : xCe yX2_init cX2_init 1 none 0 := ⟨xWd.at (i := 182) (by decide +kernel) (by decide +kernel), it_TaleTypes_Distances, by decide +kernel, by decide +kernel⟩
theorem ce_yX6_init : xCe yX6_init cX6_init 1 none 0 := ⟨xWd.at (i := 192) (by decide +kernel) (by decide +kernel), it_TaleTypes_Tree, by decide +kernel, by decide +kernel⟩
theorem ce_yX3_init : xCe yX3_init cX3_init 1 none 0 := ⟨xWd.at (i := 236) (by decide +kernel) (by decide +kernel), it_TaleTypes_Image, by decide +kernel, by decide +kernel⟩
theorem ce_yX7_feed : xCe yX7_feed cX7_feed 2 (some .int) 1 := ⟨xWd.at (i := 287) (by decide +kernel) (by decide +kernel), it_TaleTypes, by decide +kernel, by decide +kernel⟩
theorem ce_yX7_lengthOf : xCe yX7_lengthOf cX7_lengthOf 2 (some .int) 1 := ⟨xWd.at (i := 291) (by decide +kernel) (by decide +kernel), it_TaleTypes, by decide +kernel, by decide +kernel⟩
theorem ce_yX7_longer : xCe yX7_longer cX7_longer 3 (some .long) 2 := ⟨xWd.at (i := 295) (by decide +kernel) (by decide +kernel), it_TaleTypes, by decide +kernel, by decide +kernel⟩
theorem ce_yX7_tale : xCe yX7_tale cX7_tale 1 (some .int) 0 := ⟨xWd.at (i := 300) (by decide +kernel) (by decide +kernel), it_TaleTypes, by decide +kernel, by decide +kernel⟩
theorem ce_yX7_beginDeed : xCe yX7_beginDeed cX7_beginDeed 1 none 0 := ⟨xWd.at (i := 305) (by decide +kernel) (by decide +kernel), it_TaleTypes, by decide +kernel, by decide +kernel⟩
theorem ce_yX1_remember : xCe yX1_remember cX1_remember 2 none 1 := ⟨xWd.at (i := 309) (by decide +kernel) (by decide +kernel), it_TaleTypes_Deeds, by decide +kernel, by decide +kernel⟩
theorem ce_yX5_become : xCe yX5_become cX5_become 2 none 1 := ⟨xWd.at (i := 313) (by decide +kernel) (by decide +kernel), it_TaleTypes_State, by decide +kernel, by decide +kernel⟩
theorem ce_yJ9_min_7cf53 : xCe yJ9_min_7cf53 cJ9_min_7cf53 2 (some .int) 2 := ⟨xWd.at (i := 319) (by decide +kernel) (by decide +kernel), it_java_lang_Math, by decide +kernel, by decide +kernel⟩
theorem ce_yX5_add : xCe yX5_add cX5_add 4 none 2 := ⟨xWd.at (i := 323) (by decide +kernel) (by decide +kernel), it_TaleTypes_State, by decide +kernel, by decide +kernel⟩
theorem ce_yX7_told : xCe yX7_told cX7_told 2 (some .int) 1 := ⟨xWd.at (i := 327) (by decide +kernel) (by decide +kernel), it_TaleTypes, by decide +kernel, by decide +kernel⟩
theorem ce_yX7_nodeCount : xCe yX7_nodeCount cX7_nodeCount 1 (some .int) 0 := ⟨xWd.at (i := 331) (by decide +kernel) (by decide +kernel), it_TaleTypes, by decide +kernel, by decide +kernel⟩
theorem ce_yX7_likeTyped : xCe yX7_likeTyped cX7_likeTyped 4 (some .int) 0 := ⟨xWd.at (i := 335) (by decide +kernel) (by decide +kernel), it_TaleTypes, by decide +kernel, by decide +kernel⟩
theorem ce_yX4_lineUp : xCe yX4_lineUp cX4_lineUp 8 none 3 := ⟨xWd.at (i := 339) (by decide +kernel) (by decide +kernel), it_TaleTypes_Lineup, by decide +kernel, by decide +kernel⟩
theorem ce_yX4_spell : xCe yX4_spell cX4_spell 5 (some .int) 2 := ⟨xWd.at (i := 342) (by decide +kernel) (by decide +kernel), it_TaleTypes_Lineup, by decide +kernel, by decide +kernel⟩
theorem ce_yX7_motifOf : xCe yX7_motifOf cX7_motifOf 3 (some .int) 2 := ⟨xWd.at (i := 347) (by decide +kernel) (by decide +kernel), it_TaleTypes, by decide +kernel, by decide +kernel⟩
theorem ce_yX4_leastFrom : xCe yX4_leastFrom cX4_leastFrom 5 (some .int) 2 := ⟨xWd.at (i := 352) (by decide +kernel) (by decide +kernel), it_TaleTypes_Lineup, by decide +kernel, by decide +kernel⟩
theorem ce_yX4_sumThrough : xCe yX4_sumThrough cX4_sumThrough 8 (some .int) 3 := ⟨xWd.at (i := 357) (by decide +kernel) (by decide +kernel), it_TaleTypes_Lineup, by decide +kernel, by decide +kernel⟩
theorem ce_yJ9_abs_0f7a4 : xCe yJ9_abs_0f7a4 cJ9_abs_0f7a4 1 (some .int) 1 := ⟨xWd.at (i := 364) (by decide +kernel) (by decide +kernel), it_java_lang_Math, by decide +kernel, by decide +kernel⟩
theorem ce_yX4_isTurned : xCe yX4_isTurned cX4_isTurned 3 (some .boolean) 2 := ⟨xWd.at (i := 368) (by decide +kernel) (by decide +kernel), it_TaleTypes_Lineup, by decide +kernel, by decide +kernel⟩
theorem ce_yX4_apart : xCe yX4_apart cX4_apart 1 (some .int) 0 := ⟨xWd.at (i := 372) (by decide +kernel) (by decide +kernel), it_TaleTypes_Lineup, by decide +kernel, by decide +kernel⟩
theorem ce_yX7_allTales : xCe yX7_allTales cX7_allTales 1 (some .int) 0 := ⟨xWd.at (i := 376) (by decide +kernel) (by decide +kernel), it_TaleTypes, by decide +kernel, by decide +kernel⟩
theorem ce_yX5_motifsOfAll : xCe yX5_motifsOfAll cX5_motifsOfAll 4 (some .int) 1 := ⟨xWd.at (i := 380) (by decide +kernel) (by decide +kernel), it_TaleTypes_State, by decide +kernel, by decide +kernel⟩
theorem ce_yX7_motifsOf : xCe yX7_motifsOf cX7_motifsOf 4 (some .int) 1 := ⟨xWd.at (i := 383) (by decide +kernel) (by decide +kernel), it_TaleTypes, by decide +kernel, by decide +kernel⟩
theorem ce_yX7_measureAnew : xCe yX7_measureAnew cX7_measureAnew 1 none 0 := ⟨xWd.at (i := 388) (by decide +kernel) (by decide +kernel), it_TaleTypes, by decide +kernel, by decide +kernel⟩
theorem ce_yX2_measure : xCe yX2_measure cX2_measure 5 none 2 := ⟨xWd.at (i := 392) (by decide +kernel) (by decide +kernel), it_TaleTypes_Distances, by decide +kernel, by decide +kernel⟩
theorem ce_yX6_grow : xCe yX6_grow cX6_grow 5 none 3 := ⟨xWd.at (i := 398) (by decide +kernel) (by decide +kernel), it_TaleTypes_Tree, by decide +kernel, by decide +kernel⟩
theorem ce_yX6_findNearest : xCe yX6_findNearest cX6_findNearest 7 none 3 := ⟨xWd.at (i := 402) (by decide +kernel) (by decide +kernel), it_TaleTypes_Tree, by decide +kernel, by decide +kernel⟩
theorem ce_yX6_compareTypes : xCe yX6_compareTypes cX6_compareTypes 11 none 4 := ⟨xWd.at (i := 406) (by decide +kernel) (by decide +kernel), it_TaleTypes_Tree, by decide +kernel, by decide +kernel⟩
theorem ce_yX2_between : xCe yX2_between cX2_between 3 (some .int) 2 := ⟨xWd.at (i := 411) (by decide +kernel) (by decide +kernel), it_TaleTypes_Distances, by decide +kernel, by decide +kernel⟩
theorem ce_yJ9_max_7cf53 : xCe yJ9_max_7cf53 cJ9_max_7cf53 2 (some .int) 2 := ⟨xWd.at (i := 415) (by decide +kernel) (by decide +kernel), it_java_lang_Math, by decide +kernel, by decide +kernel⟩
theorem ce_yJ6_bitCount_0f7a4 : xCe yJ6_bitCount_0f7a4 cJ6_bitCount_0f7a4 1 (some .int) 1 := ⟨xWd.at (i := 418) (by decide +kernel) (by decide +kernel), it_java_lang_Integer, by decide +kernel, by decide +kernel⟩
theorem ce_yX6_joinNearest : xCe yX6_joinNearest cX6_joinNearest 3 none 1 := ⟨xWd.at (i := 425) (by decide +kernel) (by decide +kernel), it_TaleTypes_Tree, by decide +kernel, by decide +kernel⟩
theorem ce_yX0_firstOtherwise : xCe yX0_firstOtherwise cX0_firstOtherwise 5 (some .int) 2 := ⟨xWd.at (i := 429) (by decide +kernel) (by decide +kernel), it_TaleTypes_Book, by decide +kernel, by decide +kernel⟩
theorem ce_yX7_taleAt : xCe yX7_taleAt cX7_taleAt 3 (some .int) 2 := ⟨xWd.at (i := 434) (by decide +kernel) (by decide +kernel), it_TaleTypes, by decide +kernel, by decide +kernel⟩
theorem ce_yX7_isTale : xCe yX7_isTale cX7_isTale 2 (some .boolean) 1 := ⟨xWd.at (i := 438) (by decide +kernel) (by decide +kernel), it_TaleTypes, by decide +kernel, by decide +kernel⟩
theorem ce_yX7_hull : xCe yX7_hull cX7_hull 5 (some .int) 2 := ⟨xWd.at (i := 442) (by decide +kernel) (by decide +kernel), it_TaleTypes, by decide +kernel, by decide +kernel⟩
theorem ce_yX7_hangTogether : xCe yX7_hangTogether cX7_hangTogether 5 (some .boolean) 2 := ⟨xWd.at (i := 446) (by decide +kernel) (by decide +kernel), it_TaleTypes, by decide +kernel, by decide +kernel⟩
theorem ce_yX7_roadsOf : xCe yX7_roadsOf cX7_roadsOf 1 (some .int) 1 := ⟨xWd.at (i := 449) (by decide +kernel) (by decide +kernel), it_TaleTypes, by decide +kernel, by decide +kernel⟩
theorem ce_yX7_motif : xCe yX7_motif cX7_motif 3 (some .int) 2 := ⟨xWd.at (i := 453) (by decide +kernel) (by decide +kernel), it_TaleTypes, by decide +kernel, by decide +kernel⟩
theorem ce_yX7_costAt : xCe yX7_costAt cX7_costAt 2 (some .int) 1 := ⟨xWd.at (i := 457) (by decide +kernel) (by decide +kernel), it_TaleTypes, by decide +kernel, by decide +kernel⟩
theorem ce_yX7_pair : xCe yX7_pair cX7_pair 4 (some .int) 3 := ⟨xWd.at (i := 461) (by decide +kernel) (by decide +kernel), it_TaleTypes, by decide +kernel, by decide +kernel⟩
theorem ce_yX4_ways : xCe yX4_ways cX4_ways 3 (some .int) 0 := ⟨xWd.at (i := 465) (by decide +kernel) (by decide +kernel), it_TaleTypes_Lineup, by decide +kernel, by decide +kernel⟩
theorem ce_yX4_rowsFrom : xCe yX4_rowsFrom cX4_rowsFrom 5 (some .int) 2 := ⟨xWd.at (i := 469) (by decide +kernel) (by decide +kernel), it_TaleTypes_Lineup, by decide +kernel, by decide +kernel⟩
theorem ce_yX4_wayLength : xCe yX4_wayLength cX4_wayLength 5 (some .int) 0 := ⟨xWd.at (i := 473) (by decide +kernel) (by decide +kernel), it_TaleTypes_Lineup, by decide +kernel, by decide +kernel⟩
theorem ce_yX4_leastStep : xCe yX4_leastStep cX4_leastStep 4 (some .int) 2 := ⟨xWd.at (i := 477) (by decide +kernel) (by decide +kernel), it_TaleTypes_Lineup, by decide +kernel, by decide +kernel⟩
theorem ce_yX4_commonLength : xCe yX4_commonLength cX4_commonLength 3 (some .int) 0 := ⟨xWd.at (i := 481) (by decide +kernel) (by decide +kernel), it_TaleTypes_Lineup, by decide +kernel, by decide +kernel⟩
theorem ce_yX4_sharedFrom : xCe yX4_sharedFrom cX4_sharedFrom 3 (some .int) 2 := ⟨xWd.at (i := 485) (by decide +kernel) (by decide +kernel), it_TaleTypes_Lineup, by decide +kernel, by decide +kernel⟩
theorem ce_yX7_step : xCe yX7_step cX7_step 4 (some .int) 3 := ⟨xWd.at (i := 490) (by decide +kernel) (by decide +kernel), it_TaleTypes, by decide +kernel, by decide +kernel⟩
theorem ce_yX4_stepOfWay : xCe yX4_stepOfWay cX4_stepOfWay 3 (some .int) 1 := ⟨xWd.at (i := 494) (by decide +kernel) (by decide +kernel), it_TaleTypes_Lineup, by decide +kernel, by decide +kernel⟩
theorem ce_yX7_node : xCe yX7_node cX7_node 3 (some .int) 2 := ⟨xWd.at (i := 499) (by decide +kernel) (by decide +kernel), it_TaleTypes, by decide +kernel, by decide +kernel⟩
theorem ce_yX2_middleOf : xCe yX2_middleOf cX2_middleOf 6 (some .int) 1 := ⟨xWd.at (i := 503) (by decide +kernel) (by decide +kernel), it_TaleTypes_Distances, by decide +kernel, by decide +kernel⟩
theorem ce_yX2_sumTo : xCe yX2_sumTo cX2_sumTo 5 (some .int) 2 := ⟨xWd.at (i := 507) (by decide +kernel) (by decide +kernel), it_TaleTypes_Distances, by decide +kernel, by decide +kernel⟩
theorem ce_yX7_types : xCe yX7_types cX7_types 3 (some .int) 2 := ⟨xWd.at (i := 512) (by decide +kernel) (by decide +kernel), it_TaleTypes, by decide +kernel, by decide +kernel⟩
theorem ce_yX6_nodesUpTo : xCe yX6_nodesUpTo cX6_nodesUpTo 3 (some .int) 1 := ⟨xWd.at (i := 516) (by decide +kernel) (by decide +kernel), it_TaleTypes_Tree, by decide +kernel, by decide +kernel⟩
theorem ce_yX6_typeOf : xCe yX6_typeOf cX6_typeOf 6 (some .int) 2 := ⟨xWd.at (i := 520) (by decide +kernel) (by decide +kernel), it_TaleTypes_Tree, by decide +kernel, by decide +kernel⟩
theorem ce_yX7_middle : xCe yX7_middle cX7_middle 2 (some .int) 1 := ⟨xWd.at (i := 525) (by decide +kernel) (by decide +kernel), it_TaleTypes, by decide +kernel, by decide +kernel⟩
theorem ce_yX7_areTales : xCe yX7_areTales cX7_areTales 2 (some .boolean) 1 := ⟨xWd.at (i := 529) (by decide +kernel) (by decide +kernel), it_TaleTypes, by decide +kernel, by decide +kernel⟩
theorem ce_yX7_common : xCe yX7_common cX7_common 2 (some .int) 1 := ⟨xWd.at (i := 533) (by decide +kernel) (by decide +kernel), it_TaleTypes, by decide +kernel, by decide +kernel⟩
theorem ce_yX7_wandered : xCe yX7_wandered cX7_wandered 3 (some .int) 2 := ⟨xWd.at (i := 537) (by decide +kernel) (by decide +kernel), it_TaleTypes, by decide +kernel, by decide +kernel⟩
theorem ce_yX7_arePlaces : xCe yX7_arePlaces cX7_arePlaces 1 (some .boolean) 1 := ⟨xWd.at (i := 540) (by decide +kernel) (by decide +kernel), it_TaleTypes, by decide +kernel, by decide +kernel⟩
theorem ce_yX7_take : xCe yX7_take cX7_take 2 (some .int) 1 := ⟨xWd.at (i := 544) (by decide +kernel) (by decide +kernel), it_TaleTypes, by decide +kernel, by decide +kernel⟩
theorem ce_yX5_remove : xCe yX5_remove cX5_remove 3 none 1 := ⟨xWd.at (i := 548) (by decide +kernel) (by decide +kernel), it_TaleTypes_State, by decide +kernel, by decide +kernel⟩
theorem ce_yX7_cost : xCe yX7_cost cX7_cost 5 (some .int) 2 := ⟨xWd.at (i := 552) (by decide +kernel) (by decide +kernel), it_TaleTypes, by decide +kernel, by decide +kernel⟩
theorem ce_yX7_kind : xCe yX7_kind cX7_kind 3 (some .int) 1 := ⟨xWd.at (i := 556) (by decide +kernel) (by decide +kernel), it_TaleTypes, by decide +kernel, by decide +kernel⟩
theorem ce_yX7_road : xCe yX7_road cX7_road 4 (some .int) 3 := ⟨xWd.at (i := 560) (by decide +kernel) (by decide +kernel), it_TaleTypes, by decide +kernel, by decide +kernel⟩
theorem ce_yX7_isPlace : xCe yX7_isPlace cX7_isPlace 1 (some .boolean) 1 := ⟨xWd.at (i := 563) (by decide +kernel) (by decide +kernel), it_TaleTypes, by decide +kernel, by decide +kernel⟩
theorem ce_yX5_setRoad : xCe yX5_setRoad cX5_setRoad 4 none 3 := ⟨xWd.at (i := 567) (by decide +kernel) (by decide +kernel), it_TaleTypes_State, by decide +kernel, by decide +kernel⟩
theorem ce_yX5_countRoads : xCe yX5_countRoads cX5_countRoads 3 (some .int) 0 := ⟨xWd.at (i := 571) (by decide +kernel) (by decide +kernel), it_TaleTypes_State, by decide +kernel, by decide +kernel⟩
theorem ce_yX7_at : xCe yX7_at cX7_at 3 (some .int) 2 := ⟨xWd.at (i := 576) (by decide +kernel) (by decide +kernel), it_TaleTypes, by decide +kernel, by decide +kernel⟩
theorem ce_yX7_drift : xCe yX7_drift cX7_drift 3 (some .int) 1 := ⟨xWd.at (i := 580) (by decide +kernel) (by decide +kernel), it_TaleTypes, by decide +kernel, by decide +kernel⟩
theorem ce_yX7_addDrawn : xCe yX7_addDrawn cX7_addDrawn 5 none 0 := ⟨xWd.at (i := 584) (by decide +kernel) (by decide +kernel), it_TaleTypes, by decide +kernel, by decide +kernel⟩
theorem ce_yX7_draw : xCe yX7_draw cX7_draw 4 (some .int) 1 := ⟨xWd.at (i := 588) (by decide +kernel) (by decide +kernel), it_TaleTypes, by decide +kernel, by decide +kernel⟩
theorem ce_yX7_undo : xCe yX7_undo cX7_undo 2 (some .int) 1 := ⟨xWd.at (i := 596) (by decide +kernel) (by decide +kernel), it_TaleTypes, by decide +kernel, by decide +kernel⟩
theorem ce_yX1_takeBack : xCe yX1_takeBack cX1_takeBack 3 none 2 := ⟨xWd.at (i := 600) (by decide +kernel) (by decide +kernel), it_TaleTypes_Deeds, by decide +kernel, by decide +kernel⟩
theorem ce_yX7_write : xCe yX7_write cX7_write 4 (some .int) 3 := ⟨xWd.at (i := 604) (by decide +kernel) (by decide +kernel), it_TaleTypes, by decide +kernel, by decide +kernel⟩
theorem ce_yX0_add : xCe yX0_add cX0_add 4 none 3 := ⟨xWd.at (i := 608) (by decide +kernel) (by decide +kernel), it_TaleTypes_Book, by decide +kernel, by decide +kernel⟩
theorem ce_yX7_tear : xCe yX7_tear cX7_tear 2 (some .int) 0 := ⟨xWd.at (i := 612) (by decide +kernel) (by decide +kernel), it_TaleTypes, by decide +kernel, by decide +kernel⟩
theorem ce_yX7_seed : xCe yX7_seed cX7_seed 3 (some .int) 1 := ⟨xWd.at (i := 616) (by decide +kernel) (by decide +kernel), it_TaleTypes, by decide +kernel, by decide +kernel⟩
theorem ce_yX7_keep : xCe yX7_keep cX7_keep 3 (some .int) 1 := ⟨xWd.at (i := 620) (by decide +kernel) (by decide +kernel), it_TaleTypes, by decide +kernel, by decide +kernel⟩
theorem ce_yX7_goBack : xCe yX7_goBack cX7_goBack 3 (some .int) 1 := ⟨xWd.at (i := 625) (by decide +kernel) (by decide +kernel), it_TaleTypes, by decide +kernel, by decide +kernel⟩
theorem ce_yX8_init : xCe yX8_init cX8_init 1 none 0 := ⟨xWd.at (i := 630) (by decide +kernel) (by decide +kernel), it_TaleTypesModel, by decide +kernel, by decide +kernel⟩
theorem ce_yX8_feed : xCe yX8_feed cX8_feed 2 (some .int) 1 := ⟨xWd.at (i := 709) (by decide +kernel) (by decide +kernel), it_TaleTypesModel, by decide +kernel, by decide +kernel⟩
theorem ce_yX8_in : xCe yX8_in cX8_in 3 (some .boolean) 3 := ⟨xWd.at (i := 712) (by decide +kernel) (by decide +kernel), it_TaleTypesModel, by decide +kernel, by decide +kernel⟩
theorem ce_yX8_tale : xCe yX8_tale cX8_tale 2 (some .int) 0 := ⟨xWd.at (i := 718) (by decide +kernel) (by decide +kernel), it_TaleTypesModel, by decide +kernel, by decide +kernel⟩
theorem ce_yX8_notes : xCe yX8_notes cX8_notes 1 none 0 := ⟨xWd.at (i := 723) (by decide +kernel) (by decide +kernel), it_TaleTypesModel, by decide +kernel, by decide +kernel⟩
theorem ce_yX8_bring : xCe yX8_bring cX8_bring 6 none 5 := ⟨xWd.at (i := 726) (by decide +kernel) (by decide +kernel), it_TaleTypesModel, by decide +kernel, by decide +kernel⟩
theorem ce_yX8_told : xCe yX8_told cX8_told 2 (some .int) 1 := ⟨xWd.at (i := 730) (by decide +kernel) (by decide +kernel), it_TaleTypesModel, by decide +kernel, by decide +kernel⟩
theorem ce_yX8_nodesMany : xCe yX8_nodesMany cX8_nodesMany 1 (some .int) 0 := ⟨xWd.at (i := 734) (by decide +kernel) (by decide +kernel), it_TaleTypesModel, by decide +kernel, by decide +kernel⟩
theorem ce_yX8_likeTyped : xCe yX8_likeTyped cX8_likeTyped 5 (some .int) 0 := ⟨xWd.at (i := 738) (by decide +kernel) (by decide +kernel), it_TaleTypesModel, by decide +kernel, by decide +kernel⟩
theorem ce_yX8_takes : xCe yX8_takes cX8_takes 3 none 2 := ⟨xWd.at (i := 743) (by decide +kernel) (by decide +kernel), it_TaleTypesModel, by decide +kernel, by decide +kernel⟩
theorem ce_yX8_linesUp : xCe yX8_linesUp cX8_linesUp 10 (some .int) 0 := ⟨xWd.at (i := 747) (by decide +kernel) (by decide +kernel), it_TaleTypesModel, by decide +kernel, by decide +kernel⟩
theorem ce_yX8_stepCost : xCe yX8_stepCost cX8_stepCost 4 (some .int) 3 := ⟨xWd.at (i := 751) (by decide +kernel) (by decide +kernel), it_TaleTypesModel, by decide +kernel, by decide +kernel⟩
theorem ce_yX8_changeOf : xCe yX8_changeOf cX8_changeOf 4 (some .int) 2 := ⟨xWd.at (i := 755) (by decide +kernel) (by decide +kernel), it_TaleTypesModel, by decide +kernel, by decide +kernel⟩
theorem ce_yX8_lesser : xCe yX8_lesser cX8_lesser 2 (some .int) 2 := ⟨xWd.at (i := 758) (by decide +kernel) (by decide +kernel), it_TaleTypesModel, by decide +kernel, by decide +kernel⟩
theorem ce_yX8_isTurned : xCe yX8_isTurned cX8_isTurned 4 (some .boolean) 2 := ⟨xWd.at (i := 762) (by decide +kernel) (by decide +kernel), it_TaleTypesModel, by decide +kernel, by decide +kernel⟩
theorem ce_yX8_firstBy : xCe yX8_firstBy cX8_firstBy 1 (some .int) 1 := ⟨xWd.at (i := 765) (by decide +kernel) (by decide +kernel), it_TaleTypesModel, by decide +kernel, by decide +kernel⟩
theorem ce_yX8_otherBy : xCe yX8_otherBy cX8_otherBy 1 (some .int) 1 := ⟨xWd.at (i := 768) (by decide +kernel) (by decide +kernel), it_TaleTypesModel, by decide +kernel, by decide +kernel⟩
theorem ce_yX8_cellOf : xCe yX8_cellOf cX8_cellOf 2 (some .int) 2 := ⟨xWd.at (i := 771) (by decide +kernel) (by decide +kernel), it_TaleTypesModel, by decide +kernel, by decide +kernel⟩
theorem ce_yX8_allHave : xCe yX8_allHave cX8_allHave 6 (some .int) 1 := ⟨xWd.at (i := 775) (by decide +kernel) (by decide +kernel), it_TaleTypesModel, by decide +kernel, by decide +kernel⟩
theorem ce_yX8_has : xCe yX8_has cX8_has 2 (some .boolean) 2 := ⟨xWd.at (i := 778) (by decide +kernel) (by decide +kernel), it_TaleTypesModel, by decide +kernel, by decide +kernel⟩
theorem ce_yX8_wrong : xCe yX8_wrong cX8_wrong 4 (some .int) 0 := ⟨xWd.at (i := 782) (by decide +kernel) (by decide +kernel), it_TaleTypesModel, by decide +kernel, by decide +kernel⟩
theorem ce_yX8_isTale : xCe yX8_isTale cX8_isTale 2 (some .boolean) 1 := ⟨xWd.at (i := 786) (by decide +kernel) (by decide +kernel), it_TaleTypesModel, by decide +kernel, by decide +kernel⟩
theorem ce_yX8_apart : xCe yX8_apart cX8_apart 3 (some .int) 2 := ⟨xWd.at (i := 790) (by decide +kernel) (by decide +kernel), it_TaleTypesModel, by decide +kernel, by decide +kernel⟩
theorem ce_yX8_taleAt : xCe yX8_taleAt cX8_taleAt 3 (some .int) 2 := ⟨xWd.at (i := 794) (by decide +kernel) (by decide +kernel), it_TaleTypesModel, by decide +kernel, by decide +kernel⟩
theorem ce_yX8_wanders : xCe yX8_wanders cX8_wanders 3 (some .int) 1 := ⟨xWd.at (i := 799) (by decide +kernel) (by decide +kernel), it_TaleTypesModel, by decide +kernel, by decide +kernel⟩
theorem ce_yX8_over : xCe yX8_over cX8_over 4 (some .int) 1 := ⟨xWd.at (i := 803) (by decide +kernel) (by decide +kernel), it_TaleTypesModel, by decide +kernel, by decide +kernel⟩
theorem ce_yX8_hangs : xCe yX8_hangs cX8_hangs 5 (some .boolean) 1 := ⟨xWd.at (i := 807) (by decide +kernel) (by decide +kernel), it_TaleTypesModel, by decide +kernel, by decide +kernel⟩
theorem ce_yX8_ones : xCe yX8_ones cX8_ones 3 (some .int) 1 := ⟨xWd.at (i := 810) (by decide +kernel) (by decide +kernel), it_TaleTypesModel, by decide +kernel, by decide +kernel⟩
theorem ce_yX8_motif : xCe yX8_motif cX8_motif 3 (some .int) 2 := ⟨xWd.at (i := 814) (by decide +kernel) (by decide +kernel), it_TaleTypesModel, by decide +kernel, by decide +kernel⟩
theorem ce_yX8_costAt : xCe yX8_costAt cX8_costAt 2 (some .int) 1 := ⟨xWd.at (i := 818) (by decide +kernel) (by decide +kernel), it_TaleTypesModel, by decide +kernel, by decide +kernel⟩
theorem ce_yX8_pair : xCe yX8_pair cX8_pair 4 (some .int) 3 := ⟨xWd.at (i := 822) (by decide +kernel) (by decide +kernel), it_TaleTypesModel, by decide +kernel, by decide +kernel⟩
theorem ce_yX8_laysWay : xCe yX8_laysWay cX8_laysWay 8 (some .int) 2 := ⟨xWd.at (i := 826) (by decide +kernel) (by decide +kernel), it_TaleTypesModel, by decide +kernel, by decide +kernel⟩
theorem ce_yX8_isOfLeast : xCe yX8_isOfLeast cX8_isOfLeast 6 (some .boolean) 4 := ⟨xWd.at (i := 830) (by decide +kernel) (by decide +kernel), it_TaleTypesModel, by decide +kernel, by decide +kernel⟩
theorem ce_yX8_commonOrder : xCe yX8_commonOrder cX8_commonOrder 8 (some .int) 2 := ⟨xWd.at (i := 834) (by decide +kernel) (by decide +kernel), it_TaleTypesModel, by decide +kernel, by decide +kernel⟩
theorem ce_yX8_step : xCe yX8_step cX8_step 5 (some .int) 3 := ⟨xWd.at (i := 838) (by decide +kernel) (by decide +kernel), it_TaleTypesModel, by decide +kernel, by decide +kernel⟩
theorem ce_yX8_node : xCe yX8_node cX8_node 3 (some .int) 2 := ⟨xWd.at (i := 842) (by decide +kernel) (by decide +kernel), it_TaleTypesModel, by decide +kernel, by decide +kernel⟩
theorem ce_yX8_laysNodes : xCe yX8_laysNodes cX8_laysNodes 2 none 0 := ⟨xWd.at (i := 846) (by decide +kernel) (by decide +kernel), it_TaleTypesModel, by decide +kernel, by decide +kernel⟩
theorem ce_yX8_beginsTypes : xCe yX8_beginsTypes cX8_beginsTypes 2 none 0 := ⟨xWd.at (i := 850) (by decide +kernel) (by decide +kernel), it_TaleTypesModel, by decide +kernel, by decide +kernel⟩
theorem ce_yX8_laysFar : xCe yX8_laysFar cX8_laysFar 3 none 0 := ⟨xWd.at (i := 854) (by decide +kernel) (by decide +kernel), it_TaleTypesModel, by decide +kernel, by decide +kernel⟩
theorem ce_yX8_joinsOnce : xCe yX8_joinsOnce cX8_joinsOnce 8 none 1 := ⟨xWd.at (i := 858) (by decide +kernel) (by decide +kernel), it_TaleTypesModel, by decide +kernel, by decide +kernel⟩
theorem ce_yX8_nearBy : xCe yX8_nearBy cX8_nearBy 9 (some .int) 2 := ⟨xWd.at (i := 862) (by decide +kernel) (by decide +kernel), it_TaleTypesModel, by decide +kernel, by decide +kernel⟩
theorem ce_yX8_partsOf : xCe yX8_partsOf cX8_partsOf 3 (some .int) 2 := ⟨xWd.at (i := 866) (by decide +kernel) (by decide +kernel), it_TaleTypesModel, by decide +kernel, by decide +kernel⟩
theorem ce_yX8_joins : xCe yX8_joins cX8_joins 3 none 2 := ⟨xWd.at (i := 870) (by decide +kernel) (by decide +kernel), it_TaleTypesModel, by decide +kernel, by decide +kernel⟩
theorem ce_yX8_middleOf : xCe yX8_middleOf cX8_middleOf 7 (some .int) 1 := ⟨xWd.at (i := 874) (by decide +kernel) (by decide +kernel), it_TaleTypesModel, by decide +kernel, by decide +kernel⟩
theorem ce_yX8_types : xCe yX8_types cX8_types 6 (some .int) 2 := ⟨xWd.at (i := 878) (by decide +kernel) (by decide +kernel), it_TaleTypesModel, by decide +kernel, by decide +kernel⟩
theorem ce_yX8_middle : xCe yX8_middle cX8_middle 2 (some .int) 1 := ⟨xWd.at (i := 882) (by decide +kernel) (by decide +kernel), it_TaleTypesModel, by decide +kernel, by decide +kernel⟩
theorem ce_yX8_areTales : xCe yX8_areTales cX8_areTales 2 (some .boolean) 1 := ⟨xWd.at (i := 886) (by decide +kernel) (by decide +kernel), it_TaleTypesModel, by decide +kernel, by decide +kernel⟩
theorem ce_yX8_common : xCe yX8_common cX8_common 2 (some .int) 1 := ⟨xWd.at (i := 890) (by decide +kernel) (by decide +kernel), it_TaleTypesModel, by decide +kernel, by decide +kernel⟩
theorem ce_yX8_wandered : xCe yX8_wandered cX8_wandered 3 (some .int) 2 := ⟨xWd.at (i := 894) (by decide +kernel) (by decide +kernel), it_TaleTypesModel, by decide +kernel, by decide +kernel⟩
theorem ce_yX8_take : xCe yX8_take cX8_take 3 (some .int) 1 := ⟨xWd.at (i := 898) (by decide +kernel) (by decide +kernel), it_TaleTypesModel, by decide +kernel, by decide +kernel⟩
theorem ce_yX8_cost : xCe yX8_cost cX8_cost 4 (some .int) 2 := ⟨xWd.at (i := 902) (by decide +kernel) (by decide +kernel), it_TaleTypesModel, by decide +kernel, by decide +kernel⟩
theorem ce_yX8_kind : xCe yX8_kind cX8_kind 3 (some .int) 1 := ⟨xWd.at (i := 906) (by decide +kernel) (by decide +kernel), it_TaleTypesModel, by decide +kernel, by decide +kernel⟩
theorem ce_yX8_road : xCe yX8_road cX8_road 6 (some .int) 3 := ⟨xWd.at (i := 910) (by decide +kernel) (by decide +kernel), it_TaleTypesModel, by decide +kernel, by decide +kernel⟩
theorem ce_yX8_isPlace : xCe yX8_isPlace cX8_isPlace 1 (some .boolean) 1 := ⟨xWd.at (i := 913) (by decide +kernel) (by decide +kernel), it_TaleTypesModel, by decide +kernel, by decide +kernel⟩
theorem ce_yX8_at : xCe yX8_at cX8_at 3 (some .int) 2 := ⟨xWd.at (i := 917) (by decide +kernel) (by decide +kernel), it_TaleTypesModel, by decide +kernel, by decide +kernel⟩
theorem ce_yX8_drift : xCe yX8_drift cX8_drift 5 (some .int) 1 := ⟨xWd.at (i := 921) (by decide +kernel) (by decide +kernel), it_TaleTypesModel, by decide +kernel, by decide +kernel⟩
theorem ce_yX8_draw : xCe yX8_draw cX8_draw 4 (some .int) 1 := ⟨xWd.at (i := 925) (by decide +kernel) (by decide +kernel), it_TaleTypesModel, by decide +kernel, by decide +kernel⟩
theorem ce_yX8_undo : xCe yX8_undo cX8_undo 2 (some .int) 1 := ⟨xWd.at (i := 933) (by decide +kernel) (by decide +kernel), it_TaleTypesModel, by decide +kernel, by decide +kernel⟩
theorem ce_yX8_write : xCe yX8_write cX8_write 4 (some .int) 3 := ⟨xWd.at (i := 937) (by decide +kernel) (by decide +kernel), it_TaleTypesModel, by decide +kernel, by decide +kernel⟩
theorem ce_yX8_tear : xCe yX8_tear cX8_tear 2 (some .int) 0 := ⟨xWd.at (i := 941) (by decide +kernel) (by decide +kernel), it_TaleTypesModel, by decide +kernel, by decide +kernel⟩
theorem ce_yX8_seed : xCe yX8_seed cX8_seed 3 (some .int) 1 := ⟨xWd.at (i := 945) (by decide +kernel) (by decide +kernel), it_TaleTypesModel, by decide +kernel, by decide +kernel⟩
theorem ce_yX8_keep : xCe yX8_keep cX8_keep 2 (some .int) 1 := ⟨xWd.at (i := 949) (by decide +kernel) (by decide +kernel), it_TaleTypesModel, by decide +kernel, by decide +kernel⟩
theorem ce_yX8_goBack : xCe yX8_goBack cX8_goBack 2 (some .int) 1 := ⟨xWd.at (i := 953) (by decide +kernel) (by decide +kernel), it_TaleTypesModel, by decide +kernel, by decide +kernel⟩
theorem xcl0 : xCl 0 RX0 TX0 4 tyX0 := ⟨rfl, by unfold xWd; decide +kernel, tyX0_ok, nmX0, rfl, by decide +kernel, by decide +kernel⟩
theorem xcl1 : xCl 1 RX1 TX1 3 tyX1 := ⟨rfl, by unfold xWd; decide +kernel, tyX1_ok, nmX1, rfl, by decide +kernel, by decide +kernel⟩
theorem xcl2 : xCl 2 RX2 TX2 1 tyX2 := ⟨rfl, by unfold xWd; decide +kernel, tyX2_ok, nmX2, rfl, by decide +kernel, by decide +kernel⟩
theorem xcl3 : xCl 3 RX3 TX3 3 tyX3 := ⟨rfl, by unfold xWd; decide +kernel, tyX3_ok, nmX3, rfl, by decide +kernel, by decide +kernel⟩
theorem xcl4 : xCl 4 RX4 TX4 9 tyX4 := ⟨rfl, by unfold xWd; decide +kernel, tyX4_ok, nmX4, rfl, by decide +kernel, by decide +kernel⟩
theorem xcl5 : xCl 5 RX5 TX5 6 tyX5 := ⟨rfl, by unfold xWd; decide +kernel, tyX5_ok, nmX5, rfl, by decide +kernel, by decide +kernel⟩
theorem xcl6 : xCl 6 RX6 TX6 11 tyX6 := ⟨rfl, by unfold xWd; decide +kernel, tyX6_ok, nmX6, rfl, by decide +kernel, by decide +kernel⟩
theorem xcl7 : xCl 7 RX7 TX7 10 tyX7 := ⟨rfl, by unfold xWd; decide +kernel, tyX7_ok, nmX7, rfl, by decide +kernel, by decide +kernel⟩
theorem xcl8 : xCl 8 RX8 TX8 24 tyX8 := ⟨rfl, by unfold xWd; decide +kernel, tyX8_ok, nmX8, rfl, by decide +kernel, by decide +kernel⟩
