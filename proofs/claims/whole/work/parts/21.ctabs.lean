theorem oi_1 : Cond.instanceMethod objectInit ∈ gW := gw_mk (i := 104) (by decide +kernel) rfl
theorem oi_2 : Cond.code objectInit ⟨#[0xb1]⟩ 1 none ∈ gW := gw_mk (i := 105) (by decide +kernel) rfl
theorem ac_I : Cond.arrayClass .int ∈ gW := gw_mk (i := 120) (by decide +kernel) rfl
theorem ac_Z : Cond.arrayClass .boolean ∈ gW := gw_mk (i := 848) (by decide +kernel) rfl
theorem cl_X0_9 : Cond.classLink RX0 9 RX7 ∈ gW := gw_mk (i := 205) (by decide +kernel) rfl
theorem cl_X6_9 : Cond.classLink RX6 9 RX7 ∈ gW := gw_mk (i := 225) (by decide +kernel) rfl
theorem cl_X9_7 : Cond.classLink RX9 7 RX5 ∈ gW := gw_mk (i := 106) (by decide +kernel) rfl
theorem cl_X9_16 : Cond.classLink RX9 16 RX4 ∈ gW := gw_mk (i := 121) (by decide +kernel) rfl
theorem cl_X9_23 : Cond.classLink RX9 23 RX7 ∈ gW := gw_mk (i := 154) (by decide +kernel) rfl
theorem cl_X9_35 : Cond.classLink RX9 35 RX0 ∈ gW := gw_mk (i := 199) (by decide +kernel) rfl
theorem cl_X9_42 : Cond.classLink RX9 42 RX6 ∈ gW := gw_mk (i := 219) (by decide +kernel) rfl
theorem cl_X9_49 : Cond.classLink RX9 49 RX3 ∈ gW := gw_mk (i := 234) (by decide +kernel) rfl
theorem cl_X9_56 : Cond.classLink RX9 56 RX2 ∈ gW := gw_mk (i := 254) (by decide +kernel) rfl
theorem cl_X9_65 : Cond.classLink RX9 65 RX1 ∈ gW := gw_mk (i := 273) (by decide +kernel) rfl
theorem cl_X9_72 : Cond.classLink RX9 72 RX8 ∈ gW := gw_mk (i := 298) (by decide +kernel) rfl
theorem cl_L_7 : Cond.classLink RL 7 RX9 ∈ gW := gw_mk (i := 98) (by decide +kernel) rfl
theorem cl_L_10 : Cond.classLink RL 10 RX10 ∈ gW := gw_mk (i := 766) (by decide +kernel) rfl
theorem it_X5 : Cond.instantiable RX5 2 ∈ gW := gw_mk (i := 107) (by decide +kernel) rfl
theorem iz_X5 : Cond.initialized RX5 ∈ gW := gw_mk (i := 85) (by decide +kernel) rfl
theorem df_X5 : ∀ j, j < 2 → defaultValue (tyX5 j) = vp_V [.null, .int 0] j := by decide +kernel
theorem mc_X5 : Mc yX5_init cX5_init 1 0 := ⟨⟨gw_mk (i := 110) (by decide +kernel) rfl, gw_mk (i := 85) (by decide +kernel) rfl, by decide +kernel, by decide⟩, rfl, gw_mk (i := 109) (by decide +kernel) rfl⟩
theorem it_X4 : Cond.instantiable RX4 4 ∈ gW := gw_mk (i := 122) (by decide +kernel) rfl
theorem iz_X4 : Cond.initialized RX4 ∈ gW := gw_mk (i := 86) (by decide +kernel) rfl
theorem df_X4 : ∀ j, j < 4 → defaultValue (tyX4 j) = vp_V [.null, .null, .null, .int 0] j := by decide +kernel
theorem mc_X4 : Mc yX4_init cX4_init 1 0 := ⟨⟨gw_mk (i := 125) (by decide +kernel) rfl, gw_mk (i := 86) (by decide +kernel) rfl, by decide +kernel, by decide⟩, rfl, gw_mk (i := 124) (by decide +kernel) rfl⟩
theorem it_X7 : Cond.instantiable RX7 8 ∈ gW := gw_mk (i := 155) (by decide +kernel) rfl
theorem iz_X7 : Cond.initialized RX7 ∈ gW := gw_mk (i := 87) (by decide +kernel) rfl
theorem df_X7 : ∀ j, j < 8 → defaultValue (tyX7 j) = vp_V [.null, .null, .null, .null, .null, .int 0, .int 0, .int 0] j := by decide +kernel
theorem mc_X7 : Mc yX7_init cX7_init 2 1 := ⟨⟨gw_mk (i := 158) (by decide +kernel) rfl, gw_mk (i := 87) (by decide +kernel) rfl, by decide +kernel, by decide⟩, rfl, gw_mk (i := 157) (by decide +kernel) rfl⟩
theorem it_X0 : Cond.instantiable RX0 3 ∈ gW := gw_mk (i := 200) (by decide +kernel) rfl
theorem iz_X0 : Cond.initialized RX0 ∈ gW := gw_mk (i := 88) (by decide +kernel) rfl
theorem df_X0 : ∀ j, j < 3 → defaultValue (tyX0 j) = vp_V [.null, .int 0, .int 0] j := by decide +kernel
theorem mc_X0 : Mc yX0_init cX0_init 3 1 := ⟨⟨gw_mk (i := 203) (by decide +kernel) rfl, gw_mk (i := 88) (by decide +kernel) rfl, by decide +kernel, by decide⟩, rfl, gw_mk (i := 202) (by decide +kernel) rfl⟩
theorem it_X6 : Cond.instantiable RX6 2 ∈ gW := gw_mk (i := 220) (by decide +kernel) rfl
theorem iz_X6 : Cond.initialized RX6 ∈ gW := gw_mk (i := 89) (by decide +kernel) rfl
theorem df_X6 : ∀ j, j < 2 → defaultValue (tyX6 j) = vp_V [.null, .int 0] j := by decide +kernel
theorem mc_X6 : Mc yX6_init cX6_init 3 1 := ⟨⟨gw_mk (i := 223) (by decide +kernel) rfl, gw_mk (i := 89) (by decide +kernel) rfl, by decide +kernel, by decide⟩, rfl, gw_mk (i := 222) (by decide +kernel) rfl⟩
theorem it_X3 : Cond.instantiable RX3 4 ∈ gW := gw_mk (i := 235) (by decide +kernel) rfl
theorem iz_X3 : Cond.initialized RX3 ∈ gW := gw_mk (i := 90) (by decide +kernel) rfl
theorem df_X3 : ∀ j, j < 4 → defaultValue (tyX3 j) = vp_V [.null, .null, .null, .int 0] j := by decide +kernel
theorem mc_X3 : Mc yX3_init cX3_init 1 0 := ⟨⟨gw_mk (i := 238) (by decide +kernel) rfl, gw_mk (i := 90) (by decide +kernel) rfl, by decide +kernel, by decide⟩, rfl, gw_mk (i := 237) (by decide +kernel) rfl⟩
theorem it_X2 : Cond.instantiable RX2 4 ∈ gW := gw_mk (i := 255) (by decide +kernel) rfl
theorem iz_X2 : Cond.initialized RX2 ∈ gW := gw_mk (i := 91) (by decide +kernel) rfl
theorem df_X2 : ∀ j, j < 4 → defaultValue (tyX2 j) = vp_V [.null, .null, .null, .null] j := by decide +kernel
theorem mc_X2 : Mc yX2_init cX2_init 4 3 := ⟨⟨gw_mk (i := 258) (by decide +kernel) rfl, gw_mk (i := 91) (by decide +kernel) rfl, by decide +kernel, by decide⟩, rfl, gw_mk (i := 257) (by decide +kernel) rfl⟩
theorem it_X1 : Cond.instantiable RX1 6 ∈ gW := gw_mk (i := 274) (by decide +kernel) rfl
theorem iz_X1 : Cond.initialized RX1 ∈ gW := gw_mk (i := 92) (by decide +kernel) rfl
theorem df_X1 : ∀ j, j < 6 → defaultValue (tyX1 j) = vp_V [.null, .null, .null, .null, .null, .null] j := by decide +kernel
theorem mc_X1 : Mc yX1_init cX1_init 4 3 := ⟨⟨gw_mk (i := 277) (by decide +kernel) rfl, gw_mk (i := 92) (by decide +kernel) rfl, by decide +kernel, by decide⟩, rfl, gw_mk (i := 276) (by decide +kernel) rfl⟩
theorem it_X8 : Cond.instantiable RX8 3 ∈ gW := gw_mk (i := 299) (by decide +kernel) rfl
theorem iz_X8 : Cond.initialized RX8 ∈ gW := gw_mk (i := 93) (by decide +kernel) rfl
theorem df_X8 : ∀ j, j < 3 → defaultValue (tyX8 j) = vp_V [.null, .null, .long 0] j := by decide +kernel
theorem mc_X8 : Mc yX8_init cX8_init 3 2 := ⟨⟨gw_mk (i := 302) (by decide +kernel) rfl, gw_mk (i := 93) (by decide +kernel) rfl, by decide +kernel, by decide⟩, rfl, gw_mk (i := 301) (by decide +kernel) rfl⟩
theorem it_X9 : Cond.instantiable RX9 10 ∈ gW := gw_mk (i := 99) (by decide +kernel) rfl
theorem iz_X9 : Cond.initialized RX9 ∈ gW := gw_mk (i := 84) (by decide +kernel) rfl
theorem df_X9 : ∀ j, j < 10 → defaultValue (tyX9 j) = vp_V [.null, .null, .null, .null, .null, .null, .null, .null, .null, .null] j := by decide +kernel
theorem mc_X9 : Mc yX9_init cX9_init 1 0 := ⟨⟨gw_mk (i := 102) (by decide +kernel) rfl, gw_mk (i := 84) (by decide +kernel) rfl, by decide +kernel, by decide⟩, rfl, gw_mk (i := 101) (by decide +kernel) rfl⟩
theorem it_X10 : Cond.instantiable RX10 25 ∈ gW := gw_mk (i := 767) (by decide +kernel) rfl
theorem iz_X10 : Cond.initialized RX10 ∈ gW := gw_mk (i := 94) (by decide +kernel) rfl
theorem df_X10 : ∀ j, j < 25 → defaultValue (tyX10 j) = vp_V [.int 0, .null, .null, .null, .null, .null, .int 0, .int 0, .null, .int 0, .int 0, .int 0, .int 0, .null, .int 0, .int 0, .null, .null, .int 0, .null, .null, .null, .long 0, .null, .null] j := by decide +kernel
theorem mc_X10 : Mc yX10_init cX10_init 1 0 := ⟨⟨gw_mk (i := 770) (by decide +kernel) rfl, gw_mk (i := 94) (by decide +kernel) rfl, by decide +kernel, by decide⟩, rfl, gw_mk (i := 769) (by decide +kernel) rfl⟩
theorem mo_X5_3 : Cond.methodLink RX5 3 objectInit ∈ gW := gw_mk (i := 111) (by decide +kernel) rfl
theorem mo_X4_3 : Cond.methodLink RX4 3 objectInit ∈ gW := gw_mk (i := 126) (by decide +kernel) rfl
theorem mo_X7_3 : Cond.methodLink RX7 3 objectInit ∈ gW := gw_mk (i := 159) (by decide +kernel) rfl
theorem mo_X0_3 : Cond.methodLink RX0 3 objectInit ∈ gW := gw_mk (i := 204) (by decide +kernel) rfl
theorem mn_X0_24 : Cond.methodLinkNest RX0 24 yX7_init "JealousChoir" ∈ nW := nw_mk (i := 207) (by decide +kernel) rfl
theorem mo_X6_3 : Cond.methodLink RX6 3 objectInit ∈ gW := gw_mk (i := 224) (by decide +kernel) rfl
theorem mn_X6_21 : Cond.methodLinkNest RX6 21 yX7_init "JealousChoir" ∈ nW := nw_mk (i := 226) (by decide +kernel) rfl
theorem mo_X3_3 : Cond.methodLink RX3 3 objectInit ∈ gW := gw_mk (i := 239) (by decide +kernel) rfl
theorem mo_X2_3 : Cond.methodLink RX2 3 objectInit ∈ gW := gw_mk (i := 259) (by decide +kernel) rfl
theorem mo_X1_3 : Cond.methodLink RX1 3 objectInit ∈ gW := gw_mk (i := 278) (by decide +kernel) rfl
theorem mo_X8_1 : Cond.methodLink RX8 1 objectInit ∈ gW := gw_mk (i := 303) (by decide +kernel) rfl
theorem mo_X9_1 : Cond.methodLink RX9 1 objectInit ∈ gW := gw_mk (i := 103) (by decide +kernel) rfl
theorem mn_X9_9 : Cond.methodLinkNest RX9 9 yX5_init "JealousChoir" ∈ nW := nw_mk (i := 108) (by decide +kernel) rfl
theorem mn_X9_18 : Cond.methodLinkNest RX9 18 yX4_init "JealousChoir" ∈ nW := nw_mk (i := 123) (by decide +kernel) rfl
theorem mn_X9_25 : Cond.methodLinkNest RX9 25 yX7_init "JealousChoir" ∈ nW := nw_mk (i := 156) (by decide +kernel) rfl
theorem mn_X9_37 : Cond.methodLinkNest RX9 37 yX0_init "JealousChoir" ∈ nW := nw_mk (i := 201) (by decide +kernel) rfl
theorem mn_X9_44 : Cond.methodLinkNest RX9 44 yX6_init "JealousChoir" ∈ nW := nw_mk (i := 221) (by decide +kernel) rfl
theorem mn_X9_51 : Cond.methodLinkNest RX9 51 yX3_init "JealousChoir" ∈ nW := nw_mk (i := 236) (by decide +kernel) rfl
theorem mn_X9_58 : Cond.methodLinkNest RX9 58 yX2_init "JealousChoir" ∈ nW := nw_mk (i := 256) (by decide +kernel) rfl
theorem mn_X9_67 : Cond.methodLinkNest RX9 67 yX1_init "JealousChoir" ∈ nW := nw_mk (i := 275) (by decide +kernel) rfl
theorem mn_X9_74 : Cond.methodLinkNest RX9 74 yX8_init "JealousChoir" ∈ nW := nw_mk (i := 300) (by decide +kernel) rfl
theorem mo_X10_1 : Cond.methodLink RX10 1 objectInit ∈ gW := gw_mk (i := 771) (by decide +kernel) rfl
theorem fc_X5_9 : Cond.fieldLink RX5 9 "JealousChoir$Script" (TX5 0).2.1 (TX5 0).2.2.1 ∈ gW := gw_mk (i := 112) (by decide +kernel) rfl
theorem fc_X5_15 : Cond.fieldLink RX5 15 "JealousChoir$Script" (TX5 1).2.1 (TX5 1).2.2.1 ∈ gW := gw_mk (i := 113) (by decide +kernel) rfl
theorem fc_X4_9 : Cond.fieldLink RX4 9 "JealousChoir$Roll" (TX4 0).2.1 (TX4 0).2.2.1 ∈ gW := gw_mk (i := 127) (by decide +kernel) rfl
theorem fc_X4_15 : Cond.fieldLink RX4 15 "JealousChoir$Roll" (TX4 1).2.1 (TX4 1).2.2.1 ∈ gW := gw_mk (i := 132) (by decide +kernel) rfl
theorem fc_X4_18 : Cond.fieldLink RX4 18 "JealousChoir$Roll" (TX4 2).2.1 (TX4 2).2.2.1 ∈ gW := gw_mk (i := 136) (by decide +kernel) rfl
theorem fc_X4_21 : Cond.fieldLink RX4 21 "JealousChoir$Roll" (TX4 3).2.1 (TX4 3).2.2.1 ∈ gW := gw_mk (i := 140) (by decide +kernel) rfl
theorem fc_X7_9 : Cond.fieldLink RX7 9 "JealousChoir$Stand" (TX7 1).2.1 (TX7 1).2.2.1 ∈ gW := gw_mk (i := 161) (by decide +kernel) rfl
theorem fc_X7_15 : Cond.fieldLink RX7 15 "JealousChoir$Stand" (TX7 2).2.1 (TX7 2).2.2.1 ∈ gW := gw_mk (i := 164) (by decide +kernel) rfl
theorem fc_X7_18 : Cond.fieldLink RX7 18 "JealousChoir$Stand" (TX7 3).2.1 (TX7 3).2.2.1 ∈ gW := gw_mk (i := 168) (by decide +kernel) rfl
theorem fc_X7_21 : Cond.fieldLink RX7 21 "JealousChoir$Stand" (TX7 4).2.1 (TX7 4).2.2.1 ∈ gW := gw_mk (i := 172) (by decide +kernel) rfl
theorem fc_X7_24 : Cond.fieldLink RX7 24 "JealousChoir$Stand" (TX7 5).2.1 (TX7 5).2.2.1 ∈ gW := gw_mk (i := 173) (by decide +kernel) rfl
theorem fc_X7_28 : Cond.fieldLink RX7 28 "JealousChoir$Stand" (TX7 6).2.1 (TX7 6).2.2.1 ∈ gW := gw_mk (i := 176) (by decide +kernel) rfl
theorem fc_X7_31 : Cond.fieldLink RX7 31 "JealousChoir$Stand" (TX7 7).2.1 (TX7 7).2.2.1 ∈ gW := gw_mk (i := 179) (by decide +kernel) rfl
theorem fc_X7_34 : Cond.fieldLink RX7 34 "JealousChoir$Stand" (TX7 0).2.1 (TX7 0).2.2.1 ∈ gW := gw_mk (i := 160) (by decide +kernel) rfl
theorem fc_X0_11 : Cond.fieldLink RX0 11 "JealousChoir$ActRow" (TX0 0).2.1 (TX0 0).2.2.1 ∈ gW := gw_mk (i := 208) (by decide +kernel) rfl
theorem fc_X0_17 : Cond.fieldLink RX0 17 "JealousChoir$ActRow" (TX0 1).2.1 (TX0 1).2.2.1 ∈ gW := gw_mk (i := 209) (by decide +kernel) rfl
theorem fc_X0_21 : Cond.fieldLink RX0 21 "JealousChoir$ActRow" (TX0 2).2.1 (TX0 2).2.2.1 ∈ gW := gw_mk (i := 210) (by decide +kernel) rfl
theorem fc_X6_11 : Cond.fieldLink RX6 11 "JealousChoir$Shelf" (TX6 0).2.1 (TX6 0).2.2.1 ∈ gW := gw_mk (i := 227) (by decide +kernel) rfl
theorem fc_X6_17 : Cond.fieldLink RX6 17 "JealousChoir$Shelf" (TX6 1).2.1 (TX6 1).2.2.1 ∈ gW := gw_mk (i := 228) (by decide +kernel) rfl
theorem fc_X3_9 : Cond.fieldLink RX3 9 "JealousChoir$Hearsay" (TX3 0).2.1 (TX3 0).2.2.1 ∈ gW := gw_mk (i := 240) (by decide +kernel) rfl
theorem fc_X3_15 : Cond.fieldLink RX3 15 "JealousChoir$Hearsay" (TX3 1).2.1 (TX3 1).2.2.1 ∈ gW := gw_mk (i := 241) (by decide +kernel) rfl
theorem fc_X3_18 : Cond.fieldLink RX3 18 "JealousChoir$Hearsay" (TX3 2).2.1 (TX3 2).2.2.1 ∈ gW := gw_mk (i := 242) (by decide +kernel) rfl
theorem fc_X3_21 : Cond.fieldLink RX3 21 "JealousChoir$Hearsay" (TX3 3).2.1 (TX3 3).2.2.1 ∈ gW := gw_mk (i := 243) (by decide +kernel) rfl
theorem fc_X2_9 : Cond.fieldLink RX2 9 "JealousChoir$Forecast" (TX2 3).2.1 (TX2 3).2.2.1 ∈ gW := gw_mk (i := 263) (by decide +kernel) rfl
theorem fc_X2_15 : Cond.fieldLink RX2 15 "JealousChoir$Forecast" (TX2 0).2.1 (TX2 0).2.2.1 ∈ gW := gw_mk (i := 260) (by decide +kernel) rfl
theorem fc_X2_19 : Cond.fieldLink RX2 19 "JealousChoir$Forecast" (TX2 1).2.1 (TX2 1).2.2.1 ∈ gW := gw_mk (i := 261) (by decide +kernel) rfl
theorem fc_X2_23 : Cond.fieldLink RX2 23 "JealousChoir$Forecast" (TX2 2).2.1 (TX2 2).2.2.1 ∈ gW := gw_mk (i := 262) (by decide +kernel) rfl
theorem fc_X1_9 : Cond.fieldLink RX1 9 "JealousChoir$Chances" (TX1 3).2.1 (TX1 3).2.2.1 ∈ gW := gw_mk (i := 282) (by decide +kernel) rfl
theorem fc_X1_15 : Cond.fieldLink RX1 15 "JealousChoir$Chances" (TX1 4).2.1 (TX1 4).2.2.1 ∈ gW := gw_mk (i := 283) (by decide +kernel) rfl
theorem fc_X1_18 : Cond.fieldLink RX1 18 "JealousChoir$Chances" (TX1 5).2.1 (TX1 5).2.2.1 ∈ gW := gw_mk (i := 284) (by decide +kernel) rfl
theorem fc_X1_21 : Cond.fieldLink RX1 21 "JealousChoir$Chances" (TX1 0).2.1 (TX1 0).2.2.1 ∈ gW := gw_mk (i := 279) (by decide +kernel) rfl
theorem fc_X1_25 : Cond.fieldLink RX1 25 "JealousChoir$Chances" (TX1 1).2.1 (TX1 1).2.2.1 ∈ gW := gw_mk (i := 280) (by decide +kernel) rfl
theorem fc_X1_29 : Cond.fieldLink RX1 29 "JealousChoir$Chances" (TX1 2).2.1 (TX1 2).2.2.1 ∈ gW := gw_mk (i := 281) (by decide +kernel) rfl
theorem fc_X8_7 : Cond.fieldLink RX8 7 "JealousChoir$Years" (TX8 2).2.1 (TX8 2).2.2.1 ∈ gW := gw_mk (i := 306) (by decide +kernel) rfl
theorem fc_X8_13 : Cond.fieldLink RX8 13 "JealousChoir$Years" (TX8 0).2.1 (TX8 0).2.2.1 ∈ gW := gw_mk (i := 304) (by decide +kernel) rfl
theorem fc_X8_17 : Cond.fieldLink RX8 17 "JealousChoir$Years" (TX8 1).2.1 (TX8 1).2.2.1 ∈ gW := gw_mk (i := 305) (by decide +kernel) rfl
theorem fc_X9_10 : Cond.fieldLink RX9 10 "JealousChoir" (TX9 0).2.1 (TX9 0).2.2.1 ∈ gW := gw_mk (i := 315) (by decide +kernel) rfl
theorem fc_X9_19 : Cond.fieldLink RX9 19 "JealousChoir" (TX9 1).2.1 (TX9 1).2.2.1 ∈ gW := gw_mk (i := 316) (by decide +kernel) rfl
theorem fc_X9_28 : Cond.fieldLink RX9 28 "JealousChoir" (TX9 2).2.1 (TX9 2).2.2.1 ∈ gW := gw_mk (i := 317) (by decide +kernel) rfl
theorem fc_X9_32 : Cond.fieldLink RX9 32 "JealousChoir" (TX9 3).2.1 (TX9 3).2.2.1 ∈ gW := gw_mk (i := 318) (by decide +kernel) rfl
theorem fc_X9_38 : Cond.fieldLink RX9 38 "JealousChoir" (TX9 4).2.1 (TX9 4).2.2.1 ∈ gW := gw_mk (i := 319) (by decide +kernel) rfl
theorem fc_X9_45 : Cond.fieldLink RX9 45 "JealousChoir" (TX9 5).2.1 (TX9 5).2.2.1 ∈ gW := gw_mk (i := 320) (by decide +kernel) rfl
theorem fc_X9_52 : Cond.fieldLink RX9 52 "JealousChoir" (TX9 6).2.1 (TX9 6).2.2.1 ∈ gW := gw_mk (i := 321) (by decide +kernel) rfl
theorem fc_X9_61 : Cond.fieldLink RX9 61 "JealousChoir" (TX9 7).2.1 (TX9 7).2.2.1 ∈ gW := gw_mk (i := 322) (by decide +kernel) rfl
theorem fc_X9_68 : Cond.fieldLink RX9 68 "JealousChoir" (TX9 8).2.1 (TX9 8).2.2.1 ∈ gW := gw_mk (i := 323) (by decide +kernel) rfl
theorem fc_X9_77 : Cond.fieldLink RX9 77 "JealousChoir" (TX9 9).2.1 (TX9 9).2.2.1 ∈ gW := gw_mk (i := 324) (by decide +kernel) rfl
theorem fc_X10_7 : Cond.fieldLink RX10 7 "JealousChoirModel" (TX10 1).2.1 (TX10 1).2.2.1 ∈ gW := gw_mk (i := 773) (by decide +kernel) rfl
theorem fc_X10_13 : Cond.fieldLink RX10 13 "JealousChoirModel" (TX10 2).2.1 (TX10 2).2.2.1 ∈ gW := gw_mk (i := 774) (by decide +kernel) rfl
theorem fc_X10_16 : Cond.fieldLink RX10 16 "JealousChoirModel" (TX10 3).2.1 (TX10 3).2.2.1 ∈ gW := gw_mk (i := 775) (by decide +kernel) rfl
theorem fc_X10_19 : Cond.fieldLink RX10 19 "JealousChoirModel" (TX10 4).2.1 (TX10 4).2.2.1 ∈ gW := gw_mk (i := 776) (by decide +kernel) rfl
theorem fc_X10_22 : Cond.fieldLink RX10 22 "JealousChoirModel" (TX10 5).2.1 (TX10 5).2.2.1 ∈ gW := gw_mk (i := 777) (by decide +kernel) rfl
theorem fc_X10_25 : Cond.fieldLink RX10 25 "JealousChoirModel" (TX10 8).2.1 (TX10 8).2.2.1 ∈ gW := gw_mk (i := 780) (by decide +kernel) rfl
theorem fc_X10_28 : Cond.fieldLink RX10 28 "JealousChoirModel" (TX10 12).2.1 (TX10 12).2.2.1 ∈ gW := gw_mk (i := 784) (by decide +kernel) rfl
theorem fc_X10_32 : Cond.fieldLink RX10 32 "JealousChoirModel" (TX10 13).2.1 (TX10 13).2.2.1 ∈ gW := gw_mk (i := 785) (by decide +kernel) rfl
theorem fc_X10_35 : Cond.fieldLink RX10 35 "JealousChoirModel" (TX10 16).2.1 (TX10 16).2.2.1 ∈ gW := gw_mk (i := 788) (by decide +kernel) rfl
theorem fc_X10_38 : Cond.fieldLink RX10 38 "JealousChoirModel" (TX10 17).2.1 (TX10 17).2.2.1 ∈ gW := gw_mk (i := 789) (by decide +kernel) rfl
theorem fc_X10_41 : Cond.fieldLink RX10 41 "JealousChoirModel" (TX10 19).2.1 (TX10 19).2.2.1 ∈ gW := gw_mk (i := 791) (by decide +kernel) rfl
theorem fc_X10_44 : Cond.fieldLink RX10 44 "JealousChoirModel" (TX10 20).2.1 (TX10 20).2.2.1 ∈ gW := gw_mk (i := 792) (by decide +kernel) rfl
theorem fc_X10_47 : Cond.fieldLink RX10 47 "JealousChoirModel" (TX10 21).2.1 (TX10 21).2.2.1 ∈ gW := gw_mk (i := 793) (by decide +kernel) rfl
theorem fc_X10_50 : Cond.fieldLink RX10 50 "JealousChoirModel" (TX10 23).2.1 (TX10 23).2.2.1 ∈ gW := gw_mk (i := 795) (by decide +kernel) rfl
theorem fc_X10_54 : Cond.fieldLink RX10 54 "JealousChoirModel" (TX10 24).2.1 (TX10 24).2.2.1 ∈ gW := gw_mk (i := 796) (by decide +kernel) rfl
