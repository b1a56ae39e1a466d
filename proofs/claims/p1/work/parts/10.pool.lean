def rm_X0_close : Room := { frames := 2, cells := 0, slots := 0, locals := 46 }
def rm_X0_init : Room := { frames := 2, cells := 4, slots := 104, locals := 40 }
def rm_X0_join : Room := { frames := 1, cells := 0, slots := 0, locals := 24 }
def rm_X0_orderRead : Room := { frames := 2, cells := 0, slots := 0, locals := 46 }
def rm_X0_orderWrite : Room := { frames := 2, cells := 0, slots := 0, locals := 46 }
def rm_X0_tell : Room := { frames := 0, cells := 0, slots := 0, locals := 0 }
def rm_X0_tick : Room := { frames := 4, cells := 0, slots := 0, locals := 86 }
def rm_X10_init : Room := { frames := 1, cells := 1, slots := 23, locals := 20 }
def rm_X11_ask : Room := { frames := 3, cells := 0, slots := 0, locals := 73 }
def rm_X11_busy : Room := { frames := 2, cells := 0, slots := 0, locals := 43 }
def rm_X11_connect : Room := { frames := 2, cells := 0, slots := 0, locals := 45 }
def rm_X11_connection : Room := { frames := 2, cells := 0, slots := 0, locals := 43 }
def rm_X11_count : Room := { frames := 0, cells := 0, slots := 0, locals := 0 }
def rm_X11_coupler : Room := { frames := 4, cells := 0, slots := 0, locals := 85 }
def rm_X11_device : Room := { frames := 4, cells := 0, slots := 0, locals := 85 }
def rm_X11_deviceAt : Room := { frames := 1, cells := 0, slots := 0, locals := 22 }
def rm_X11_disconnect : Room := { frames := 3, cells := 0, slots := 0, locals := 66 }
def rm_X11_end : Room := { frames := 0, cells := 0, slots := 0, locals := 0 }
def rm_X11_feed : Room := { frames := 1, cells := 0, slots := 0, locals := 22 }
def rm_X11_feedNumber : Room := { frames := 0, cells := 0, slots := 0, locals := 0 }
def rm_X11_filter : Room := { frames := 2, cells := 0, slots := 0, locals := 45 }
def rm_X11_filterAt : Room := { frames := 1, cells := 0, slots := 0, locals := 22 }
def rm_X11_flags : Room := { frames := 3, cells := 0, slots := 0, locals := 66 }
def rm_X11_harm : Room := { frames := 1, cells := 0, slots := 0, locals := 24 }
def rm_X11_hasDeviceOf : Room := { frames := 0, cells := 0, slots := 0, locals := 0 }
def rm_X11_hundredths : Room := { frames := 3, cells := 0, slots := 0, locals := 66 }
def rm_X11_init : Room := { frames := 2, cells := 14, slots := 364, locals := 40 }
def rm_X11_isWithin : Room := { frames := 0, cells := 0, slots := 0, locals := 0 }
def rm_X11_joinLines : Room := { frames := 2, cells := 0, slots := 0, locals := 45 }
def rm_X11_line : Room := { frames := 4, cells := 20, slots := 270, locals := 85 }
def rm_X11_lineAt : Room := { frames := 1, cells := 0, slots := 0, locals := 22 }
def rm_X11_lineOfNumber : Room := { frames := 0, cells := 0, slots := 0, locals := 0 }
def rm_X11_link : Room := { frames := 3, cells := 0, slots := 0, locals := 66 }
def rm_X11_memory : Room := { frames := 2, cells := 0, slots := 0, locals := 43 }
def rm_X11_mode : Room := { frames := 2, cells := 0, slots := 0, locals := 43 }
def rm_X11_object : Room := { frames := 3, cells := 0, slots := 0, locals := 66 }
def rm_X11_objectAt : Room := { frames := 2, cells := 0, slots := 0, locals := 43 }
def rm_X11_peek : Room := { frames := 3, cells := 0, slots := 0, locals := 68 }
def rm_X11_point : Room := { frames := 4, cells := 0, slots := 0, locals := 99 }
def rm_X11_poke : Room := { frames := 3, cells := 0, slots := 0, locals := 70 }
def rm_X11_raw : Room := { frames := 6, cells := 0, slots := 0, locals := 90 }
def rm_X11_reply : Room := { frames := 2, cells := 0, slots := 0, locals := 43 }
def rm_X11_sent : Room := { frames := 6, cells := 1, slots := 6, locals := 90 }
def rm_X11_set : Room := { frames := 3, cells := 0, slots := 0, locals := 75 }
def rm_X11_step : Room := { frames := 10, cells := 1, slots := 6, locals := 193 }
def rm_X11_store : Room := { frames := 2, cells := 0, slots := 0, locals := 43 }
def rm_X11_transmit : Room := { frames := 9, cells := 0, slots := 0, locals := 163 }
def rm_X11_updated : Room := { frames := 3, cells := 0, slots := 0, locals := 66 }
def rm_X11_value : Room := { frames := 3, cells := 0, slots := 0, locals := 66 }
def rm_X11_withPoint : Room := { frames := 1, cells := 0, slots := 0, locals := 22 }
def rm_X12_init : Room := { frames := 2, cells := 35, slots := 578, locals := 40 }
def rm_X13_init : Room := { frames := 2, cells := 25, slots := 453, locals := 40 }
def rm_X14_init : Room := { frames := 1, cells := 13, slots := 224, locals := 20 }
def rm_X15_ask : Room := { frames := 3, cells := 0, slots := 0, locals := 65 }
def rm_X15_busy : Room := { frames := 2, cells := 0, slots := 0, locals := 43 }
def rm_X15_closes : Room := { frames := 3, cells := 0, slots := 0, locals := 74 }
def rm_X15_comes : Room := { frames := 0, cells := 0, slots := 0, locals := 0 }
def rm_X15_connect : Room := { frames := 3, cells := 0, slots := 0, locals := 74 }
def rm_X15_connection : Room := { frames := 2, cells := 0, slots := 0, locals := 43 }
def rm_X15_count : Room := { frames := 0, cells := 0, slots := 0, locals := 0 }
def rm_X15_coupler : Room := { frames := 2, cells := 0, slots := 0, locals := 43 }
def rm_X15_device : Room := { frames := 2, cells := 0, slots := 0, locals := 43 }
def rm_X15_disconnect : Room := { frames := 4, cells := 0, slots := 0, locals := 96 }
def rm_X15_end : Room := { frames := 1, cells := 0, slots := 0, locals := 22 }
def rm_X15_feed : Room := { frames := 0, cells := 0, slots := 0, locals := 0 }
def rm_X15_filter : Room := { frames := 2, cells := 0, slots := 0, locals := 43 }
def rm_X15_flags : Room := { frames := 3, cells := 0, slots := 0, locals := 65 }
def rm_X15_goesOn : Room := { frames := 9, cells := 0, slots := 0, locals := 214 }
def rm_X15_harm : Room := { frames := 1, cells := 0, slots := 0, locals := 22 }
def rm_X15_hundredths : Room := { frames := 3, cells := 0, slots := 0, locals := 65 }
def rm_X15_in : Room := { frames := 0, cells := 0, slots := 0, locals := 0 }
def rm_X15_init : Room := { frames := 3, cells := 910, slots := 16421, locals := 60 }
def rm_X15_isCoupler : Room := { frames := 1, cells := 0, slots := 0, locals := 22 }
def rm_X15_isDevice : Room := { frames := 1, cells := 0, slots := 0, locals := 22 }
def rm_X15_isJoined : Room := { frames := 0, cells := 0, slots := 0, locals := 0 }
def rm_X15_isLine : Room := { frames := 1, cells := 0, slots := 0, locals := 22 }
def rm_X15_isObject : Room := { frames := 2, cells := 0, slots := 0, locals := 43 }
def rm_X15_line : Room := { frames := 1, cells := 0, slots := 0, locals := 23 }
def rm_X15_lineOf : Room := { frames := 0, cells := 0, slots := 0, locals := 0 }
def rm_X15_link : Room := { frames := 3, cells := 0, slots := 0, locals := 65 }
def rm_X15_mayOrder : Room := { frames := 2, cells := 0, slots := 0, locals := 43 }
def rm_X15_memory : Room := { frames := 2, cells := 0, slots := 0, locals := 43 }
def rm_X15_mode : Room := { frames := 2, cells := 0, slots := 0, locals := 43 }
def rm_X15_object : Room := { frames := 2, cells := 0, slots := 0, locals := 43 }
def rm_X15_ownGroup : Room := { frames := 0, cells := 0, slots := 0, locals := 0 }
def rm_X15_peek : Room := { frames := 3, cells := 0, slots := 0, locals := 75 }
def rm_X15_point : Room := { frames := 4, cells := 0, slots := 0, locals := 102 }
def rm_X15_poke : Room := { frames := 3, cells := 0, slots := 0, locals := 75 }
def rm_X15_raw : Room := { frames := 2, cells := 0, slots := 0, locals := 43 }
def rm_X15_reply : Room := { frames := 2, cells := 0, slots := 0, locals := 43 }
def rm_X15_sendsData : Room := { frames := 2, cells := 0, slots := 0, locals := 51 }
def rm_X15_sent : Room := { frames := 1, cells := 0, slots := 0, locals := 22 }
def rm_X15_set : Room := { frames := 4, cells := 0, slots := 0, locals := 102 }
def rm_X15_sets : Room := { frames := 3, cells := 0, slots := 0, locals := 77 }
def rm_X15_step : Room := { frames := 10, cells := 0, slots := 0, locals := 240 }
def rm_X15_store : Room := { frames := 2, cells := 0, slots := 0, locals := 43 }
def rm_X15_tells : Room := { frames := 1, cells := 0, slots := 0, locals := 24 }
def rm_X15_tellsOne : Room := { frames := 2, cells := 0, slots := 0, locals := 51 }
def rm_X15_thrown : Room := { frames := 0, cells := 0, slots := 0, locals := 0 }
def rm_X15_times : Room := { frames := 5, cells := 0, slots := 0, locals := 118 }
def rm_X15_updated : Room := { frames := 3, cells := 0, slots := 0, locals := 65 }
def rm_X15_value : Room := { frames := 3, cells := 0, slots := 0, locals := 65 }
def rm_X1_addLink : Room := { frames := 2, cells := 0, slots := 0, locals := 43 }
def rm_X1_addObject : Room := { frames := 2, cells := 1, slots := 5, locals := 43 }
def rm_X1_askGroup : Room := { frames := 2, cells := 0, slots := 0, locals := 50 }
def rm_X1_changeObject : Room := { frames := 2, cells := 0, slots := 0, locals := 50 }
def rm_X1_findObject : Room := { frames := 1, cells := 0, slots := 0, locals := 22 }
def rm_X1_init : Room := { frames := 3, cells := 5, slots := 88, locals := 61 }
def rm_X2_change : Room := { frames := 1, cells := 0, slots := 0, locals := 22 }
def rm_X2_init : Room := { frames := 1, cells := 1, slots := 64, locals := 20 }
def rm_X4_add : Room := { frames := 0, cells := 0, slots := 0, locals := 0 }
def rm_X4_init : Room := { frames := 1, cells := 3, slots := 192, locals := 20 }
def rm_X5_addDevice : Room := { frames := 0, cells := 0, slots := 0, locals := 0 }
def rm_X5_addPort : Room := { frames := 0, cells := 0, slots := 0, locals := 0 }
def rm_X5_chooseSender : Room := { frames := 3, cells := 0, slots := 0, locals := 61 }
def rm_X5_init : Room := { frames := 3, cells := 19, slots := 264, locals := 62 }
def rm_X5_isJoinedWith : Room := { frames := 0, cells := 0, slots := 0, locals := 0 }
def rm_X6_init : Room := { frames := 3, cells := 2, slots := 28, locals := 61 }
def rm_X7_add : Room := { frames := 0, cells := 0, slots := 0, locals := 0 }
def rm_X7_init : Room := { frames := 2, cells := 17, slots := 232, locals := 40 }
def rm_X7_isFull : Room := { frames := 0, cells := 0, slots := 0, locals := 0 }
def rm_X9_init : Room := { frames := 1, cells := 0, slots := 0, locals := 20 }
theorem zin_X4 : ∀ w ∈ u_ws RX4 TX4 4, w ∈ zT := zT_lay [83, 85, 87, 89] (by decide +kernel) (by decide +kernel)
theorem zin_X10 : ∀ w ∈ u_ws RX10 TX10 5, w ∈ zT := zT_lay [117, 119, 121, 123, 125] (by decide +kernel) (by decide +kernel)
theorem zin_X7 : ∀ w ∈ u_ws RX7 TX7 3, w ∈ zT := zT_lay [206, 208, 210] (by decide +kernel) (by decide +kernel)
theorem zin_X5 : ∀ w ∈ u_ws RX5 TX5 6, w ∈ zT := zT_lay [226, 228, 230, 232, 234, 236] (by decide +kernel) (by decide +kernel)
theorem zin_X9 : ∀ w ∈ u_ws RX9 TX9 7, w ∈ zT := zT_lay [49, 51, 53, 55, 57, 59, 61] (by decide +kernel) (by decide +kernel)
theorem zin_X11 : ∀ w ∈ u_ws RX11 TX11 15, w ∈ zT := zT_lay [143, 145, 147, 149, 151, 153, 155, 157, 159, 161, 163, 165, 167, 169, 171] (by decide +kernel) (by decide +kernel)
theorem zin_X1 : ∀ w ∈ u_ws RX1 TX1 11, w ∈ zT := zT_lay [366, 368, 348, 350, 352, 354, 356, 358, 360, 362, 364] (by decide +kernel) (by decide +kernel)
theorem zin_X0 : ∀ w ∈ u_ws RX0 TX0 15, w ∈ zT := zT_lay [281, 283, 285, 287, 289, 291, 293, 295, 297, 299, 301, 303, 305, 307, 309] (by decide +kernel) (by decide +kernel)
theorem zin_X2 : ∀ w ∈ u_ws RX2 TX2 3, w ∈ zT := zT_lay [392, 394, 396] (by decide +kernel) (by decide +kernel)
theorem zin_X6 : ∀ w ∈ u_ws RX6 TX6 5, w ∈ zT := zT_lay [413, 414, 407, 409, 411] (by decide +kernel) (by decide +kernel)
theorem zin_X3 : ∀ w ∈ u_ws RX3 TX3 5, w ∈ zT := zT_lay [483, 485, 487, 489, 491] (by decide +kernel) (by decide +kernel)
theorem zin_X14 : ∀ w ∈ u_ws RX14 TX14 6, w ∈ zT := zT_lay [1034, 1036, 1038, 1040, 1042, 1044] (by decide +kernel) (by decide +kernel)
theorem zin_X13 : ∀ w ∈ u_ws RX13 TX13 28, w ∈ zT := zT_lay [1089, 1091, 1093, 1095, 1097, 1099, 1101, 1103, 1105, 1107, 1109, 1111, 1113, 1115, 1117, 1119, 1121, 1123, 1125, 1127, 1129, 1131, 1133, 1135, 1137, 1139, 1141, 1143] (by decide +kernel) (by decide +kernel)
theorem zin_X12 : ∀ w ∈ u_ws RX12 TX12 7, w ∈ zT := zT_lay [1166, 1168, 1170, 1172, 1174, 1176, 1178] (by decide +kernel) (by decide +kernel)
theorem zin_X15 : ∀ w ∈ u_ws RX15 TX15 40, w ∈ zT := zT_lay [1222, 1224, 1226, 1228, 1230, 1232, 1234, 1236, 1238, 1240, 1242, 1244, 1246, 1248, 1250, 1252, 1254, 1256, 1258, 1260, 1262, 1264, 1266, 1268, 1270, 1272, 1274, 1276, 1278, 1280, 1282, 1284, 1286, 1288, 1290, 1292, 1294, 1296, 1298, 1300] (by decide +kernel) (by decide +kernel)
theorem zob_X9_1 : Cond.methodLink RX9 1 objectInit ∈ zT := zT_tab 37 (by decide +kernel) rfl
theorem zob_1 : Cond.instanceMethod objectInit ∈ zT := zT_tab 30 (by decide +kernel) rfl
theorem zob_2 : Cond.code objectInit ⟨#[0xb1]⟩ 1 none ∈ zT := zT_tab 31 (by decide +kernel) rfl
theorem zob_X4_3 : Cond.methodLink RX4 3 objectInit ∈ zT := zT_tab 77 (by decide +kernel) rfl
theorem zac_int : Cond.arrayClass .int ∈ zT := zT_tab 92 (by decide +kernel) rfl
theorem zp_X4_9_4 : zFldP RX4 9 4 0 true true := ⟨RX4, TX4, 4, "HouseWires$Harms", tyX4, rfl, by decide, zin_X4, zT_tab 78 (by decide +kernel) rfl, Or.inl rfl, rfl, by decide, tyX4_ok, nmX4, rfl, fun _ => rfl, (fun h => nomatch h), fun _ => rfl⟩
theorem zp_X4_15_4 : zFldP RX4 15 4 1 true true := ⟨RX4, TX4, 4, "HouseWires$Harms", tyX4, rfl, by decide, zin_X4, zT_tab 79 (by decide +kernel) rfl, Or.inl rfl, rfl, by decide, tyX4_ok, nmX4, rfl, fun _ => rfl, (fun h => nomatch h), fun _ => rfl⟩
theorem zp_X4_18_4 : zFldP RX4 18 4 2 true true := ⟨RX4, TX4, 4, "HouseWires$Harms", tyX4, rfl, by decide, zin_X4, zT_tab 80 (by decide +kernel) rfl, Or.inl rfl, rfl, by decide, tyX4_ok, nmX4, rfl, fun _ => rfl, (fun h => nomatch h), fun _ => rfl⟩
theorem zf_X4_21_4 : zFld RX4 21 4 3 false := ⟨RX4, TX4, 4, "HouseWires$Harms", rfl, by decide, zin_X4, zT_tab 81 (by decide +kernel) rfl, Or.inl rfl, rfl, by decide⟩
theorem zf_X4_9_4 : zFld RX4 9 4 0 true := ⟨RX4, TX4, 4, "HouseWires$Harms", rfl, by decide, zin_X4, zT_tab 78 (by decide +kernel) rfl, Or.inl rfl, rfl, by decide⟩
theorem zf_X4_15_4 : zFld RX4 15 4 1 true := ⟨RX4, TX4, 4, "HouseWires$Harms", rfl, by decide, zin_X4, zT_tab 79 (by decide +kernel) rfl, Or.inl rfl, rfl, by decide⟩
theorem zf_X4_18_4 : zFld RX4 18 4 2 true := ⟨RX4, TX4, 4, "HouseWires$Harms", rfl, by decide, zin_X4, zT_tab 80 (by decide +kernel) rfl, Or.inl rfl, rfl, by decide⟩
theorem zp_X4_21_4 : zFldP RX4 21 4 3 false false := ⟨RX4, TX4, 4, "HouseWires$Harms", tyX4, rfl, by decide, zin_X4, zT_tab 81 (by decide +kernel) rfl, Or.inl rfl, rfl, by decide, tyX4_ok, nmX4, rfl, (fun h => nomatch h), fun _ => rfl, (fun h => nomatch h)⟩
theorem zob_X10_3 : Cond.methodLink RX10 3 objectInit ∈ zT := zT_tab 98 (by decide +kernel) rfl
theorem zp_X10_9_9 : zFldP RX10 9 9 0 true true := ⟨RX10, TX10, 5, "HouseWires$Telegram", tyX10, rfl, by decide, zin_X10, zT_tab 99 (by decide +kernel) rfl, Or.inl rfl, rfl, by decide, tyX10_ok, nmX10, rfl, fun _ => rfl, (fun h => nomatch h), fun _ => rfl⟩
theorem zob_X7_3 : Cond.methodLink RX7 3 objectInit ∈ zT := zT_tab 195 (by decide +kernel) rfl
theorem zp_X7_9_7 : zFldP RX7 9 7 1 true true := ⟨RX7, TX7, 3, "HouseWires$Row", tyX7, rfl, by decide, zin_X7, zT_tab 201 (by decide +kernel) rfl, Or.inl rfl, rfl, by decide, tyX7_ok, nmX7, rfl, fun _ => rfl, (fun h => nomatch h), fun _ => rfl⟩
theorem zcl_X7_15 : Cond.classLink RX7 15 "HouseWires$Telegram" ∈ zT := zT_tab 196 (by decide +kernel) rfl
theorem zp_X7_17_7 : zFldP RX7 17 7 0 true true := ⟨RX7, TX7, 3, "HouseWires$Row", tyX7, rfl, by decide, zin_X7, zT_tab 199 (by decide +kernel) rfl, Or.inl rfl, rfl, by decide, tyX7_ok, nmX7, rfl, fun _ => rfl, (fun h => nomatch h), fun _ => rfl⟩
theorem zf_X7_17_7 : zFld RX7 17 7 0 true := ⟨RX7, TX7, 3, "HouseWires$Row", rfl, by decide, zin_X7, zT_tab 199 (by decide +kernel) rfl, Or.inl rfl, rfl, by decide⟩
theorem zn_X7_15 : zNew RX7 15 9 5 := ⟨RX10, TX10, tyX10, rfl, zin_X10, tyX10_ok, zT_tab 196 (by decide +kernel) rfl, zT_tab 94 (by decide +kernel) rfl, zT_tab 4 (by decide +kernel) rfl, by decide +kernel, by decide⟩
theorem zc_X7_21 : zCIN RX7 21 yX10_init cX10_init 1 0 := ⟨⟨"HouseWires", by decide +kernel⟩, zT_tab 96 (by decide +kernel) rfl, zT_tab 4 (by decide +kernel) rfl, zT_tab 97 (by decide +kernel) rfl, rfl, by decide +kernel, by decide +kernel, by decide +kernel⟩
theorem zob_X5_3 : Cond.methodLink RX5 3 objectInit ∈ zT := zT_tab 189 (by decide +kernel) rfl
theorem zp_X5_9_5 : zFldP RX5 9 5 0 false true := ⟨RX5, TX5, 6, "HouseWires$Line", tyX5, rfl, by decide, zin_X5, zT_tab 215 (by decide +kernel) rfl, Or.inl rfl, rfl, by decide, tyX5_ok, nmX5, rfl, fun _ => rfl, fun _ => rfl, (fun h => nomatch h)⟩
theorem zp_X5_15_5 : zFldP RX5 15 5 5 false false := ⟨RX5, TX5, 6, "HouseWires$Line", tyX5, rfl, by decide, zin_X5, zT_tab 224 (by decide +kernel) rfl, Or.inl rfl, rfl, by decide, tyX5_ok, nmX5, rfl, (fun h => nomatch h), fun _ => rfl, (fun h => nomatch h)⟩
theorem zn_X5_18 : zNew RX5 18 7 3 := ⟨RX7, TX7, tyX7, rfl, zin_X7, tyX7_ok, zT_tab 190 (by decide +kernel) rfl, zT_tab 191 (by decide +kernel) rfl, zT_tab 10 (by decide +kernel) rfl, by decide +kernel, by decide⟩
theorem zc_X5_20 : zCI RX5 20 yX7_init cX7_init 3 1 := ⟨zT_tab 192 (by decide +kernel) rfl, zT_tab 193 (by decide +kernel) rfl, zT_tab 10 (by decide +kernel) rfl, zT_tab 194 (by decide +kernel) rfl, rfl, by decide +kernel, by decide +kernel, by decide +kernel⟩
theorem zp_X5_23_5 : zFldP RX5 23 5 1 true true := ⟨RX5, TX5, 6, "HouseWires$Line", tyX5, rfl, by decide, zin_X5, zT_tab 217 (by decide +kernel) rfl, Or.inl rfl, rfl, by decide, tyX5_ok, nmX5, rfl, fun _ => rfl, (fun h => nomatch h), fun _ => rfl⟩
theorem zcl_X5_27 : Cond.classLink RX5 27 "HouseWires$Station" ∈ zT := zT_tab 213 (by decide +kernel) rfl
theorem zp_X5_29_5 : zFldP RX5 29 5 2 true true := ⟨RX5, TX5, 6, "HouseWires$Line", tyX5, rfl, by decide, zin_X5, zT_tab 219 (by decide +kernel) rfl, Or.inl rfl, rfl, by decide, tyX5_ok, nmX5, rfl, fun _ => rfl, (fun h => nomatch h), fun _ => rfl⟩
theorem zob_X11_1 : Cond.methodLink RX11 1 objectInit ∈ zT := zT_tab 29 (by decide +kernel) rfl
theorem zn_X11_7 : zNew RX11 7 8 7 := ⟨RX9, TX9, tyX9, rfl, zin_X9, tyX9_ok, zT_tab 32 (by decide +kernel) rfl, zT_tab 33 (by decide +kernel) rfl, zT_tab 2 (by decide +kernel) rfl, by decide +kernel, by decide⟩
theorem zc_X11_9 : zCIN RX11 9 yX9_init cX9_init 1 0 := ⟨⟨"HouseWires", by decide +kernel⟩, zT_tab 35 (by decide +kernel) rfl, zT_tab 2 (by decide +kernel) rfl, zT_tab 36 (by decide +kernel) rfl, rfl, by decide +kernel, by decide +kernel, by decide +kernel⟩
theorem zp_X11_10_10 : zFldP RX11 10 10 0 true true := ⟨RX11, TX11, 15, "HouseWires", tyX11, rfl, by decide, zin_X11, zT_tab 128 (by decide +kernel) rfl, Or.inl rfl, rfl, by decide, tyX11_ok, nmX11, rfl, fun _ => rfl, (fun h => nomatch h), fun _ => rfl⟩
theorem zcl_X11_16 : Cond.classLink RX11 16 "HouseWires$Line" ∈ zT := zT_tab 64 (by decide +kernel) rfl
theorem zp_X11_18_10 : zFldP RX11 18 10 1 true true := ⟨RX11, TX11, 15, "HouseWires", tyX11, rfl, by decide, zin_X11, zT_tab 129 (by decide +kernel) rfl, Or.inl rfl, rfl, by decide, tyX11_ok, nmX11, rfl, fun _ => rfl, (fun h => nomatch h), fun _ => rfl⟩
theorem zcl_X11_22 : Cond.classLink RX11 22 "HouseWires$Device" ∈ zT := zT_tab 66 (by decide +kernel) rfl
theorem zp_X11_24_10 : zFldP RX11 24 10 2 true true := ⟨RX11, TX11, 15, "HouseWires", tyX11, rfl, by decide, zin_X11, zT_tab 130 (by decide +kernel) rfl, Or.inl rfl, rfl, by decide, tyX11_ok, nmX11, rfl, fun _ => rfl, (fun h => nomatch h), fun _ => rfl⟩
theorem zcl_X11_28 : Cond.classLink RX11 28 "HouseWires$Filter" ∈ zT := zT_tab 68 (by decide +kernel) rfl
theorem zp_X11_30_10 : zFldP RX11 30 10 3 true true := ⟨RX11, TX11, 15, "HouseWires", tyX11, rfl, by decide, zin_X11, zT_tab 131 (by decide +kernel) rfl, Or.inl rfl, rfl, by decide, tyX11_ok, nmX11, rfl, fun _ => rfl, (fun h => nomatch h), fun _ => rfl⟩
theorem zcl_X11_34 : Cond.classLink RX11 34 "HouseWires$Port" ∈ zT := zT_tab 70 (by decide +kernel) rfl
theorem zp_X11_36_10 : zFldP RX11 36 10 4 true true := ⟨RX11, TX11, 15, "HouseWires", tyX11, rfl, by decide, zin_X11, zT_tab 132 (by decide +kernel) rfl, Or.inl rfl, rfl, by decide, tyX11_ok, nmX11, rfl, fun _ => rfl, (fun h => nomatch h), fun _ => rfl⟩
theorem zn_X11_40 : zNew RX11 40 4 4 := ⟨RX4, TX4, tyX4, rfl, zin_X4, tyX4_ok, zT_tab 72 (by decide +kernel) rfl, zT_tab 73 (by decide +kernel) rfl, zT_tab 3 (by decide +kernel) rfl, by decide +kernel, by decide⟩
theorem zc_X11_42 : zCIN RX11 42 yX4_init cX4_init 1 0 := ⟨⟨"HouseWires", by decide +kernel⟩, zT_tab 75 (by decide +kernel) rfl, zT_tab 3 (by decide +kernel) rfl, zT_tab 76 (by decide +kernel) rfl, rfl, by decide +kernel, by decide +kernel, by decide +kernel⟩
theorem zp_X11_43_10 : zFldP RX11 43 10 5 true true := ⟨RX11, TX11, 15, "HouseWires", tyX11, rfl, by decide, zin_X11, zT_tab 133 (by decide +kernel) rfl, Or.inl rfl, rfl, by decide, tyX11_ok, nmX11, rfl, fun _ => rfl, (fun h => nomatch h), fun _ => rfl⟩
theorem zp_X11_47_10 : zFldP RX11 47 10 6 true true := ⟨RX11, TX11, 15, "HouseWires", tyX11, rfl, by decide, zin_X11, zT_tab 134 (by decide +kernel) rfl, Or.inl rfl, rfl, by decide, tyX11_ok, nmX11, rfl, fun _ => rfl, (fun h => nomatch h), fun _ => rfl⟩
theorem zn_X11_51 : zNew RX11 51 9 5 := ⟨RX10, TX10, tyX10, rfl, zin_X10, tyX10_ok, zT_tab 93 (by decide +kernel) rfl, zT_tab 94 (by decide +kernel) rfl, zT_tab 4 (by decide +kernel) rfl, by decide +kernel, by decide⟩
theorem zc_X11_53 : zCIN RX11 53 yX10_init cX10_init 1 0 := ⟨⟨"HouseWires", by decide +kernel⟩, zT_tab 96 (by decide +kernel) rfl, zT_tab 4 (by decide +kernel) rfl, zT_tab 97 (by decide +kernel) rfl, rfl, by decide +kernel, by decide +kernel, by decide +kernel⟩
theorem zp_X11_54_10 : zFldP RX11 54 10 7 true true := ⟨RX11, TX11, 15, "HouseWires", tyX11, rfl, by decide, zin_X11, zT_tab 135 (by decide +kernel) rfl, Or.inl rfl, rfl, by decide, tyX11_ok, nmX11, rfl, fun _ => rfl, (fun h => nomatch h), fun _ => rfl⟩
theorem zp_X11_58_10 : zFldP RX11 58 10 8 true true := ⟨RX11, TX11, 15, "HouseWires", tyX11, rfl, by decide, zin_X11, zT_tab 136 (by decide +kernel) rfl, Or.inl rfl, rfl, by decide, tyX11_ok, nmX11, rfl, fun _ => rfl, (fun h => nomatch h), fun _ => rfl⟩
theorem zp_X11_61_10 : zFldP RX11 61 10 13 false false := ⟨RX11, TX11, 15, "HouseWires", tyX11, rfl, by decide, zin_X11, zT_tab 141 (by decide +kernel) rfl, Or.inl rfl, rfl, by decide, tyX11_ok, nmX11, rfl, (fun h => nomatch h), fun _ => rfl, (fun h => nomatch h)⟩
theorem zp_X11_65_10 : zFldP RX11 65 10 14 false false := ⟨RX11, TX11, 15, "HouseWires", tyX11, rfl, by decide, zin_X11, zT_tab 142 (by decide +kernel) rfl, Or.inl rfl, rfl, by decide, tyX11_ok, nmX11, rfl, (fun h => nomatch h), fun _ => rfl, (fun h => nomatch h)⟩
theorem zf_X11_68_10 : zFld RX11 68 10 9 false := ⟨RX11, TX11, 15, "HouseWires", rfl, by decide, zin_X11, zT_tab 137 (by decide +kernel) rfl, Or.inl rfl, rfl, by decide⟩
theorem zc_X11_71 : zCS RX11 71 yX11_isWithin cX11_isWithin 3 (some .boolean) 3 := ⟨zT_tab 178 (by decide +kernel) rfl, zT_tab 179 (by decide +kernel) rfl, zT_tab 1 (by decide +kernel) rfl, zT_tab 180 (by decide +kernel) rfl, by decide +kernel, by decide +kernel, by decide +kernel⟩
theorem zc_X11_75 : zCV RX11 75 10 yX11_lineOfNumber cX11_lineOfNumber 3 (some .int) 1 := ⟨RX11, TX11, 15, rfl, zT_tab 181 (by decide +kernel) rfl, zT_tab 183 (by decide +kernel) rfl, zT_prv 0 (by decide +kernel) rfl, zT_tab 1 (by decide +kernel) rfl, zT_tab 184 (by decide +kernel) rfl, by decide, rfl, by decide +kernel, by decide +kernel, by decide +kernel⟩
theorem zf_X11_18_10 : zFld RX11 18 10 1 true := ⟨RX11, TX11, 15, "HouseWires", rfl, by decide, zin_X11, zT_tab 129 (by decide +kernel) rfl, Or.inl rfl, rfl, by decide⟩
theorem zn_X11_16 : zNew RX11 16 5 6 := ⟨RX5, TX5, tyX5, rfl, zin_X5, tyX5_ok, zT_tab 64 (by decide +kernel) rfl, zT_tab 185 (by decide +kernel) rfl, zT_tab 9 (by decide +kernel) rfl, by decide +kernel, by decide⟩
theorem zf_X11_10_10 : zFld RX11 10 10 0 true := ⟨RX11, TX11, 15, "HouseWires", rfl, by decide, zin_X11, zT_tab 128 (by decide +kernel) rfl, Or.inl rfl, rfl, by decide⟩
theorem zc_X11_79 : zCI RX11 79 yX5_init cX5_init 4 3 := ⟨zT_tab 186 (by decide +kernel) rfl, zT_tab 187 (by decide +kernel) rfl, zT_tab 9 (by decide +kernel) rfl, zT_tab 188 (by decide +kernel) rfl, rfl, by decide +kernel, by decide +kernel, by decide +kernel⟩
theorem zp_X11_68_10 : zFldP RX11 68 10 9 false false := ⟨RX11, TX11, 15, "HouseWires", tyX11, rfl, by decide, zin_X11, zT_tab 137 (by decide +kernel) rfl, Or.inl rfl, rfl, by decide, tyX11_ok, nmX11, rfl, (fun h => nomatch h), fun _ => rfl, (fun h => nomatch h)⟩
theorem zf_X11_89_5 : zFld RX11 89 5 0 false := ⟨RX5, TX5, 6, "HouseWires$Line", rfl, by decide, zin_X5, zT_tab 216 (by decide +kernel) rfl, Or.inl rfl, rfl, by decide⟩
theorem zc_X11_82 : zCV RX11 82 10 yX11_lineAt cX11_lineAt 2 (some (.object "HouseWires$Line")) 1 := ⟨RX11, TX11, 15, rfl, zT_tab 243 (by decide +kernel) rfl, zT_tab 245 (by decide +kernel) rfl, zT_prv 1 (by decide +kernel) rfl, zT_tab 1 (by decide +kernel) rfl, zT_tab 246 (by decide +kernel) rfl, by decide, rfl, by decide +kernel, by decide +kernel, by decide +kernel⟩
theorem zf_X11_86_10 : zFld RX11 86 10 10 false := ⟨RX11, TX11, 15, "HouseWires", rfl, by decide, zin_X11, zT_tab 138 (by decide +kernel) rfl, Or.inl rfl, rfl, by decide⟩
theorem zc_X11_92 : zCV RX11 92 10 yX11_hasDeviceOf cX11_hasDeviceOf 3 (some .boolean) 1 := ⟨RX11, TX11, 15, rfl, zT_tab 247 (by decide +kernel) rfl, zT_tab 249 (by decide +kernel) rfl, zT_prv 2 (by decide +kernel) rfl, zT_tab 1 (by decide +kernel) rfl, zT_tab 250 (by decide +kernel) rfl, by decide, rfl, by decide +kernel, by decide +kernel, by decide +kernel⟩
theorem zn_X11_96 : zNew RX11 96 7 3 := ⟨RX7, TX7, tyX7, rfl, zin_X7, tyX7_ok, zT_tab 251 (by decide +kernel) rfl, zT_tab 191 (by decide +kernel) rfl, zT_tab 10 (by decide +kernel) rfl, by decide +kernel, by decide⟩
theorem zc_X11_98 : zCI RX11 98 yX7_init cX7_init 3 1 := ⟨zT_tab 252 (by decide +kernel) rfl, zT_tab 193 (by decide +kernel) rfl, zT_tab 10 (by decide +kernel) rfl, zT_tab 194 (by decide +kernel) rfl, rfl, by decide +kernel, by decide +kernel, by decide +kernel⟩
theorem zn_X11_22 : zNew RX11 22 1 11 := ⟨RX1, TX1, tyX1, rfl, zin_X1, tyX1_ok, zT_tab 66 (by decide +kernel) rfl, zT_tab 253 (by decide +kernel) rfl, zT_tab 12 (by decide +kernel) rfl, by decide +kernel, by decide⟩
theorem zn_X11_101 : zNew RX11 101 0 15 := ⟨RX0, TX0, tyX0, rfl, zin_X0, tyX0_ok, zT_tab 254 (by decide +kernel) rfl, zT_tab 255 (by decide +kernel) rfl, zT_tab 13 (by decide +kernel) rfl, by decide +kernel, by decide⟩
theorem zc_X11_103 : zCI RX11 103 yX0_init cX0_init 4 3 := ⟨zT_tab 256 (by decide +kernel) rfl, zT_tab 257 (by decide +kernel) rfl, zT_tab 13 (by decide +kernel) rfl, zT_tab 258 (by decide +kernel) rfl, rfl, by decide +kernel, by decide +kernel, by decide +kernel⟩
theorem zc_X11_106 : zCI RX11 106 yX1_init cX1_init 5 4 := ⟨zT_tab 312 (by decide +kernel) rfl, zT_tab 313 (by decide +kernel) rfl, zT_tab 12 (by decide +kernel) rfl, zT_tab 314 (by decide +kernel) rfl, rfl, by decide +kernel, by decide +kernel, by decide +kernel⟩
theorem zc_X11_109 : zCV RX11 109 5 yX5_addDevice cX5_addDevice 3 none 1 := ⟨RX5, TX5, 6, rfl, zT_tab 371 (by decide +kernel) rfl, zT_tab 372 (by decide +kernel) rfl, zT_tab 373 (by decide +kernel) rfl, zT_tab 9 (by decide +kernel) rfl, zT_tab 374 (by decide +kernel) rfl, by decide, rfl, by decide +kernel, by decide +kernel, by decide +kernel⟩
theorem zf_X11_24_10 : zFld RX11 24 10 2 true := ⟨RX11, TX11, 15, "HouseWires", rfl, by decide, zin_X11, zT_tab 130 (by decide +kernel) rfl, Or.inl rfl, rfl, by decide⟩
theorem zp_X11_86_10 : zFldP RX11 86 10 10 false false := ⟨RX11, TX11, 15, "HouseWires", tyX11, rfl, by decide, zin_X11, zT_tab 138 (by decide +kernel) rfl, Or.inl rfl, rfl, by decide, tyX11_ok, nmX11, rfl, (fun h => nomatch h), fun _ => rfl, (fun h => nomatch h)⟩
theorem zf_X11_113_10 : zFld RX11 113 10 11 false := ⟨RX11, TX11, 15, "HouseWires", rfl, by decide, zin_X11, zT_tab 139 (by decide +kernel) rfl, Or.inl rfl, rfl, by decide⟩
theorem zc_X11_116 : zCV RX11 116 5 yX5_isJoinedWith cX5_isJoinedWith 2 (some .boolean) 1 := ⟨RX5, TX5, 6, rfl, zT_tab 379 (by decide +kernel) rfl, zT_tab 380 (by decide +kernel) rfl, zT_tab 381 (by decide +kernel) rfl, zT_tab 9 (by decide +kernel) rfl, zT_tab 382 (by decide +kernel) rfl, by decide, rfl, by decide +kernel, by decide +kernel, by decide +kernel⟩
theorem zn_X11_28 : zNew RX11 28 2 3 := ⟨RX2, TX2, tyX2, rfl, zin_X2, tyX2_ok, zT_tab 68 (by decide +kernel) rfl, zT_tab 383 (by decide +kernel) rfl, zT_tab 14 (by decide +kernel) rfl, by decide +kernel, by decide⟩
theorem zc_X11_119 : zCIN RX11 119 yX2_init cX2_init 1 0 := ⟨⟨"HouseWires", by decide +kernel⟩, zT_tab 385 (by decide +kernel) rfl, zT_tab 14 (by decide +kernel) rfl, zT_tab 386 (by decide +kernel) rfl, rfl, by decide +kernel, by decide +kernel, by decide +kernel⟩
theorem zn_X11_34 : zNew RX11 34 6 5 := ⟨RX6, TX6, tyX6, rfl, zin_X6, tyX6_ok, zT_tab 70 (by decide +kernel) rfl, zT_tab 399 (by decide +kernel) rfl, zT_tab 15 (by decide +kernel) rfl, by decide +kernel, by decide⟩
theorem zf_X11_120_5 : zFld RX11 120 5 5 false := ⟨RX5, TX5, 6, "HouseWires$Line", rfl, by decide, zin_X5, zT_tab 225 (by decide +kernel) rfl, Or.inl rfl, rfl, by decide⟩
theorem zc_X11_123 : zCI RX11 123 yX6_init cX6_init 5 4 := ⟨zT_tab 400 (by decide +kernel) rfl, zT_tab 401 (by decide +kernel) rfl, zT_tab 15 (by decide +kernel) rfl, zT_tab 402 (by decide +kernel) rfl, rfl, by decide +kernel, by decide +kernel, by decide +kernel⟩
theorem zc_X11_126 : zCV RX11 126 10 yX11_joinLines cX11_joinLines 7 none 4 := ⟨RX11, TX11, 15, rfl, zT_tab 416 (by decide +kernel) rfl, zT_tab 418 (by decide +kernel) rfl, zT_prv 3 (by decide +kernel) rfl, zT_tab 1 (by decide +kernel) rfl, zT_tab 419 (by decide +kernel) rfl, by decide, rfl, by decide +kernel, by decide +kernel, by decide +kernel⟩
theorem zc_X11_130 : zCV RX11 130 5 yX5_addPort cX5_addPort 2 none 1 := ⟨RX5, TX5, 6, rfl, zT_tab 428 (by decide +kernel) rfl, zT_tab 429 (by decide +kernel) rfl, zT_tab 430 (by decide +kernel) rfl, zT_tab 9 (by decide +kernel) rfl, zT_tab 431 (by decide +kernel) rfl, by decide, rfl, by decide +kernel, by decide +kernel, by decide +kernel⟩
theorem zf_X11_30_10 : zFld RX11 30 10 3 true := ⟨RX11, TX11, 15, "HouseWires", rfl, by decide, zin_X11, zT_tab 131 (by decide +kernel) rfl, Or.inl rfl, rfl, by decide⟩
theorem zf_X11_36_10 : zFld RX11 36 10 4 true := ⟨RX11, TX11, 15, "HouseWires", rfl, by decide, zin_X11, zT_tab 132 (by decide +kernel) rfl, Or.inl rfl, rfl, by decide⟩
theorem zp_X11_113_10 : zFldP RX11 113 10 11 false false := ⟨RX11, TX11, 15, "HouseWires", tyX11, rfl, by decide, zin_X11, zT_tab 139 (by decide +kernel) rfl, Or.inl rfl, rfl, by decide, tyX11_ok, nmX11, rfl, (fun h => nomatch h), fun _ => rfl, (fun h => nomatch h)⟩
theorem zc_X11_134 : zCV RX11 134 10 yX11_filterAt cX11_filterAt 2 (some (.object "HouseWires$Filter")) 1 := ⟨RX11, TX11, 15, rfl, zT_tab 436 (by decide +kernel) rfl, zT_tab 438 (by decide +kernel) rfl, zT_prv 5 (by decide +kernel) rfl, zT_tab 1 (by decide +kernel) rfl, zT_tab 439 (by decide +kernel) rfl, by decide, rfl, by decide +kernel, by decide +kernel, by decide +kernel⟩
theorem zp_X11_138_2 : zFldP RX11 138 2 2 false false := ⟨RX2, TX2, 3, "HouseWires$Filter", tyX2, rfl, by decide, zin_X2, zT_tab 391 (by decide +kernel) rfl, Or.inl rfl, rfl, by decide, tyX2_ok, nmX2, rfl, (fun h => nomatch h), fun _ => rfl, (fun h => nomatch h)⟩
theorem zk_X11_141 : Cond.constant RX11 141 65535 ∈ zT := zT_tab 444 (by decide +kernel) rfl
theorem zc_X11_142 : zCV RX11 142 2 yX2_change cX2_change 4 (some .boolean) 2 := ⟨RX2, TX2, 3, rfl, zT_tab 445 (by decide +kernel) rfl, zT_tab 446 (by decide +kernel) rfl, zT_tab 447 (by decide +kernel) rfl, zT_tab 14 (by decide +kernel) rfl, zT_tab 448 (by decide +kernel) rfl, by decide, rfl, by decide +kernel, by decide +kernel, by decide +kernel⟩
theorem zc_X11_146 : zCV RX11 146 10 yX11_deviceAt cX11_deviceAt 2 (some (.object "HouseWires$Device")) 1 := ⟨RX11, TX11, 15, rfl, zT_tab 457 (by decide +kernel) rfl, zT_tab 459 (by decide +kernel) rfl, zT_prv 7 (by decide +kernel) rfl, zT_tab 1 (by decide +kernel) rfl, zT_tab 460 (by decide +kernel) rfl, by decide, rfl, by decide +kernel, by decide +kernel, by decide +kernel⟩
theorem zc_X11_157 : zCV RX11 157 10 yX11_objectAt cX11_objectAt 4 (some (.object "HouseWires$GroupObject")) 2 := ⟨RX11, TX11, 15, rfl, zT_tab 498 (by decide +kernel) rfl, zT_tab 500 (by decide +kernel) rfl, zT_prv 8 (by decide +kernel) rfl, zT_tab 1 (by decide +kernel) rfl, zT_tab 501 (by decide +kernel) rfl, by decide, rfl, by decide +kernel, by decide +kernel, by decide +kernel⟩
theorem zp_X11_161_3 : zFldP RX11 161 3 2 false false := ⟨RX3, TX3, 5, "HouseWires$GroupObject", tyX3, rfl, by decide, zin_X3, zT_tab 477 (by decide +kernel) rfl, Or.inl rfl, rfl, by decide, tyX3_ok, nmX3, rfl, (fun h => nomatch h), fun _ => rfl, (fun h => nomatch h)⟩
theorem zc_X11_327 : zCV RX11 327 1 yX1_findObject cX1_findObject 2 (some (.object "HouseWires$GroupObject")) 1 := ⟨RX1, TX1, 11, rfl, zT_tab 502 (by decide +kernel) rfl, zT_tab 503 (by decide +kernel) rfl, zT_tab 504 (by decide +kernel) rfl, zT_tab 12 (by decide +kernel) rfl, zT_tab 505 (by decide +kernel) rfl, by decide, rfl, by decide +kernel, by decide +kernel, by decide +kernel⟩
theorem zc_X11_166 : zCV RX11 166 1 yX1_addLink cX1_addLink 4 (some .boolean) 2 := ⟨RX1, TX1, 11, rfl, zT_tab 511 (by decide +kernel) rfl, zT_tab 512 (by decide +kernel) rfl, zT_tab 513 (by decide +kernel) rfl, zT_tab 12 (by decide +kernel) rfl, zT_tab 514 (by decide +kernel) rfl, by decide, rfl, by decide +kernel, by decide +kernel, by decide +kernel⟩
theorem zc_X11_170 : zCV RX11 170 1 yX1_changeObject cX1_changeObject 6 (some .int) 2 := ⟨RX1, TX1, 11, rfl, zT_tab 520 (by decide +kernel) rfl, zT_tab 521 (by decide +kernel) rfl, zT_tab 522 (by decide +kernel) rfl, zT_tab 12 (by decide +kernel) rfl, zT_tab 523 (by decide +kernel) rfl, by decide, rfl, by decide +kernel, by decide +kernel, by decide +kernel⟩
theorem zc_X11_174 : zCV RX11 174 1 yX1_askGroup cX1_askGroup 4 (some .int) 1 := ⟨RX1, TX1, 11, rfl, zT_tab 568 (by decide +kernel) rfl, zT_tab 569 (by decide +kernel) rfl, zT_tab 570 (by decide +kernel) rfl, zT_tab 12 (by decide +kernel) rfl, zT_tab 571 (by decide +kernel) rfl, by decide, rfl, by decide +kernel, by decide +kernel, by decide +kernel⟩
theorem zk_X11_177 : Cond.constantLong RX11 177 (-1) ∈ zT := zT_tab 576 (by decide +kernel) rfl
theorem zf_X11_179_3 : zFld RX11 179 3 3 false := ⟨RX3, TX3, 5, "HouseWires$GroupObject", rfl, by decide, zin_X3, zT_tab 480 (by decide +kernel) rfl, Or.inl rfl, rfl, by decide⟩
theorem zk_X11_182 : Cond.constantLong RX11 182 4294967295 ∈ zT := zT_tab 577 (by decide +kernel) rfl
theorem zf_X11_184_3 : zFld RX11 184 3 4 false := ⟨RX3, TX3, 5, "HouseWires$GroupObject", rfl, by decide, zin_X3, zT_tab 482 (by decide +kernel) rfl, Or.inl rfl, rfl, by decide⟩
theorem zk_X11_192 : Cond.constantLong RX11 192 (-9223372036854775808) ∈ zT := zT_tab 586 (by decide +kernel) rfl
theorem zf_X11_187_3 : zFld RX11 187 3 0 false := ⟨RX3, TX3, 5, "HouseWires$GroupObject", rfl, by decide, zin_X3, zT_tab 473 (by decide +kernel) rfl, Or.inl rfl, rfl, by decide⟩
theorem zc_X11_194 : zCS RX11 194 yX11_withPoint cX11_withPoint 3 (some .int) 1 := ⟨zT_tab 591 (by decide +kernel) rfl, zT_tab 592 (by decide +kernel) rfl, zT_tab 1 (by decide +kernel) rfl, zT_tab 593 (by decide +kernel) rfl, by decide +kernel, by decide +kernel, by decide +kernel⟩
theorem zc_X11_197 : zCV RX11 197 10 yX11_set cX11_set 5 (some .int) 3 := ⟨RX11, TX11, 15, rfl, zT_tab 595 (by decide +kernel) rfl, zT_tab 517 (by decide +kernel) rfl, zT_tab 518 (by decide +kernel) rfl, zT_tab 1 (by decide +kernel) rfl, zT_tab 519 (by decide +kernel) rfl, by decide, rfl, by decide +kernel, by decide +kernel, by decide +kernel⟩
theorem zf_X11_200_1 : zFld RX11 200 1 3 true := ⟨RX1, TX1, 11, "HouseWires$Device", rfl, by decide, zin_X1, zT_tab 326 (by decide +kernel) rfl, Or.inl rfl, rfl, by decide⟩
theorem zc_X11_204 : zCV RX11 204 0 yX0_join cX0_join 2 (some .boolean) 1 := ⟨RX0, TX0, 15, rfl, zT_tab 600 (by decide +kernel) rfl, zT_tab 601 (by decide +kernel) rfl, zT_tab 602 (by decide +kernel) rfl, zT_tab 13 (by decide +kernel) rfl, zT_tab 603 (by decide +kernel) rfl, by decide, rfl, by decide +kernel, by decide +kernel, by decide +kernel⟩
theorem zf_X11_207_0 : zFld RX11 207 0 7 false := ⟨RX0, TX0, 15, "HouseWires$Connection", rfl, by decide, zin_X0, zT_tab 273 (by decide +kernel) rfl, Or.inl rfl, rfl, by decide⟩
theorem zc_X11_210 : zCV RX11 210 0 yX0_close cX0_close 1 none 0 := ⟨RX0, TX0, 15, rfl, zT_tab 617 (by decide +kernel) rfl, zT_tab 618 (by decide +kernel) rfl, zT_tab 619 (by decide +kernel) rfl, zT_tab 13 (by decide +kernel) rfl, zT_tab 620 (by decide +kernel) rfl, by decide, rfl, by decide +kernel, by decide +kernel, by decide +kernel⟩
theorem zc_X11_213 : zCV RX11 213 0 yX0_orderRead cX0_orderRead 3 (some .boolean) 2 := ⟨RX0, TX0, 15, rfl, zT_tab 629 (by decide +kernel) rfl, zT_tab 630 (by decide +kernel) rfl, zT_tab 631 (by decide +kernel) rfl, zT_tab 13 (by decide +kernel) rfl, zT_tab 632 (by decide +kernel) rfl, by decide, rfl, by decide +kernel, by decide +kernel, by decide +kernel⟩
theorem zc_X11_216 : zCV RX11 216 0 yX0_orderWrite cX0_orderWrite 5 (some .boolean) 3 := ⟨RX0, TX0, 15, rfl, zT_tab 645 (by decide +kernel) rfl, zT_tab 646 (by decide +kernel) rfl, zT_tab 647 (by decide +kernel) rfl, zT_tab 13 (by decide +kernel) rfl, zT_tab 648 (by decide +kernel) rfl, by decide, rfl, by decide +kernel, by decide +kernel, by decide +kernel⟩
theorem zf_X11_219_0 : zFld RX11 219 0 4 true := ⟨RX0, TX0, 15, "HouseWires$Connection", rfl, by decide, zin_X0, zT_tab 267 (by decide +kernel) rfl, Or.inl rfl, rfl, by decide⟩
theorem zf_X11_222_0 : zFld RX11 222 0 6 false := ⟨RX0, TX0, 15, "HouseWires$Connection", rfl, by decide, zin_X0, zT_tab 271 (by decide +kernel) rfl, Or.inl rfl, rfl, by decide⟩
theorem zf_X11_225_0 : zFld RX11 225 0 5 true := ⟨RX0, TX0, 15, "HouseWires$Connection", rfl, by decide, zin_X0, zT_tab 269 (by decide +kernel) rfl, Or.inl rfl, rfl, by decide⟩
theorem zc_X11_247 : zCV RX11 247 0 yX0_tell cX0_tell 3 (some .int) 1 := ⟨RX0, TX0, 15, rfl, zT_tab 665 (by decide +kernel) rfl, zT_tab 666 (by decide +kernel) rfl, zT_tab 667 (by decide +kernel) rfl, zT_tab 13 (by decide +kernel) rfl, zT_tab 668 (by decide +kernel) rfl, by decide, rfl, by decide +kernel, by decide +kernel, by decide +kernel⟩
theorem zf_X11_228_1 : zFld RX11 228 1 0 true := ⟨RX1, TX1, 11, "HouseWires$Device", rfl, by decide, zin_X1, zT_tab 341 (by decide +kernel) rfl, Or.inr (zT_tab 340 (by decide +kernel) rfl), rfl, by decide⟩
theorem zf_X11_232_7 : zFld RX11 232 7 2 false := ⟨RX7, TX7, 3, "HouseWires$Row", rfl, by decide, zin_X7, zT_tab 205 (by decide +kernel) rfl, Or.inl rfl, rfl, by decide⟩
theorem zf_X11_235_1 : zFld RX11 235 1 2 false := ⟨RX1, TX1, 11, "HouseWires$Device", rfl, by decide, zin_X1, zT_tab 324 (by decide +kernel) rfl, Or.inl rfl, rfl, by decide⟩
theorem zf_X11_238_1 : zFld RX11 238 1 10 false := ⟨RX1, TX1, 11, "HouseWires$Device", rfl, by decide, zin_X1, zT_tab 336 (by decide +kernel) rfl, Or.inl rfl, rfl, by decide⟩
theorem zf_X11_241_1 : zFld RX11 241 1 8 false := ⟨RX1, TX1, 11, "HouseWires$Device", rfl, by decide, zin_X1, zT_tab 332 (by decide +kernel) rfl, Or.inl rfl, rfl, by decide⟩
theorem zf_X11_244_1 : zFld RX11 244 1 9 false := ⟨RX1, TX1, 11, "HouseWires$Device", rfl, by decide, zin_X1, zT_tab 334 (by decide +kernel) rfl, Or.inl rfl, rfl, by decide⟩
theorem zp_X11_238_1 : zFldP RX11 238 1 10 false false := ⟨RX1, TX1, 11, "HouseWires$Device", tyX1, rfl, by decide, zin_X1, zT_tab 336 (by decide +kernel) rfl, Or.inl rfl, rfl, by decide, tyX1_ok, nmX1, rfl, (fun h => nomatch h), fun _ => rfl, (fun h => nomatch h)⟩
theorem zf_X11_250_10 : zFld RX11 250 10 12 false := ⟨RX11, TX11, 15, "HouseWires", rfl, by decide, zin_X11, zT_tab 140 (by decide +kernel) rfl, Or.inl rfl, rfl, by decide⟩
theorem zc_X11_253 : zCV RX11 253 10 yX11_feedNumber cX11_feedNumber 3 none 1 := ⟨RX11, TX11, 15, rfl, zT_tab 677 (by decide +kernel) rfl, zT_tab 679 (by decide +kernel) rfl, zT_prv 15 (by decide +kernel) rfl, zT_tab 1 (by decide +kernel) rfl, zT_tab 680 (by decide +kernel) rfl, by decide, rfl, by decide +kernel, by decide +kernel, by decide +kernel⟩
theorem zf_X11_47_10 : zFld RX11 47 10 6 true := ⟨RX11, TX11, 15, "HouseWires", rfl, by decide, zin_X11, zT_tab 134 (by decide +kernel) rfl, Or.inl rfl, rfl, by decide⟩
theorem zp_X11_250_10 : zFldP RX11 250 10 12 false false := ⟨RX11, TX11, 15, "HouseWires", tyX11, rfl, by decide, zin_X11, zT_tab 140 (by decide +kernel) rfl, Or.inl rfl, rfl, by decide, tyX11_ok, nmX11, rfl, (fun h => nomatch h), fun _ => rfl, (fun h => nomatch h)⟩
theorem zf_X11_257_5 : zFld RX11 257 5 1 true := ⟨RX5, TX5, 6, "HouseWires$Line", rfl, by decide, zin_X5, zT_tab 218 (by decide +kernel) rfl, Or.inl rfl, rfl, by decide⟩
theorem zc_X11_260 : zCV RX11 260 7 yX7_isFull cX7_isFull 1 (some .boolean) 0 := ⟨RX7, TX7, 3, rfl, zT_tab 689 (by decide +kernel) rfl, zT_tab 533 (by decide +kernel) rfl, zT_tab 534 (by decide +kernel) rfl, zT_tab 10 (by decide +kernel) rfl, zT_tab 535 (by decide +kernel) rfl, by decide, rfl, by decide +kernel, by decide +kernel, by decide +kernel⟩
theorem zf_X11_58_10 : zFld RX11 58 10 8 true := ⟨RX11, TX11, 15, "HouseWires", rfl, by decide, zin_X11, zT_tab 136 (by decide +kernel) rfl, Or.inl rfl, rfl, by decide⟩
theorem zf_X11_264_9 : zFld RX11 264 9 0 true := ⟨RX10, TX10, 5, "HouseWires$Telegram", rfl, by decide, zin_X10, zT_tab 105 (by decide +kernel) rfl, Or.inl rfl, rfl, by decide⟩
theorem zf_X11_43_10 : zFld RX11 43 10 5 true := ⟨RX11, TX11, 15, "HouseWires", rfl, by decide, zin_X11, zT_tab 133 (by decide +kernel) rfl, Or.inl rfl, rfl, by decide⟩
theorem zf_X11_280_8 : zFld RX11 280 8 1 false := ⟨RX9, TX9, 7, "HouseWires$Tally", rfl, by decide, zin_X9, zT_tab 40 (by decide +kernel) rfl, Or.inl rfl, rfl, by decide⟩
theorem zc_X11_283 : zCV RX11 283 4 yX4_add cX4_add 5 (some .boolean) 3 := ⟨RX4, TX4, 4, rfl, zT_tab 698 (by decide +kernel) rfl, zT_tab 699 (by decide +kernel) rfl, zT_tab 700 (by decide +kernel) rfl, zT_tab 3 (by decide +kernel) rfl, zT_tab 701 (by decide +kernel) rfl, by decide, rfl, by decide +kernel, by decide +kernel, by decide +kernel⟩
theorem zf_X11_292_8 : zFld RX11 292 8 0 false := ⟨RX9, TX9, 7, "HouseWires$Tally", rfl, by decide, zin_X9, zT_tab 39 (by decide +kernel) rfl, Or.inl rfl, rfl, by decide⟩
theorem zp_X11_292_8 : zFldP RX11 292 8 0 false false := ⟨RX9, TX9, 7, "HouseWires$Tally", tyX9, rfl, by decide, zin_X9, zT_tab 39 (by decide +kernel) rfl, Or.inl rfl, rfl, by decide, tyX9_ok, nmX9, rfl, (fun h => nomatch h), fun _ => rfl, (fun h => nomatch h)⟩
theorem zf_X11_295_8 : zFld RX11 295 8 6 false := ⟨RX9, TX9, 7, "HouseWires$Tally", rfl, by decide, zin_X9, zT_tab 48 (by decide +kernel) rfl, Or.inl rfl, rfl, by decide⟩
theorem zc_X11_298 : zCV RX11 298 5 yX5_chooseSender cX5_chooseSender 6 (some (.object "HouseWires$Row")) 0 := ⟨RX5, TX5, 6, rfl, zT_tab 781 (by decide +kernel) rfl, zT_tab 782 (by decide +kernel) rfl, zT_tab 783 (by decide +kernel) rfl, zT_tab 9 (by decide +kernel) rfl, zT_tab 784 (by decide +kernel) rfl, by decide, rfl, by decide +kernel, by decide +kernel, by decide +kernel⟩
theorem zc_X11_302 : zCV RX11 302 10 yX11_transmit cX11_transmit 11 none 2 := ⟨RX11, TX11, 15, rfl, zT_tab 804 (by decide +kernel) rfl, zT_tab 806 (by decide +kernel) rfl, zT_prv 17 (by decide +kernel) rfl, zT_tab 1 (by decide +kernel) rfl, zT_tab 807 (by decide +kernel) rfl, by decide, rfl, by decide +kernel, by decide +kernel, by decide +kernel⟩
theorem zc_X11_306 : zCV RX11 306 0 yX0_tick cX0_tick 1 none 0 := ⟨RX0, TX0, 15, rfl, zT_tab 969 (by decide +kernel) rfl, zT_tab 970 (by decide +kernel) rfl, zT_tab 971 (by decide +kernel) rfl, zT_tab 13 (by decide +kernel) rfl, zT_tab 972 (by decide +kernel) rfl, by decide, rfl, by decide +kernel, by decide +kernel, by decide +kernel⟩
theorem zf_X11_54_10 : zFld RX11 54 10 7 true := ⟨RX11, TX11, 15, "HouseWires", rfl, by decide, zin_X11, zT_tab 135 (by decide +kernel) rfl, Or.inl rfl, rfl, by decide⟩
theorem zf_X11_273_9 : zFld RX11 273 9 1 false := ⟨RX10, TX10, 5, "HouseWires$Telegram", rfl, by decide, zin_X10, zT_tab 109 (by decide +kernel) rfl, Or.inl rfl, rfl, by decide⟩
theorem zf_X11_314_8 : zFld RX11 314 8 2 false := ⟨RX9, TX9, 7, "HouseWires$Tally", rfl, by decide, zin_X9, zT_tab 41 (by decide +kernel) rfl, Or.inl rfl, rfl, by decide⟩
theorem zf_X11_317_8 : zFld RX11 317 8 3 false := ⟨RX9, TX9, 7, "HouseWires$Tally", rfl, by decide, zin_X9, zT_tab 42 (by decide +kernel) rfl, Or.inl rfl, rfl, by decide⟩
theorem zf_X11_320_8 : zFld RX11 320 8 4 false := ⟨RX9, TX9, 7, "HouseWires$Tally", rfl, by decide, zin_X9, zT_tab 44 (by decide +kernel) rfl, Or.inl rfl, rfl, by decide⟩
theorem zf_X11_323_8 : zFld RX11 323 8 5 false := ⟨RX9, TX9, 7, "HouseWires$Tally", rfl, by decide, zin_X9, zT_tab 46 (by decide +kernel) rfl, Or.inl rfl, rfl, by decide⟩
theorem zf_X11_65_10 : zFld RX11 65 10 14 false := ⟨RX11, TX11, 15, "HouseWires", rfl, by decide, zin_X11, zT_tab 142 (by decide +kernel) rfl, Or.inl rfl, rfl, by decide⟩
theorem zf_X11_61_10 : zFld RX11 61 10 13 false := ⟨RX11, TX11, 15, "HouseWires", rfl, by decide, zin_X11, zT_tab 141 (by decide +kernel) rfl, Or.inl rfl, rfl, by decide⟩
theorem zf_X11_326_4 : zFld RX11 326 4 3 false := ⟨RX4, TX4, 4, "HouseWires$Harms", rfl, by decide, zin_X4, zT_tab 82 (by decide +kernel) rfl, Or.inl rfl, rfl, by decide⟩
theorem zob_X14_3 : Cond.methodLink RX14 3 objectInit ∈ zT := zT_tab 1019 (by decide +kernel) rfl
theorem zcl_X14_9 : Cond.classLink RX14 9 "[[I" ∈ zT := zT_tab 1020 (by decide +kernel) rfl
theorem zp_X14_11_13 : zFldP RX14 11 13 0 true true := ⟨RX14, TX14, 6, "HouseWiresModel$Out", tyX14, rfl, by decide, zin_X14, zT_tab 1022 (by decide +kernel) rfl, Or.inl rfl, rfl, by decide, tyX14_ok, nmX14, rfl, fun _ => rfl, (fun h => nomatch h), fun _ => rfl⟩
theorem zp_X14_16_13 : zFldP RX14 16 13 1 true true := ⟨RX14, TX14, 6, "HouseWiresModel$Out", tyX14, rfl, by decide, zin_X14, zT_tab 1024 (by decide +kernel) rfl, Or.inl rfl, rfl, by decide, tyX14_ok, nmX14, rfl, fun _ => rfl, (fun h => nomatch h), fun _ => rfl⟩
theorem zp_X14_20_13 : zFldP RX14 20 13 2 true true := ⟨RX14, TX14, 6, "HouseWiresModel$Out", tyX14, rfl, by decide, zin_X14, zT_tab 1026 (by decide +kernel) rfl, Or.inl rfl, rfl, by decide, tyX14_ok, nmX14, rfl, fun _ => rfl, (fun h => nomatch h), fun _ => rfl⟩
theorem zp_X14_23_13 : zFldP RX14 23 13 3 true true := ⟨RX14, TX14, 6, "HouseWiresModel$Out", tyX14, rfl, by decide, zin_X14, zT_tab 1028 (by decide +kernel) rfl, Or.inl rfl, rfl, by decide, tyX14_ok, nmX14, rfl, fun _ => rfl, (fun h => nomatch h), fun _ => rfl⟩
theorem zp_X14_26_13 : zFldP RX14 26 13 4 true true := ⟨RX14, TX14, 6, "HouseWiresModel$Out", tyX14, rfl, by decide, zin_X14, zT_tab 1030 (by decide +kernel) rfl, Or.inl rfl, rfl, by decide, tyX14_ok, nmX14, rfl, fun _ => rfl, (fun h => nomatch h), fun _ => rfl⟩
theorem zob_X13_3 : Cond.methodLink RX13 3 objectInit ∈ zT := zT_tab 1013 (by decide +kernel) rfl
theorem zn_X13_9 : zNew RX13 9 13 6 := ⟨RX14, TX14, tyX14, rfl, zin_X14, tyX14_ok, zT_tab 1014 (by decide +kernel) rfl, zT_tab 1015 (by decide +kernel) rfl, zT_tab 7 (by decide +kernel) rfl, by decide +kernel, by decide⟩
theorem zc_X13_11 : zCIN RX13 11 yX14_init cX14_init 1 0 := ⟨⟨"HouseWiresModel", by decide +kernel⟩, zT_tab 1017 (by decide +kernel) rfl, zT_tab 7 (by decide +kernel) rfl, zT_tab 1018 (by decide +kernel) rfl, rfl, by decide +kernel, by decide +kernel, by decide +kernel⟩
theorem zp_X13_12_12 : zFldP RX13 12 12 2 true true := ⟨RX13, TX13, 28, "HouseWiresModel$Device", tyX13, rfl, by decide, zin_X13, zT_tab 1050 (by decide +kernel) rfl, Or.inl rfl, rfl, by decide, tyX13_ok, nmX13, rfl, fun _ => rfl, (fun h => nomatch h), fun _ => rfl⟩
theorem zp_X13_18_12 : zFldP RX13 18 12 4 true true := ⟨RX13, TX13, 28, "HouseWiresModel$Device", tyX13, rfl, by decide, zin_X13, zT_tab 1053 (by decide +kernel) rfl, Or.inl rfl, rfl, by decide, tyX13_ok, nmX13, rfl, fun _ => rfl, (fun h => nomatch h), fun _ => rfl⟩
theorem zp_X13_22_12 : zFldP RX13 22 12 7 true true := ⟨RX13, TX13, 28, "HouseWiresModel$Device", tyX13, rfl, by decide, zin_X13, zT_tab 1057 (by decide +kernel) rfl, Or.inl rfl, rfl, by decide, tyX13_ok, nmX13, rfl, fun _ => rfl, (fun h => nomatch h), fun _ => rfl⟩
theorem zp_X13_25_12 : zFldP RX13 25 12 8 true true := ⟨RX13, TX13, 28, "HouseWiresModel$Device", tyX13, rfl, by decide, zin_X13, zT_tab 1059 (by decide +kernel) rfl, Or.inl rfl, rfl, by decide, tyX13_ok, nmX13, rfl, fun _ => rfl, (fun h => nomatch h), fun _ => rfl⟩
theorem zp_X13_28_12 : zFldP RX13 28 12 9 true true := ⟨RX13, TX13, 28, "HouseWiresModel$Device", tyX13, rfl, by decide, zin_X13, zT_tab 1061 (by decide +kernel) rfl, Or.inl rfl, rfl, by decide, tyX13_ok, nmX13, rfl, fun _ => rfl, (fun h => nomatch h), fun _ => rfl⟩
theorem zp_X13_31_12 : zFldP RX13 31 12 10 true true := ⟨RX13, TX13, 28, "HouseWiresModel$Device", tyX13, rfl, by decide, zin_X13, zT_tab 1063 (by decide +kernel) rfl, Or.inl rfl, rfl, by decide, tyX13_ok, nmX13, rfl, fun _ => rfl, (fun h => nomatch h), fun _ => rfl⟩
theorem zp_X13_34_12 : zFldP RX13 34 12 11 true true := ⟨RX13, TX13, 28, "HouseWiresModel$Device", tyX13, rfl, by decide, zin_X13, zT_tab 1065 (by decide +kernel) rfl, Or.inl rfl, rfl, by decide, tyX13_ok, nmX13, rfl, fun _ => rfl, (fun h => nomatch h), fun _ => rfl⟩
theorem zp_X13_37_12 : zFldP RX13 37 12 13 true true := ⟨RX13, TX13, 28, "HouseWiresModel$Device", tyX13, rfl, by decide, zin_X13, zT_tab 1068 (by decide +kernel) rfl, Or.inl rfl, rfl, by decide, tyX13_ok, nmX13, rfl, fun _ => rfl, (fun h => nomatch h), fun _ => rfl⟩
theorem zp_X13_40_12 : zFldP RX13 40 12 14 true true := ⟨RX13, TX13, 28, "HouseWiresModel$Device", tyX13, rfl, by decide, zin_X13, zT_tab 1070 (by decide +kernel) rfl, Or.inl rfl, rfl, by decide, tyX13_ok, nmX13, rfl, fun _ => rfl, (fun h => nomatch h), fun _ => rfl⟩
theorem zp_X13_43_12 : zFldP RX13 43 12 15 true true := ⟨RX13, TX13, 28, "HouseWiresModel$Device", tyX13, rfl, by decide, zin_X13, zT_tab 1072 (by decide +kernel) rfl, Or.inl rfl, rfl, by decide, tyX13_ok, nmX13, rfl, fun _ => rfl, (fun h => nomatch h), fun _ => rfl⟩
theorem zp_X13_46_12 : zFldP RX13 46 12 16 true true := ⟨RX13, TX13, 28, "HouseWiresModel$Device", tyX13, rfl, by decide, zin_X13, zT_tab 1074 (by decide +kernel) rfl, Or.inl rfl, rfl, by decide, tyX13_ok, nmX13, rfl, fun _ => rfl, (fun h => nomatch h), fun _ => rfl⟩
theorem zp_X13_49_12 : zFldP RX13 49 12 25 false false := ⟨RX13, TX13, 28, "HouseWiresModel$Device", tyX13, rfl, by decide, zin_X13, zT_tab 1084 (by decide +kernel) rfl, Or.inl rfl, rfl, by decide, tyX13_ok, nmX13, rfl, (fun h => nomatch h), fun _ => rfl, (fun h => nomatch h)⟩
theorem zp_X13_53_12 : zFldP RX13 53 12 26 true true := ⟨RX13, TX13, 28, "HouseWiresModel$Device", tyX13, rfl, by decide, zin_X13, zT_tab 1086 (by decide +kernel) rfl, Or.inl rfl, rfl, by decide, tyX13_ok, nmX13, rfl, fun _ => rfl, (fun h => nomatch h), fun _ => rfl⟩
theorem zob_X12_3 : Cond.methodLink RX12 3 objectInit ∈ zT := zT_tab 1150 (by decide +kernel) rfl
theorem zp_X12_9_11 : zFldP RX12 9 11 0 true true := ⟨RX12, TX12, 7, "HouseWiresModel$Coupler", tyX12, rfl, by decide, zin_X12, zT_tab 1154 (by decide +kernel) rfl, Or.inl rfl, rfl, by decide, tyX12_ok, nmX12, rfl, fun _ => rfl, (fun h => nomatch h), fun _ => rfl⟩
theorem zp_X12_15_11 : zFldP RX12 15 11 2 true true := ⟨RX12, TX12, 7, "HouseWiresModel$Coupler", tyX12, rfl, by decide, zin_X12, zT_tab 1157 (by decide +kernel) rfl, Or.inl rfl, rfl, by decide, tyX12_ok, nmX12, rfl, fun _ => rfl, (fun h => nomatch h), fun _ => rfl⟩
theorem zcl_X12_18 : Cond.classLink RX12 18 "HouseWiresModel$Out" ∈ zT := zT_tab 1151 (by decide +kernel) rfl
theorem zn_X12_18 : zNew RX12 18 13 6 := ⟨RX14, TX14, tyX14, rfl, zin_X14, tyX14_ok, zT_tab 1151 (by decide +kernel) rfl, zT_tab 1015 (by decide +kernel) rfl, zT_tab 7 (by decide +kernel) rfl, by decide +kernel, by decide⟩
theorem zc_X12_20 : zCIN RX12 20 yX14_init cX14_init 1 0 := ⟨⟨"HouseWiresModel", by decide +kernel⟩, zT_tab 1017 (by decide +kernel) rfl, zT_tab 7 (by decide +kernel) rfl, zT_tab 1018 (by decide +kernel) rfl, rfl, by decide +kernel, by decide +kernel, by decide +kernel⟩
theorem zp_X12_21_11 : zFldP RX12 21 11 4 true true := ⟨RX12, TX12, 7, "HouseWiresModel$Coupler", tyX12, rfl, by decide, zin_X12, zT_tab 1160 (by decide +kernel) rfl, Or.inl rfl, rfl, by decide, tyX12_ok, nmX12, rfl, fun _ => rfl, (fun h => nomatch h), fun _ => rfl⟩
theorem zcl_X12_25 : Cond.classLink RX12 25 "[[I" ∈ zT := zT_tab 1153 (by decide +kernel) rfl
theorem zp_X12_27_11 : zFldP RX12 27 11 5 true true := ⟨RX12, TX12, 7, "HouseWiresModel$Coupler", tyX12, rfl, by decide, zin_X12, zT_tab 1162 (by decide +kernel) rfl, Or.inl rfl, rfl, by decide, tyX12_ok, nmX12, rfl, fun _ => rfl, (fun h => nomatch h), fun _ => rfl⟩
theorem zp_X12_30_11 : zFldP RX12 30 11 6 true true := ⟨RX12, TX12, 7, "HouseWiresModel$Coupler", tyX12, rfl, by decide, zin_X12, zT_tab 1164 (by decide +kernel) rfl, Or.inl rfl, rfl, by decide, tyX12_ok, nmX12, rfl, fun _ => rfl, (fun h => nomatch h), fun _ => rfl⟩
theorem zob_X15_1 : Cond.methodLink RX15 1 objectInit ∈ zT := zT_tab 1002 (by decide +kernel) rfl
theorem zp_X15_7_14 : zFldP RX15 7 14 5 true true := ⟨RX15, TX15, 40, "HouseWiresModel", tyX15, rfl, by decide, zin_X15, zT_tab 1187 (by decide +kernel) rfl, Or.inl rfl, rfl, by decide, tyX15_ok, nmX15, rfl, fun _ => rfl, (fun h => nomatch h), fun _ => rfl⟩
theorem zcl_X15_13 : Cond.classLink RX15 13 "HouseWiresModel$Out" ∈ zT := zT_tab 1003 (by decide +kernel) rfl
theorem zp_X15_15_14 : zFldP RX15 15 14 6 true true := ⟨RX15, TX15, 40, "HouseWiresModel", tyX15, rfl, by decide, zin_X15, zT_tab 1188 (by decide +kernel) rfl, Or.inl rfl, rfl, by decide, tyX15_ok, nmX15, rfl, fun _ => rfl, (fun h => nomatch h), fun _ => rfl⟩
theorem zcl_X15_19 : Cond.classLink RX15 19 "HouseWiresModel$Device" ∈ zT := zT_tab 1005 (by decide +kernel) rfl
theorem zp_X15_21_14 : zFldP RX15 21 14 8 true true := ⟨RX15, TX15, 40, "HouseWiresModel", tyX15, rfl, by decide, zin_X15, zT_tab 1190 (by decide +kernel) rfl, Or.inl rfl, rfl, by decide, tyX15_ok, nmX15, rfl, fun _ => rfl, (fun h => nomatch h), fun _ => rfl⟩
theorem zcl_X15_25 : Cond.classLink RX15 25 "HouseWiresModel$Coupler" ∈ zT := zT_tab 1007 (by decide +kernel) rfl
theorem zp_X15_27_14 : zFldP RX15 27 14 10 true true := ⟨RX15, TX15, 40, "HouseWiresModel", tyX15, rfl, by decide, zin_X15, zT_tab 1192 (by decide +kernel) rfl, Or.inl rfl, rfl, by decide, tyX15_ok, nmX15, rfl, fun _ => rfl, (fun h => nomatch h), fun _ => rfl⟩
theorem zp_X15_31_14 : zFldP RX15 31 14 11 true true := ⟨RX15, TX15, 40, "HouseWiresModel", tyX15, rfl, by decide, zin_X15, zT_tab 1193 (by decide +kernel) rfl, Or.inl rfl, rfl, by decide, tyX15_ok, nmX15, rfl, fun _ => rfl, (fun h => nomatch h), fun _ => rfl⟩
theorem zp_X15_34_14 : zFldP RX15 34 14 12 true true := ⟨RX15, TX15, 40, "HouseWiresModel", tyX15, rfl, by decide, zin_X15, zT_tab 1194 (by decide +kernel) rfl, Or.inl rfl, rfl, by decide, tyX15_ok, nmX15, rfl, fun _ => rfl, (fun h => nomatch h), fun _ => rfl⟩
theorem zp_X15_37_14 : zFldP RX15 37 14 13 true true := ⟨RX15, TX15, 40, "HouseWiresModel", tyX15, rfl, by decide, zin_X15, zT_tab 1195 (by decide +kernel) rfl, Or.inl rfl, rfl, by decide, tyX15_ok, nmX15, rfl, fun _ => rfl, (fun h => nomatch h), fun _ => rfl⟩
theorem zp_X15_40_14 : zFldP RX15 40 14 14 true true := ⟨RX15, TX15, 40, "HouseWiresModel", tyX15, rfl, by decide, zin_X15, zT_tab 1196 (by decide +kernel) rfl, Or.inl rfl, rfl, by decide, tyX15_ok, nmX15, rfl, fun _ => rfl, (fun h => nomatch h), fun _ => rfl⟩
theorem zp_X15_43_14 : zFldP RX15 43 14 20 false false := ⟨RX15, TX15, 40, "HouseWiresModel", tyX15, rfl, by decide, zin_X15, zT_tab 1202 (by decide +kernel) rfl, Or.inl rfl, rfl, by decide, tyX15_ok, nmX15, rfl, (fun h => nomatch h), fun _ => rfl, (fun h => nomatch h)⟩
theorem zp_X15_47_14 : zFldP RX15 47 14 21 true true := ⟨RX15, TX15, 40, "HouseWiresModel", tyX15, rfl, by decide, zin_X15, zT_tab 1203 (by decide +kernel) rfl, Or.inl rfl, rfl, by decide, tyX15_ok, nmX15, rfl, fun _ => rfl, (fun h => nomatch h), fun _ => rfl⟩
theorem zp_X15_50_14 : zFldP RX15 50 14 23 true true := ⟨RX15, TX15, 40, "HouseWiresModel", tyX15, rfl, by decide, zin_X15, zT_tab 1205 (by decide +kernel) rfl, Or.inl rfl, rfl, by decide, tyX15_ok, nmX15, rfl, fun _ => rfl, (fun h => nomatch h), fun _ => rfl⟩
theorem zp_X15_53_14 : zFldP RX15 53 14 24 true true := ⟨RX15, TX15, 40, "HouseWiresModel", tyX15, rfl, by decide, zin_X15, zT_tab 1206 (by decide +kernel) rfl, Or.inl rfl, rfl, by decide, tyX15_ok, nmX15, rfl, fun _ => rfl, (fun h => nomatch h), fun _ => rfl⟩
theorem zp_X15_56_14 : zFldP RX15 56 14 25 true true := ⟨RX15, TX15, 40, "HouseWiresModel", tyX15, rfl, by decide, zin_X15, zT_tab 1207 (by decide +kernel) rfl, Or.inl rfl, rfl, by decide, tyX15_ok, nmX15, rfl, fun _ => rfl, (fun h => nomatch h), fun _ => rfl⟩
theorem zp_X15_59_14 : zFldP RX15 59 14 27 true true := ⟨RX15, TX15, 40, "HouseWiresModel", tyX15, rfl, by decide, zin_X15, zT_tab 1209 (by decide +kernel) rfl, Or.inl rfl, rfl, by decide, tyX15_ok, nmX15, rfl, fun _ => rfl, (fun h => nomatch h), fun _ => rfl⟩
theorem zp_X15_62_14 : zFldP RX15 62 14 28 true true := ⟨RX15, TX15, 40, "HouseWiresModel", tyX15, rfl, by decide, zin_X15, zT_tab 1210 (by decide +kernel) rfl, Or.inl rfl, rfl, by decide, tyX15_ok, nmX15, rfl, fun _ => rfl, (fun h => nomatch h), fun _ => rfl⟩
theorem zac_boolean : Cond.arrayClass .boolean ∈ zT := zT_tab 1047 (by decide +kernel) rfl
theorem zp_X15_65_14 : zFldP RX15 65 14 29 true true := ⟨RX15, TX15, 40, "HouseWiresModel", tyX15, rfl, by decide, zin_X15, zT_tab 1211 (by decide +kernel) rfl, Or.inl rfl, rfl, by decide, tyX15_ok, nmX15, rfl, fun _ => rfl, (fun h => nomatch h), fun _ => rfl⟩
theorem zp_X15_69_14 : zFldP RX15 69 14 31 true true := ⟨RX15, TX15, 40, "HouseWiresModel", tyX15, rfl, by decide, zin_X15, zT_tab 1213 (by decide +kernel) rfl, Or.inl rfl, rfl, by decide, tyX15_ok, nmX15, rfl, fun _ => rfl, (fun h => nomatch h), fun _ => rfl⟩
theorem zp_X15_72_14 : zFldP RX15 72 14 33 true true := ⟨RX15, TX15, 40, "HouseWiresModel", tyX15, rfl, by decide, zin_X15, zT_tab 1215 (by decide +kernel) rfl, Or.inl rfl, rfl, by decide, tyX15_ok, nmX15, rfl, fun _ => rfl, (fun h => nomatch h), fun _ => rfl⟩
theorem zp_X15_75_14 : zFldP RX15 75 14 34 true true := ⟨RX15, TX15, 40, "HouseWiresModel", tyX15, rfl, by decide, zin_X15, zT_tab 1216 (by decide +kernel) rfl, Or.inl rfl, rfl, by decide, tyX15_ok, nmX15, rfl, fun _ => rfl, (fun h => nomatch h), fun _ => rfl⟩
theorem zp_X15_78_14 : zFldP RX15 78 14 35 true true := ⟨RX15, TX15, 40, "HouseWiresModel", tyX15, rfl, by decide, zin_X15, zT_tab 1217 (by decide +kernel) rfl, Or.inl rfl, rfl, by decide, tyX15_ok, nmX15, rfl, fun _ => rfl, (fun h => nomatch h), fun _ => rfl⟩
theorem zp_X15_81_14 : zFldP RX15 81 14 36 true true := ⟨RX15, TX15, 40, "HouseWiresModel", tyX15, rfl, by decide, zin_X15, zT_tab 1218 (by decide +kernel) rfl, Or.inl rfl, rfl, by decide, tyX15_ok, nmX15, rfl, fun _ => rfl, (fun h => nomatch h), fun _ => rfl⟩
theorem zp_X15_84_14 : zFldP RX15 84 14 37 true true := ⟨RX15, TX15, 40, "HouseWiresModel", tyX15, rfl, by decide, zin_X15, zT_tab 1219 (by decide +kernel) rfl, Or.inl rfl, rfl, by decide, tyX15_ok, nmX15, rfl, fun _ => rfl, (fun h => nomatch h), fun _ => rfl⟩
theorem zp_X15_87_14 : zFldP RX15 87 14 38 true true := ⟨RX15, TX15, 40, "HouseWiresModel", tyX15, rfl, by decide, zin_X15, zT_tab 1220 (by decide +kernel) rfl, Or.inl rfl, rfl, by decide, tyX15_ok, nmX15, rfl, fun _ => rfl, (fun h => nomatch h), fun _ => rfl⟩
theorem zf_X15_21_14 : zFld RX15 21 14 8 true := ⟨RX15, TX15, 40, "HouseWiresModel", rfl, by decide, zin_X15, zT_tab 1190 (by decide +kernel) rfl, Or.inl rfl, rfl, by decide⟩
theorem zn_X15_19 : zNew RX15 19 12 28 := ⟨RX13, TX13, tyX13, rfl, zin_X13, tyX13_ok, zT_tab 1005 (by decide +kernel) rfl, zT_tab 1009 (by decide +kernel) rfl, zT_tab 6 (by decide +kernel) rfl, by decide +kernel, by decide⟩
theorem zc_X15_90 : zCIN RX15 90 yX13_init cX13_init 1 0 := ⟨⟨"HouseWiresModel", by decide +kernel⟩, zT_tab 1011 (by decide +kernel) rfl, zT_tab 6 (by decide +kernel) rfl, zT_tab 1012 (by decide +kernel) rfl, rfl, by decide +kernel, by decide +kernel, by decide +kernel⟩
theorem zf_X15_27_14 : zFld RX15 27 14 10 true := ⟨RX15, TX15, 40, "HouseWiresModel", rfl, by decide, zin_X15, zT_tab 1192 (by decide +kernel) rfl, Or.inl rfl, rfl, by decide⟩
theorem zn_X15_25 : zNew RX15 25 11 7 := ⟨RX12, TX12, tyX12, rfl, zin_X12, tyX12_ok, zT_tab 1007 (by decide +kernel) rfl, zT_tab 1146 (by decide +kernel) rfl, zT_tab 8 (by decide +kernel) rfl, by decide +kernel, by decide⟩
theorem zc_X15_91 : zCIN RX15 91 yX12_init cX12_init 1 0 := ⟨⟨"HouseWiresModel", by decide +kernel⟩, zT_tab 1148 (by decide +kernel) rfl, zT_tab 8 (by decide +kernel) rfl, zT_tab 1149 (by decide +kernel) rfl, rfl, by decide +kernel, by decide +kernel, by decide +kernel⟩
theorem zf_X15_15_14 : zFld RX15 15 14 6 true := ⟨RX15, TX15, 40, "HouseWiresModel", rfl, by decide, zin_X15, zT_tab 1188 (by decide +kernel) rfl, Or.inl rfl, rfl, by decide⟩
theorem zn_X15_13 : zNew RX15 13 13 6 := ⟨RX14, TX14, tyX14, rfl, zin_X14, tyX14_ok, zT_tab 1003 (by decide +kernel) rfl, zT_tab 1015 (by decide +kernel) rfl, zT_tab 7 (by decide +kernel) rfl, by decide +kernel, by decide⟩
theorem zc_X15_92 : zCIN RX15 92 yX14_init cX14_init 1 0 := ⟨⟨"HouseWiresModel", by decide +kernel⟩, zT_tab 1017 (by decide +kernel) rfl, zT_tab 7 (by decide +kernel) rfl, zT_tab 1018 (by decide +kernel) rfl, rfl, by decide +kernel, by decide +kernel, by decide +kernel⟩
theorem zf_X15_93_14 : zFld RX15 93 14 0 false := ⟨RX15, TX15, 40, "HouseWiresModel", rfl, by decide, zin_X15, zT_tab 1182 (by decide +kernel) rfl, Or.inl rfl, rfl, by decide⟩
theorem zf_X15_132_14 : zFld RX15 132 14 4 false := ⟨RX15, TX15, 40, "HouseWiresModel", rfl, by decide, zin_X15, zT_tab 1186 (by decide +kernel) rfl, Or.inl rfl, rfl, by decide⟩
theorem zc_X15_135 : zCS RX15 135 yX15_in cX15_in 3 (some .boolean) 3 := ⟨zT_tab 1311 (by decide +kernel) rfl, zT_tab 1312 (by decide +kernel) rfl, zT_tab 5 (by decide +kernel) rfl, zT_tab 1313 (by decide +kernel) rfl, by decide +kernel, by decide +kernel, by decide +kernel⟩
theorem zf_X15_139_14 : zFld RX15 139 14 7 false := ⟨RX15, TX15, 40, "HouseWiresModel", rfl, by decide, zin_X15, zT_tab 1189 (by decide +kernel) rfl, Or.inl rfl, rfl, by decide⟩
theorem zf_X15_142_14 : zFld RX15 142 14 9 false := ⟨RX15, TX15, 40, "HouseWiresModel", rfl, by decide, zin_X15, zT_tab 1191 (by decide +kernel) rfl, Or.inl rfl, rfl, by decide⟩
theorem zc_X15_145 : zCV RX15 145 14 yX15_isDevice cX15_isDevice 2 (some .boolean) 1 := ⟨RX15, TX15, 40, rfl, zT_tab 1351 (by decide +kernel) rfl, zT_tab 1353 (by decide +kernel) rfl, zT_prv 34 (by decide +kernel) rfl, zT_tab 5 (by decide +kernel) rfl, zT_tab 1354 (by decide +kernel) rfl, by decide, rfl, by decide +kernel, by decide +kernel, by decide +kernel⟩
theorem zf_X15_149_12 : zFld RX15 149 12 6 false := ⟨RX13, TX13, 28, "HouseWiresModel$Device", rfl, by decide, zin_X13, zT_tab 1056 (by decide +kernel) rfl, Or.inl rfl, rfl, by decide⟩
theorem zf_X15_7_14 : zFld RX15 7 14 5 true := ⟨RX15, TX15, 40, "HouseWiresModel", rfl, by decide, zin_X15, zT_tab 1187 (by decide +kernel) rfl, Or.inl rfl, rfl, by decide⟩
theorem zp_X15_93_14 : zFldP RX15 93 14 0 false false := ⟨RX15, TX15, 40, "HouseWiresModel", tyX15, rfl, by decide, zin_X15, zT_tab 1182 (by decide +kernel) rfl, Or.inl rfl, rfl, by decide, tyX15_ok, nmX15, rfl, (fun h => nomatch h), fun _ => rfl, (fun h => nomatch h)⟩
theorem zc_X15_355 : zCV RX15 355 14 yX15_lineOf cX15_lineOf 4 (some .int) 1 := ⟨RX15, TX15, 40, rfl, zT_tab 1314 (by decide +kernel) rfl, zT_tab 1316 (by decide +kernel) rfl, zT_prv 30 (by decide +kernel) rfl, zT_tab 5 (by decide +kernel) rfl, zT_tab 1317 (by decide +kernel) rfl, by decide, rfl, by decide +kernel, by decide +kernel, by decide +kernel⟩
theorem zp_X15_132_14 : zFldP RX15 132 14 4 false false := ⟨RX15, TX15, 40, "HouseWiresModel", tyX15, rfl, by decide, zin_X15, zT_tab 1186 (by decide +kernel) rfl, Or.inl rfl, rfl, by decide, tyX15_ok, nmX15, rfl, (fun h => nomatch h), fun _ => rfl, (fun h => nomatch h)⟩
theorem zc_X15_399 : zCV RX15 399 14 yX15_isLine cX15_isLine 2 (some .boolean) 1 := ⟨RX15, TX15, 40, rfl, zT_tab 1322 (by decide +kernel) rfl, zT_tab 1324 (by decide +kernel) rfl, zT_prv 31 (by decide +kernel) rfl, zT_tab 5 (by decide +kernel) rfl, zT_tab 1325 (by decide +kernel) rfl, by decide, rfl, by decide +kernel, by decide +kernel, by decide +kernel⟩
theorem zp_X15_271_12 : zFldP RX15 271 12 0 false false := ⟨RX13, TX13, 28, "HouseWiresModel$Device", tyX13, rfl, by decide, zin_X13, zT_tab 1048 (by decide +kernel) rfl, Or.inl rfl, rfl, by decide, tyX13_ok, nmX13, rfl, (fun h => nomatch h), fun _ => rfl, (fun h => nomatch h)⟩
theorem zp_X15_152_12 : zFldP RX15 152 12 1 false false := ⟨RX13, TX13, 28, "HouseWiresModel$Device", tyX13, rfl, by decide, zin_X13, zT_tab 1049 (by decide +kernel) rfl, Or.inl rfl, rfl, by decide, tyX13_ok, nmX13, rfl, (fun h => nomatch h), fun _ => rfl, (fun h => nomatch h)⟩
theorem zp_X15_139_14 : zFldP RX15 139 14 7 false false := ⟨RX15, TX15, 40, "HouseWiresModel", tyX15, rfl, by decide, zin_X15, zT_tab 1189 (by decide +kernel) rfl, Or.inl rfl, rfl, by decide, tyX15_ok, nmX15, rfl, (fun h => nomatch h), fun _ => rfl, (fun h => nomatch h)⟩
theorem zf_X15_152_12 : zFld RX15 152 12 1 false := ⟨RX13, TX13, 28, "HouseWiresModel$Device", rfl, by decide, zin_X13, zT_tab 1049 (by decide +kernel) rfl, Or.inl rfl, rfl, by decide⟩
theorem zc_X15_358 : zCV RX15 358 14 yX15_isJoined cX15_isJoined 9 (some .boolean) 3 := ⟨RX15, TX15, 40, rfl, zT_tab 1330 (by decide +kernel) rfl, zT_tab 1332 (by decide +kernel) rfl, zT_prv 32 (by decide +kernel) rfl, zT_tab 5 (by decide +kernel) rfl, zT_tab 1333 (by decide +kernel) rfl, by decide, rfl, by decide +kernel, by decide +kernel, by decide +kernel⟩
theorem zf_X15_278_11 : zFld RX15 278 11 0 true := ⟨RX12, TX12, 7, "HouseWiresModel$Coupler", rfl, by decide, zin_X12, zT_tab 1155 (by decide +kernel) rfl, Or.inl rfl, rfl, by decide⟩
theorem zp_X15_142_14 : zFldP RX15 142 14 9 false false := ⟨RX15, TX15, 40, "HouseWiresModel", tyX15, rfl, by decide, zin_X15, zT_tab 1191 (by decide +kernel) rfl, Or.inl rfl, rfl, by decide, tyX15_ok, nmX15, rfl, (fun h => nomatch h), fun _ => rfl, (fun h => nomatch h)⟩
theorem zc_X15_402 : zCV RX15 402 14 yX15_isCoupler cX15_isCoupler 2 (some .boolean) 1 := ⟨RX15, TX15, 40, rfl, zT_tab 1338 (by decide +kernel) rfl, zT_tab 1340 (by decide +kernel) rfl, zT_prv 33 (by decide +kernel) rfl, zT_tab 5 (by decide +kernel) rfl, zT_tab 1341 (by decide +kernel) rfl, by decide, rfl, by decide +kernel, by decide +kernel, by decide +kernel⟩
theorem zp_X15_352_11 : zFldP RX15 352 11 1 false false := ⟨RX12, TX12, 7, "HouseWiresModel$Coupler", tyX12, rfl, by decide, zin_X12, zT_tab 1156 (by decide +kernel) rfl, Or.inl rfl, rfl, by decide, tyX12_ok, nmX12, rfl, (fun h => nomatch h), fun _ => rfl, (fun h => nomatch h)⟩
theorem zk_X15_405 : Cond.constant RX15 405 65535 ∈ zT := zT_tab 1346 (by decide +kernel) rfl
theorem zf_X15_346_11 : zFld RX15 346 11 3 false := ⟨RX12, TX12, 7, "HouseWiresModel$Coupler", rfl, by decide, zin_X12, zT_tab 1159 (by decide +kernel) rfl, Or.inl rfl, rfl, by decide⟩
theorem zf_X15_349_11 : zFld RX15 349 11 2 true := ⟨RX12, TX12, 7, "HouseWiresModel$Coupler", rfl, by decide, zin_X12, zT_tab 1158 (by decide +kernel) rfl, Or.inl rfl, rfl, by decide⟩
theorem zp_X15_346_11 : zFldP RX15 346 11 3 false false := ⟨RX12, TX12, 7, "HouseWiresModel$Coupler", tyX12, rfl, by decide, zin_X12, zT_tab 1159 (by decide +kernel) rfl, Or.inl rfl, rfl, by decide, tyX12_ok, nmX12, rfl, (fun h => nomatch h), fun _ => rfl, (fun h => nomatch h)⟩
theorem zf_X15_167_12 : zFld RX15 167 12 7 true := ⟨RX13, TX13, 28, "HouseWiresModel$Device", rfl, by decide, zin_X13, zT_tab 1058 (by decide +kernel) rfl, Or.inl rfl, rfl, by decide⟩
theorem zc_X15_409 : zCV RX15 409 14 yX15_isObject cX15_isObject 3 (some .boolean) 2 := ⟨RX15, TX15, 40, rfl, zT_tab 1361 (by decide +kernel) rfl, zT_tab 1363 (by decide +kernel) rfl, zT_prv 35 (by decide +kernel) rfl, zT_tab 5 (by decide +kernel) rfl, zT_tab 1364 (by decide +kernel) rfl, by decide, rfl, by decide +kernel, by decide +kernel, by decide +kernel⟩
theorem zf_X15_189_12 : zFld RX15 189 12 10 true := ⟨RX13, TX13, 28, "HouseWiresModel$Device", rfl, by decide, zin_X13, zT_tab 1064 (by decide +kernel) rfl, Or.inl rfl, rfl, by decide⟩
theorem zf_X15_180_12 : zFld RX15 180 12 12 false := ⟨RX13, TX13, 28, "HouseWiresModel$Device", rfl, by decide, zin_X13, zT_tab 1067 (by decide +kernel) rfl, Or.inl rfl, rfl, by decide⟩
theorem zf_X15_183_12 : zFld RX15 183 12 13 true := ⟨RX13, TX13, 28, "HouseWiresModel$Device", rfl, by decide, zin_X13, zT_tab 1069 (by decide +kernel) rfl, Or.inl rfl, rfl, by decide⟩
theorem zf_X15_186_12 : zFld RX15 186 12 14 true := ⟨RX13, TX13, 28, "HouseWiresModel$Device", rfl, by decide, zin_X13, zT_tab 1071 (by decide +kernel) rfl, Or.inl rfl, rfl, by decide⟩
theorem zp_X15_180_12 : zFldP RX15 180 12 12 false false := ⟨RX13, TX13, 28, "HouseWiresModel$Device", tyX13, rfl, by decide, zin_X13, zT_tab 1067 (by decide +kernel) rfl, Or.inl rfl, rfl, by decide, tyX13_ok, nmX13, rfl, (fun h => nomatch h), fun _ => rfl, (fun h => nomatch h)⟩
theorem zc_X15_417 : zCV RX15 417 14 yX15_sets cX15_sets 6 (some .int) 3 := ⟨RX15, TX15, 40, rfl, zT_tab 1373 (by decide +kernel) rfl, zT_tab 1375 (by decide +kernel) rfl, zT_prv 36 (by decide +kernel) rfl, zT_tab 5 (by decide +kernel) rfl, zT_tab 1376 (by decide +kernel) rfl, by decide, rfl, by decide +kernel, by decide +kernel, by decide +kernel⟩
theorem zc_X15_413 : zCS RX15 413 yX15_ownGroup cX15_ownGroup 4 (some .int) 2 := ⟨zT_tab 1377 (by decide +kernel) rfl, zT_tab 1378 (by decide +kernel) rfl, zT_tab 5 (by decide +kernel) rfl, zT_tab 1379 (by decide +kernel) rfl, by decide +kernel, by decide +kernel, by decide +kernel⟩
theorem zf_X15_155_12 : zFld RX15 155 12 2 true := ⟨RX13, TX13, 28, "HouseWiresModel$Device", rfl, by decide, zin_X13, zT_tab 1051 (by decide +kernel) rfl, Or.inl rfl, rfl, by decide⟩
theorem zf_X15_96_13 : zFld RX15 96 13 5 false := ⟨RX14, TX14, 6, "HouseWiresModel$Out", rfl, by decide, zin_X14, zT_tab 1033 (by decide +kernel) rfl, Or.inl rfl, rfl, by decide⟩
theorem zf_X15_37_14 : zFld RX15 37 14 13 true := ⟨RX15, TX15, 40, "HouseWiresModel", rfl, by decide, zin_X15, zT_tab 1195 (by decide +kernel) rfl, Or.inl rfl, rfl, by decide⟩
theorem zf_X15_177_12 : zFld RX15 177 12 9 true := ⟨RX13, TX13, 28, "HouseWiresModel$Device", rfl, by decide, zin_X13, zT_tab 1062 (by decide +kernel) rfl, Or.inl rfl, rfl, by decide⟩
theorem zc_X15_163 : zCV RX15 163 14 yX15_tells cX15_tells 8 (some .int) 6 := ⟨RX15, TX15, 40, rfl, zT_tab 1390 (by decide +kernel) rfl, zT_tab 1392 (by decide +kernel) rfl, zT_prv 38 (by decide +kernel) rfl, zT_tab 5 (by decide +kernel) rfl, zT_tab 1393 (by decide +kernel) rfl, by decide, rfl, by decide +kernel, by decide +kernel, by decide +kernel⟩
theorem zk_X15_422 : Cond.constantLong RX15 422 (-1) ∈ zT := zT_tab 1410 (by decide +kernel) rfl
theorem zf_X15_174_12 : zFld RX15 174 12 8 true := ⟨RX13, TX13, 28, "HouseWiresModel$Device", rfl, by decide, zin_X13, zT_tab 1060 (by decide +kernel) rfl, Or.inl rfl, rfl, by decide⟩
theorem zk_X15_420 : Cond.constantLong RX15 420 4294967295 ∈ zT := zT_tab 1409 (by decide +kernel) rfl
theorem zf_X15_200_12 : zFld RX15 200 12 11 true := ⟨RX13, TX13, 28, "HouseWiresModel$Device", rfl, by decide, zin_X13, zT_tab 1066 (by decide +kernel) rfl, Or.inl rfl, rfl, by decide⟩
theorem zk_X15_426 : Cond.constantLong RX15 426 (-9223372036854775808) ∈ zT := zT_tab 1419 (by decide +kernel) rfl
theorem zk_X15_428 : Cond.constant RX15 428 32768 ∈ zT := zT_tab 1420 (by decide +kernel) rfl
theorem zf_X15_210_12 : zFld RX15 210 12 18 false := ⟨RX13, TX13, 28, "HouseWiresModel$Device", rfl, by decide, zin_X13, zT_tab 1077 (by decide +kernel) rfl, Or.inl rfl, rfl, by decide⟩
theorem zp_X15_210_12 : zFldP RX15 210 12 18 false false := ⟨RX13, TX13, 28, "HouseWiresModel$Device", tyX13, rfl, by decide, zin_X13, zT_tab 1077 (by decide +kernel) rfl, Or.inl rfl, rfl, by decide, tyX13_ok, nmX13, rfl, (fun h => nomatch h), fun _ => rfl, (fun h => nomatch h)⟩
theorem zp_X15_203_12 : zFldP RX15 203 12 19 false false := ⟨RX13, TX13, 28, "HouseWiresModel$Device", tyX13, rfl, by decide, zin_X13, zT_tab 1078 (by decide +kernel) rfl, Or.inl rfl, rfl, by decide, tyX13_ok, nmX13, rfl, (fun h => nomatch h), fun _ => rfl, (fun h => nomatch h)⟩
theorem zp_X15_216_12 : zFldP RX15 216 12 20 false false := ⟨RX13, TX13, 28, "HouseWiresModel$Device", tyX13, rfl, by decide, zin_X13, zT_tab 1079 (by decide +kernel) rfl, Or.inl rfl, rfl, by decide, tyX13_ok, nmX13, rfl, (fun h => nomatch h), fun _ => rfl, (fun h => nomatch h)⟩
theorem zp_X15_246_12 : zFldP RX15 246 12 21 false false := ⟨RX13, TX13, 28, "HouseWiresModel$Device", tyX13, rfl, by decide, zin_X13, zT_tab 1080 (by decide +kernel) rfl, Or.inl rfl, rfl, by decide, tyX13_ok, nmX13, rfl, (fun h => nomatch h), fun _ => rfl, (fun h => nomatch h)⟩
theorem zc_X15_206 : zCV RX15 206 14 yX15_tellsOne cX15_tellsOne 4 (some .int) 3 := ⟨RX15, TX15, 40, rfl, zT_tab 1429 (by decide +kernel) rfl, zT_tab 1431 (by decide +kernel) rfl, zT_prv 40 (by decide +kernel) rfl, zT_tab 5 (by decide +kernel) rfl, zT_tab 1432 (by decide +kernel) rfl, by decide, rfl, by decide +kernel, by decide +kernel, by decide +kernel⟩
theorem zp_X15_396_12 : zFldP RX15 396 12 25 false false := ⟨RX13, TX13, 28, "HouseWiresModel$Device", tyX13, rfl, by decide, zin_X13, zT_tab 1085 (by decide +kernel) rfl, Or.inl rfl, rfl, by decide, tyX13_ok, nmX13, rfl, (fun h => nomatch h), fun _ => rfl, (fun h => nomatch h)⟩
theorem zc_X15_231 : zCV RX15 231 14 yX15_closes cX15_closes 3 none 1 := ⟨RX15, TX15, 40, rfl, zT_tab 1437 (by decide +kernel) rfl, zT_tab 1439 (by decide +kernel) rfl, zT_prv 41 (by decide +kernel) rfl, zT_tab 5 (by decide +kernel) rfl, zT_tab 1440 (by decide +kernel) rfl, by decide, rfl, by decide +kernel, by decide +kernel, by decide +kernel⟩
theorem zc_X15_429 : zCV RX15 429 14 yX15_mayOrder cX15_mayOrder 5 (some .boolean) 4 := ⟨RX15, TX15, 40, rfl, zT_tab 1445 (by decide +kernel) rfl, zT_tab 1447 (by decide +kernel) rfl, zT_prv 42 (by decide +kernel) rfl, zT_tab 5 (by decide +kernel) rfl, zT_tab 1448 (by decide +kernel) rfl, by decide, rfl, by decide +kernel, by decide +kernel, by decide +kernel⟩
theorem zf_X15_84_14 : zFld RX15 84 14 37 true := ⟨RX15, TX15, 40, "HouseWiresModel", rfl, by decide, zin_X15, zT_tab 1219 (by decide +kernel) rfl, Or.inl rfl, rfl, by decide⟩
theorem zc_X15_259 : zCV RX15 259 14 yX15_sendsData cX15_sendsData 5 none 3 := ⟨RX15, TX15, 40, rfl, zT_tab 1449 (by decide +kernel) rfl, zT_tab 1451 (by decide +kernel) rfl, zT_prv 43 (by decide +kernel) rfl, zT_tab 5 (by decide +kernel) rfl, zT_tab 1452 (by decide +kernel) rfl, by decide, rfl, by decide +kernel, by decide +kernel, by decide +kernel⟩
theorem zf_X15_256_12 : zFld RX15 256 12 15 true := ⟨RX13, TX13, 28, "HouseWiresModel$Device", rfl, by decide, zin_X13, zT_tab 1073 (by decide +kernel) rfl, Or.inl rfl, rfl, by decide⟩
theorem zf_X15_262_12 : zFld RX15 262 12 17 false := ⟨RX13, TX13, 28, "HouseWiresModel$Device", rfl, by decide, zin_X13, zT_tab 1076 (by decide +kernel) rfl, Or.inl rfl, rfl, by decide⟩
theorem zf_X15_265_12 : zFld RX15 265 12 16 true := ⟨RX13, TX13, 28, "HouseWiresModel$Device", rfl, by decide, zin_X13, zT_tab 1075 (by decide +kernel) rfl, Or.inl rfl, rfl, by decide⟩
theorem zf_X15_203_12 : zFld RX15 203 12 19 false := ⟨RX13, TX13, 28, "HouseWiresModel$Device", rfl, by decide, zin_X13, zT_tab 1078 (by decide +kernel) rfl, Or.inl rfl, rfl, by decide⟩
theorem zf_X15_216_12 : zFld RX15 216 12 20 false := ⟨RX13, TX13, 28, "HouseWiresModel$Device", rfl, by decide, zin_X13, zT_tab 1079 (by decide +kernel) rfl, Or.inl rfl, rfl, by decide⟩
theorem zf_X15_246_12 : zFld RX15 246 12 21 false := ⟨RX13, TX13, 28, "HouseWiresModel$Device", rfl, by decide, zin_X13, zT_tab 1080 (by decide +kernel) rfl, Or.inl rfl, rfl, by decide⟩
theorem zf_X15_222_12 : zFld RX15 222 12 22 false := ⟨RX13, TX13, 28, "HouseWiresModel$Device", rfl, by decide, zin_X13, zT_tab 1081 (by decide +kernel) rfl, Or.inl rfl, rfl, by decide⟩
theorem zf_X15_225_12 : zFld RX15 225 12 23 false := ⟨RX13, TX13, 28, "HouseWiresModel$Device", rfl, by decide, zin_X13, zT_tab 1082 (by decide +kernel) rfl, Or.inl rfl, rfl, by decide⟩
theorem zf_X15_228_12 : zFld RX15 228 12 24 false := ⟨RX13, TX13, 28, "HouseWiresModel$Device", rfl, by decide, zin_X13, zT_tab 1083 (by decide +kernel) rfl, Or.inl rfl, rfl, by decide⟩
theorem zf_X15_317_12 : zFld RX15 317 12 3 false := ⟨RX13, TX13, 28, "HouseWiresModel$Device", rfl, by decide, zin_X13, zT_tab 1052 (by decide +kernel) rfl, Or.inl rfl, rfl, by decide⟩
theorem zp_X15_317_12 : zFldP RX15 317 12 3 false false := ⟨RX13, TX13, 28, "HouseWiresModel$Device", tyX13, rfl, by decide, zin_X13, zT_tab 1052 (by decide +kernel) rfl, Or.inl rfl, rfl, by decide, tyX13_ok, nmX13, rfl, (fun h => nomatch h), fun _ => rfl, (fun h => nomatch h)⟩
theorem zf_X15_433_14 : zFld RX15 433 14 39 false := ⟨RX15, TX15, 40, "HouseWiresModel", rfl, by decide, zin_X15, zT_tab 1221 (by decide +kernel) rfl, Or.inl rfl, rfl, by decide⟩
theorem zf_X15_87_14 : zFld RX15 87 14 38 true := ⟨RX15, TX15, 40, "HouseWiresModel", rfl, by decide, zin_X15, zT_tab 1220 (by decide +kernel) rfl, Or.inl rfl, rfl, by decide⟩
theorem zp_X15_433_14 : zFldP RX15 433 14 39 false false := ⟨RX15, TX15, 40, "HouseWiresModel", tyX15, rfl, by decide, zin_X15, zT_tab 1221 (by decide +kernel) rfl, Or.inl rfl, rfl, by decide, tyX15_ok, nmX15, rfl, (fun h => nomatch h), fun _ => rfl, (fun h => nomatch h)⟩
theorem zc_X15_159 : zCV RX15 159 14 yX15_comes cX15_comes 5 (some .int) 3 := ⟨RX15, TX15, 40, rfl, zT_tab 1397 (by decide +kernel) rfl, zT_tab 1399 (by decide +kernel) rfl, zT_prv 39 (by decide +kernel) rfl, zT_tab 5 (by decide +kernel) rfl, zT_tab 1400 (by decide +kernel) rfl, by decide, rfl, by decide +kernel, by decide +kernel, by decide +kernel⟩
theorem zf_X15_295_14 : zFld RX15 295 14 26 false := ⟨RX15, TX15, 40, "HouseWiresModel", rfl, by decide, zin_X15, zT_tab 1208 (by decide +kernel) rfl, Or.inl rfl, rfl, by decide⟩
theorem zf_X15_50_14 : zFld RX15 50 14 23 true := ⟨RX15, TX15, 40, "HouseWiresModel", rfl, by decide, zin_X15, zT_tab 1205 (by decide +kernel) rfl, Or.inl rfl, rfl, by decide⟩
theorem zf_X15_298_14 : zFld RX15 298 14 15 false := ⟨RX15, TX15, 40, "HouseWiresModel", rfl, by decide, zin_X15, zT_tab 1197 (by decide +kernel) rfl, Or.inl rfl, rfl, by decide⟩
theorem zf_X15_53_14 : zFld RX15 53 14 24 true := ⟨RX15, TX15, 40, "HouseWiresModel", rfl, by decide, zin_X15, zT_tab 1206 (by decide +kernel) rfl, Or.inl rfl, rfl, by decide⟩
theorem zp_X15_295_14 : zFldP RX15 295 14 26 false false := ⟨RX15, TX15, 40, "HouseWiresModel", tyX15, rfl, by decide, zin_X15, zT_tab 1208 (by decide +kernel) rfl, Or.inl rfl, rfl, by decide, tyX15_ok, nmX15, rfl, (fun h => nomatch h), fun _ => rfl, (fun h => nomatch h)⟩
theorem zf_X15_56_14 : zFld RX15 56 14 25 true := ⟨RX15, TX15, 40, "HouseWiresModel", rfl, by decide, zin_X15, zT_tab 1207 (by decide +kernel) rfl, Or.inl rfl, rfl, by decide⟩
theorem zf_X15_112_14 : zFld RX15 112 14 1 false := ⟨RX15, TX15, 40, "HouseWiresModel", rfl, by decide, zin_X15, zT_tab 1183 (by decide +kernel) rfl, Or.inl rfl, rfl, by decide⟩
theorem zp_X15_112_14 : zFldP RX15 112 14 1 false false := ⟨RX15, TX15, 40, "HouseWiresModel", tyX15, rfl, by decide, zin_X15, zT_tab 1183 (by decide +kernel) rfl, Or.inl rfl, rfl, by decide, tyX15_ok, nmX15, rfl, (fun h => nomatch h), fun _ => rfl, (fun h => nomatch h)⟩
theorem zc_X15_436 : zCV RX15 436 14 yX15_goesOn cX15_goesOn 7 none 1 := ⟨RX15, TX15, 40, rfl, zT_tab 1497 (by decide +kernel) rfl, zT_tab 1499 (by decide +kernel) rfl, zT_prv 44 (by decide +kernel) rfl, zT_tab 5 (by decide +kernel) rfl, zT_tab 1500 (by decide +kernel) rfl, by decide, rfl, by decide +kernel, by decide +kernel, by decide +kernel⟩
theorem zc_X15_439 : zCV RX15 439 14 yX15_times cX15_times 2 none 1 := ⟨RX15, TX15, 40, rfl, zT_tab 1593 (by decide +kernel) rfl, zT_tab 1595 (by decide +kernel) rfl, zT_prv 61 (by decide +kernel) rfl, zT_tab 5 (by decide +kernel) rfl, zT_tab 1596 (by decide +kernel) rfl, by decide, rfl, by decide +kernel, by decide +kernel, by decide +kernel⟩
theorem zf_X15_292_14 : zFld RX15 292 14 22 false := ⟨RX15, TX15, 40, "HouseWiresModel", rfl, by decide, zin_X15, zT_tab 1204 (by decide +kernel) rfl, Or.inl rfl, rfl, by decide⟩
theorem zf_X15_47_14 : zFld RX15 47 14 21 true := ⟨RX15, TX15, 40, "HouseWiresModel", rfl, by decide, zin_X15, zT_tab 1203 (by decide +kernel) rfl, Or.inl rfl, rfl, by decide⟩
theorem zf_X15_390_14 : zFld RX15 390 14 16 false := ⟨RX15, TX15, 40, "HouseWiresModel", rfl, by decide, zin_X15, zT_tab 1198 (by decide +kernel) rfl, Or.inl rfl, rfl, by decide⟩
theorem zf_X15_393_14 : zFld RX15 393 14 17 false := ⟨RX15, TX15, 40, "HouseWiresModel", rfl, by decide, zin_X15, zT_tab 1199 (by decide +kernel) rfl, Or.inl rfl, rfl, by decide⟩
theorem zf_X15_99_14 : zFld RX15 99 14 3 false := ⟨RX15, TX15, 40, "HouseWiresModel", rfl, by decide, zin_X15, zT_tab 1185 (by decide +kernel) rfl, Or.inl rfl, rfl, by decide⟩
theorem zf_X15_343_14 : zFld RX15 343 14 18 false := ⟨RX15, TX15, 40, "HouseWiresModel", rfl, by decide, zin_X15, zT_tab 1200 (by decide +kernel) rfl, Or.inl rfl, rfl, by decide⟩
theorem zf_X15_381_14 : zFld RX15 381 14 19 false := ⟨RX15, TX15, 40, "HouseWiresModel", rfl, by decide, zin_X15, zT_tab 1201 (by decide +kernel) rfl, Or.inl rfl, rfl, by decide⟩
theorem zf_X15_43_14 : zFld RX15 43 14 20 false := ⟨RX15, TX15, 40, "HouseWiresModel", rfl, by decide, zin_X15, zT_tab 1202 (by decide +kernel) rfl, Or.inl rfl, rfl, by decide⟩
theorem zf_X15_280_11 : zFld RX15 280 11 4 true := ⟨RX12, TX12, 7, "HouseWiresModel$Coupler", rfl, by decide, zin_X12, zT_tab 1161 (by decide +kernel) rfl, Or.inl rfl, rfl, by decide⟩
