/-! ===== THE PROGRAM IS WHAT THE TABLES SAY (written by wip/whole/gen_tab.py) ===== -/
set_option maxRecDepth 100000 in
theorem dk_X0_init : pm_dcl mX0_init = true := by decide +kernel
set_option maxRecDepth 100000 in
theorem ck_X0_init : pm_ckl mX0_init [0, 1114, 0, 1115, 0, 1116, 1117, 0, 0, 1125, 0, 0, 1075, 1128, 0, 0, 1075, 1130, 0, 0, 1076, 1133, 0, 0, 1076, 1136, 0, 0, 1139, 0, 0, 1076, 1144, 0, 0, 1076, 1146, 0, 0, 1075, 1149, 0, 0, 1076, 1153, 0] = true := by decide +kernel
set_option maxRecDepth 100000 in
theorem mk_X0_init : pm_mok pm_Ts mX0_init := ⟨⟨pm_G_in 1113 _ rfl, pm_G_in 1005 _ rfl, by decide⟩, ⟨by decide, by decide, by decide +kernel⟩, fun h => absurd h (by decide), fun _ => pm_G_in 1112 _ rfl, fun h => absurd h (by decide), fun _ => ⟨rfl, rfl⟩⟩
set_option maxRecDepth 100000 in
theorem dk_X0_stand : pm_dcl mX0_stand = true := by decide +kernel
set_option maxRecDepth 100000 in
theorem ck_X0_stand : pm_ckl mX0_stand [0, 1128, 0, 0, 0, 0, 1130, 0, 0, 0, 0] = true := by decide +kernel
set_option maxRecDepth 100000 in
theorem mk_X0_stand : pm_mok pm_Ts mX0_stand := ⟨⟨pm_G_in 4056 _ rfl, pm_G_in 1005 _ rfl, by decide⟩, ⟨by decide, by decide, by decide +kernel⟩, fun h => absurd h (by decide), fun _ => pm_G_in 4054 _ rfl, fun _ => pm_G_in 4055 _ rfl, fun h => absurd h (by decide)⟩
set_option maxRecDepth 100000 in
theorem dk_X0_covers : pm_dcl mX0_covers = true := by decide +kernel
set_option maxRecDepth 100000 in
theorem ck_X0_covers : pm_ckl mX0_covers [0, 1149, 0, 0, 0, 0, 0, 0, 1146, 0, 1149, 0, 0, 0, 0, 0, 0, 0, 0, 0, 0, 0, 0, 0, 1153, 0, 0, 0, 0, 0, 0, 0, 0, 0] = true := by decide +kernel
set_option maxRecDepth 100000 in
theorem mk_X0_covers : pm_mok pm_Ts mX0_covers := ⟨⟨pm_G_in 3048 _ rfl, pm_G_in 1005 _ rfl, by decide⟩, ⟨by decide, by decide, by decide +kernel⟩, fun h => absurd h (by decide), fun _ => pm_G_in 3046 _ rfl, fun _ => pm_G_in 3047 _ rfl, fun h => absurd h (by decide)⟩
set_option maxRecDepth 100000 in
theorem dk_X0_reach : pm_dcl mX0_reach = true := by decide +kernel
set_option maxRecDepth 100000 in
theorem ck_X0_reach : pm_ckl mX0_reach [0, 0, 0, 0, 0, 0, 0, 0, 1149, 0, 0, 0, 0, 0, 1149, 0, 0, 0, 1130, 0, 0, 0, 0, 0, 2087, 0, 0, 0, 0, 0] = true := by decide +kernel
set_option maxRecDepth 100000 in
theorem mk_X0_reach : pm_mok pm_Ts mX0_reach := ⟨⟨pm_G_in 2137 _ rfl, pm_G_in 1005 _ rfl, by decide⟩, ⟨by decide, by decide, by decide +kernel⟩, fun h => absurd h (by decide), fun _ => pm_G_in 2135 _ rfl, fun _ => pm_G_in 2136 _ rfl, fun h => absurd h (by decide)⟩
set_option maxRecDepth 100000 in
theorem dk_X0_countAsOther : pm_dcl mX0_countAsOther = true := by decide +kernel
set_option maxRecDepth 100000 in
theorem ck_X0_countAsOther : pm_ckl mX0_countAsOther [0, 0, 1117, 1062, 2087, 0, 0, 0, 0, 0, 0, 0, 0, 1128, 0, 0, 2087, 0, 0, 0, 0, 1130, 0, 0, 0, 0, 0, 2087, 0, 0, 0, 0, 0] = true := by decide +kernel
set_option maxRecDepth 100000 in
theorem mk_X0_countAsOther : pm_mok pm_Ts mX0_countAsOther := ⟨⟨pm_G_in 2086 _ rfl, pm_G_in 1005 _ rfl, by decide⟩, ⟨by decide, by decide, by decide +kernel⟩, fun h => absurd h (by decide), fun _ => pm_G_in 2084 _ rfl, fun _ => pm_G_in 2085 _ rfl, fun h => absurd h (by decide)⟩
set_option maxRecDepth 100000 in
theorem dk_X1_init : pm_dcl mX1_init = true := by decide +kernel
set_option maxRecDepth 100000 in
theorem ck_X1_init : pm_ckl mX1_init [0, 1219, 0, 0, 1213, 1227, 0, 0, 1075, 1228, 0, 0, 1220, 0, 0, 1221, 0] = true := by decide +kernel
set_option maxRecDepth 100000 in
theorem mk_X1_init : pm_mok pm_Ts mX1_init := ⟨⟨pm_G_in 1218 _ rfl, pm_G_in 1007 _ rfl, by decide⟩, ⟨by decide, by decide, by decide +kernel⟩, fun h => absurd h (by decide), fun _ => pm_G_in 1217 _ rfl, fun h => absurd h (by decide), fun _ => ⟨rfl, rfl⟩⟩
set_option maxRecDepth 100000 in
theorem dk_X1_placeAll : pm_dcl mX1_placeAll = true := by decide +kernel
set_option maxRecDepth 100000 in
theorem ck_X1_placeAll : pm_ckl mX1_placeAll [0, 0, 1220, 0, 0, 1221, 0, 0, 1222, 0, 0, 1223, 0, 0, 1221, 0, 1222, 2083, 1224, 0, 2090, 0, 2095, 0, 2106, 0, 2118, 0, 1220, 0, 1220, 1119, 1060, 0, 1220, 0, 1222, 2134, 2138, 1140, 0, 1221, 0, 1224, 1140, 0, 2139, 0] = true := by decide +kernel
set_option maxRecDepth 100000 in
theorem mk_X1_placeAll : pm_mok pm_Ts mX1_placeAll := ⟨⟨pm_G_in 2082 _ rfl, pm_G_in 1007 _ rfl, by decide⟩, ⟨by decide, by decide, by decide +kernel⟩, fun h => absurd h (by decide), fun _ => pm_G_in 2080 _ rfl, fun _ => pm_G_in 2081 _ rfl, fun h => absurd h (by decide)⟩
set_option maxRecDepth 100000 in
theorem dk_X1_clearPlaces : pm_dcl mX1_clearPlaces = true := by decide +kernel
set_option maxRecDepth 100000 in
theorem ck_X1_clearPlaces : pm_ckl mX1_clearPlaces [0, 0, 0, 0, 1227, 0, 0, 0, 1227, 0, 0, 0, 0, 0, 0, 1228, 0, 2094, 0, 1220, 1150, 0, 2094, 0, 1221, 1150, 0, 2094, 0, 0, 1225, 0, 0, 1226, 0] = true := by decide +kernel
set_option maxRecDepth 100000 in
theorem mk_X1_clearPlaces : pm_mok pm_Ts mX1_clearPlaces := ⟨⟨pm_G_in 2093 _ rfl, pm_G_in 1007 _ rfl, by decide⟩, ⟨by decide, by decide, by decide +kernel⟩, fun h => absurd h (by decide), fun _ => pm_G_in 2092 _ rfl, fun _ => pm_G_in 1 _ rfl, fun h => absurd h (by decide)⟩
set_option maxRecDepth 100000 in
theorem dk_X1_placeTold : pm_dcl mX1_placeTold = true := by decide +kernel
set_option maxRecDepth 100000 in
theorem ck_X1_placeTold : pm_ckl mX1_placeTold [0, 0, 0, 0, 1222, 0, 0, 1220, 1129, 0, 0, 0, 0, 1221, 1129, 0, 0, 0, 0, 0, 0, 1220, 1129, 0, 0, 0, 1221, 1129, 0, 0, 2099, 0, 0, 0] = true := by decide +kernel
set_option maxRecDepth 100000 in
theorem mk_X1_placeTold : pm_mok pm_Ts mX1_placeTold := ⟨⟨pm_G_in 2098 _ rfl, pm_G_in 1007 _ rfl, by decide⟩, ⟨by decide, by decide, by decide +kernel⟩, fun h => absurd h (by decide), fun _ => pm_G_in 2097 _ rfl, fun _ => pm_G_in 2 _ rfl, fun h => absurd h (by decide)⟩
set_option maxRecDepth 100000 in
theorem dk_X1_placeWithMainStart : pm_dcl mX1_placeWithMainStart = true := by decide +kernel
set_option maxRecDepth 100000 in
theorem ck_X1_placeWithMainStart : pm_ckl mX1_placeWithMainStart [0, 0, 0, 0, 1222, 0, 0, 1220, 1129, 0, 0, 0, 0, 1221, 1129, 0, 0, 0, 0, 0, 0, 1220, 1129, 0, 0, 2110, 0, 0, 0] = true := by decide +kernel
set_option maxRecDepth 100000 in
theorem mk_X1_placeWithMainStart : pm_mok pm_Ts mX1_placeWithMainStart := ⟨⟨pm_G_in 2109 _ rfl, pm_G_in 1007 _ rfl, by decide⟩, ⟨by decide, by decide, by decide +kernel⟩, fun h => absurd h (by decide), fun _ => pm_G_in 2108 _ rfl, fun _ => pm_G_in 4 _ rfl, fun h => absurd h (by decide)⟩
set_option maxRecDepth 100000 in
theorem dk_X1_placeOnMainLine : pm_dcl mX1_placeOnMainLine = true := by decide +kernel
set_option maxRecDepth 100000 in
theorem ck_X1_placeOnMainLine : pm_ckl mX1_placeOnMainLine [0, 1223, 0, 0, 0, 0, 1228, 0, 0, 0, 0, 0, 0, 0, 1224, 0, 0, 0, 0, 0, 2114, 0, 0, 0, 0, 0, 2099, 0, 1228, 0, 0, 0, 1221, 1132, 0, 0, 0, 0, 0, 0, 0, 0] = true := by decide +kernel
set_option maxRecDepth 100000 in
theorem mk_X1_placeOnMainLine : pm_mok pm_Ts mX1_placeOnMainLine := ⟨⟨pm_G_in 2113 _ rfl, pm_G_in 1007 _ rfl, by decide⟩, ⟨by decide, by decide, by decide +kernel⟩, fun h => absurd h (by decide), fun _ => pm_G_in 2112 _ rfl, fun _ => pm_G_in 5 _ rfl, fun h => absurd h (by decide)⟩
set_option maxRecDepth 100000 in
theorem dk_X1_placeByCursor : pm_dcl mX1_placeByCursor = true := by decide +kernel
set_option maxRecDepth 100000 in
theorem ck_X1_placeByCursor : pm_ckl mX1_placeByCursor [0, 0, 0, 0, 1222, 0, 0, 1220, 1129, 0, 0, 0, 0, 0, 1223, 0, 0, 0, 1225, 0, 0, 1226, 0, 1221, 1129, 0, 0, 0, 0, 0, 0, 1221, 1129, 0, 0, 2122, 0, 0, 0, 2130, 0, 0, 0] = true := by decide +kernel
set_option maxRecDepth 100000 in
theorem mk_X1_placeByCursor : pm_mok pm_Ts mX1_placeByCursor := ⟨⟨pm_G_in 2121 _ rfl, pm_G_in 1007 _ rfl, by decide⟩, ⟨by decide, by decide, by decide +kernel⟩, fun h => absurd h (by decide), fun _ => pm_G_in 2120 _ rfl, fun _ => pm_G_in 7 _ rfl, fun h => absurd h (by decide)⟩
set_option maxRecDepth 100000 in
theorem dk_X1_placeOnOtherLine : pm_dcl mX1_placeOnOtherLine = true := by decide +kernel
set_option maxRecDepth 100000 in
theorem ck_X1_placeOnOtherLine : pm_ckl mX1_placeOnOtherLine [0, 0, 1226, 0, 0, 1225, 0, 0, 0, 0, 1225, 0, 0, 0, 0, 0, 0, 0, 0, 0, 0, 2114, 0, 0, 0, 0, 0, 2126, 0, 0, 0, 0] = true := by decide +kernel
set_option maxRecDepth 100000 in
theorem mk_X1_placeOnOtherLine : pm_mok pm_Ts mX1_placeOnOtherLine := ⟨⟨pm_G_in 2125 _ rfl, pm_G_in 1007 _ rfl, by decide⟩, ⟨by decide, by decide, by decide +kernel⟩, fun h => absurd h (by decide), fun _ => pm_G_in 2124 _ rfl, fun _ => pm_G_in 8 _ rfl, fun h => absurd h (by decide)⟩
set_option maxRecDepth 100000 in
theorem dk_X1_placeAnywhere : pm_dcl mX1_placeAnywhere = true := by decide +kernel
set_option maxRecDepth 100000 in
theorem ck_X1_placeAnywhere : pm_ckl mX1_placeAnywhere [0, 1226, 0, 0, 1225, 0, 0, 0, 0, 0, 0, 0, 0, 1224, 0, 0, 0, 0, 0, 2114, 0, 0, 0, 0, 0, 2126, 0, 0, 0, 0, 0, 0, 0, 0] = true := by decide +kernel
set_option maxRecDepth 100000 in
theorem mk_X1_placeAnywhere : pm_mok pm_Ts mX1_placeAnywhere := ⟨⟨pm_G_in 2133 _ rfl, pm_G_in 1007 _ rfl, by decide⟩, ⟨by decide, by decide, by decide +kernel⟩, fun h => absurd h (by decide), fun _ => pm_G_in 2132 _ rfl, fun _ => pm_G_in 10 _ rfl, fun h => absurd h (by decide)⟩
set_option maxRecDepth 100000 in
theorem dk_X1_isOpen : pm_dcl mX1_isOpen = true := by decide +kernel
set_option maxRecDepth 100000 in
theorem ck_X1_isOpen : pm_ckl mX1_isOpen [0, 0, 1220, 1132, 0, 0, 0, 0, 0, 0, 1221, 1132, 0, 0, 0, 0, 0, 0, 0, 0, 0, 1224, 0, 0, 0, 0, 0, 0, 0, 0, 0, 0, 0, 0, 0, 0, 0, 0, 1227, 0, 0, 2103, 0, 0, 0, 0, 0, 0, 0, 0, 0, 0] = true := by decide +kernel
set_option maxRecDepth 100000 in
theorem mk_X1_isOpen : pm_mok pm_Ts mX1_isOpen := ⟨⟨pm_G_in 2117 _ rfl, pm_G_in 1007 _ rfl, by decide⟩, ⟨by decide, by decide, by decide +kernel⟩, fun h => absurd h (by decide), fun _ => pm_G_in 2116 _ rfl, fun _ => pm_G_in 6 _ rfl, fun h => absurd h (by decide)⟩
set_option maxRecDepth 100000 in
theorem dk_X1_settleAtCursor : pm_dcl mX1_settleAtCursor = true := by decide +kernel
set_option maxRecDepth 100000 in
theorem ck_X1_settleAtCursor : pm_ckl mX1_settleAtCursor [0, 0, 0, 0, 2099, 0, 0, 1225, 0, 0, 1226, 0] = true := by decide +kernel
set_option maxRecDepth 100000 in
theorem mk_X1_settleAtCursor : pm_mok pm_Ts mX1_settleAtCursor := ⟨⟨pm_G_in 2129 _ rfl, pm_G_in 1007 _ rfl, by decide⟩, ⟨by decide, by decide, by decide +kernel⟩, fun h => absurd h (by decide), fun _ => pm_G_in 2128 _ rfl, fun _ => pm_G_in 9 _ rfl, fun h => absurd h (by decide)⟩
set_option maxRecDepth 100000 in
theorem dk_X1_settle : pm_dcl mX1_settle = true := by decide +kernel
set_option maxRecDepth 100000 in
theorem ck_X1_settle : pm_ckl mX1_settle [0, 1220, 1150, 0, 0, 0, 0, 1221, 1150, 0, 0, 0, 0, 0, 0, 0, 0, 1220, 1132, 0, 0, 0, 0, 0, 0, 0, 0, 0, 1221, 1132, 0, 0, 0, 0, 0, 1227, 0, 0, 2103, 0, 0, 0, 0, 0, 0, 0] = true := by decide +kernel
set_option maxRecDepth 100000 in
theorem mk_X1_settle : pm_mok pm_Ts mX1_settle := ⟨⟨pm_G_in 2102 _ rfl, pm_G_in 1007 _ rfl, by decide⟩, ⟨by decide, by decide, by decide +kernel⟩, fun h => absurd h (by decide), fun _ => pm_G_in 2101 _ rfl, fun _ => pm_G_in 3 _ rfl, fun h => absurd h (by decide)⟩
set_option maxRecDepth 100000 in
theorem dk_X1_cellOf : pm_dcl mX1_cellOf = true := by decide +kernel
set_option maxRecDepth 100000 in
theorem ck_X1_cellOf : pm_ckl mX1_cellOf [0, 0, 0, 0, 0, 0, 0, 0, 0, 0] = true := by decide +kernel
set_option maxRecDepth 100000 in
theorem mk_X1_cellOf : pm_mok pm_Ts mX1_cellOf := ⟨⟨pm_G_in 2105 _ rfl, pm_G_in 1007 _ rfl, by decide⟩, ⟨by decide, by decide, by decide +kernel⟩, fun _ => pm_G_in 2104 _ rfl, fun h => absurd rfl h, fun h => absurd h (by decide), fun h => absurd h (by decide)⟩
set_option maxRecDepth 100000 in
theorem dk_X1_countPlaced : pm_dcl mX1_countPlaced = true := by decide +kernel
set_option maxRecDepth 100000 in
theorem ck_X1_countPlaced : pm_ckl mX1_countPlaced [0, 0, 0, 0, 0, 0, 1222, 0, 0, 1220, 1150, 0, 0, 0, 0, 0, 0, 0, 0] = true := by decide +kernel
set_option maxRecDepth 100000 in
theorem mk_X1_countPlaced : pm_mok pm_Ts mX1_countPlaced := ⟨⟨pm_G_in 2142 _ rfl, pm_G_in 1007 _ rfl, by decide⟩, ⟨by decide, by decide, by decide +kernel⟩, fun h => absurd h (by decide), fun _ => pm_G_in 2141 _ rfl, fun _ => pm_G_in 11 _ rfl, fun h => absurd h (by decide)⟩
set_option maxRecDepth 100000 in
theorem dk_X2_init : pm_dcl mX2_init = true := by decide +kernel
set_option maxRecDepth 100000 in
theorem ck_X2_init : pm_ckl mX2_init [0, 1193, 0, 0, 1076, 1197, 0, 0, 1213, 1198, 0, 0, 1194, 0, 0, 1118, 1195, 0, 0, 1143, 1196, 0] = true := by decide +kernel
set_option maxRecDepth 100000 in
theorem mk_X2_init : pm_mok pm_Ts mX2_init := ⟨⟨pm_G_in 1192 _ rfl, pm_G_in 1006 _ rfl, by decide⟩, ⟨by decide, by decide, by decide +kernel⟩, fun h => absurd h (by decide), fun _ => pm_G_in 1191 _ rfl, fun h => absurd h (by decide), fun _ => ⟨rfl, rfl⟩⟩
set_option maxRecDepth 100000 in
theorem dk_X2_workOut : pm_dcl mX2_workOut = true := by decide +kernel
set_option maxRecDepth 100000 in
theorem ck_X2_workOut : pm_ckl mX2_workOut [0, 0, 1199, 0, 2147, 0, 2158, 0, 2173, 0, 2201, 0, 2209, 0, 2225, 0, 3013, 0, 3017, 0, 3025, 0] = true := by decide +kernel
set_option maxRecDepth 100000 in
theorem mk_X2_workOut : pm_mok pm_Ts mX2_workOut := ⟨⟨pm_G_in 2146 _ rfl, pm_G_in 1006 _ rfl, by decide⟩, ⟨by decide, by decide, by decide +kernel⟩, fun h => absurd h (by decide), fun _ => pm_G_in 2144 _ rfl, fun _ => pm_G_in 2145 _ rfl, fun h => absurd h (by decide)⟩
set_option maxRecDepth 100000 in
theorem dk_X2_beginSizes : pm_dcl mX2_beginSizes = true := by decide +kernel
set_option maxRecDepth 100000 in
theorem ck_X2_beginSizes : pm_ckl mX2_beginSizes [0, 0, 0, 0, 1194, 1141, 0, 0, 1196, 0, 0, 1195, 1054, 0, 0, 0, 0, 1197, 0, 0, 1195, 1056, 0, 0, 0, 0, 1195, 1058, 0, 0, 0, 0, 1196, 0, 0, 0, 0, 0, 0, 2151, 0] = true := by decide +kernel
set_option maxRecDepth 100000 in
theorem mk_X2_beginSizes : pm_mok pm_Ts mX2_beginSizes := ⟨⟨pm_G_in 2150 _ rfl, pm_G_in 1006 _ rfl, by decide⟩, ⟨by decide, by decide, by decide +kernel⟩, fun h => absurd h (by decide), fun _ => pm_G_in 2149 _ rfl, fun _ => pm_G_in 12 _ rfl, fun h => absurd h (by decide)⟩
set_option maxRecDepth 100000 in
theorem dk_X2_raiseLimits : pm_dcl mX2_raiseLimits = true := by decide +kernel
set_option maxRecDepth 100000 in
theorem ck_X2_raiseLimits : pm_ckl mX2_raiseLimits [0, 0, 0, 0, 1194, 1141, 0, 0, 1197, 0, 0, 1197, 0, 0, 0, 1196, 0, 0, 2, 0, 0, 0, 0] = true := by decide +kernel
set_option maxRecDepth 100000 in
theorem mk_X2_raiseLimits : pm_mok pm_Ts mX2_raiseLimits := ⟨⟨pm_G_in 2154 _ rfl, pm_G_in 1006 _ rfl, by decide⟩, ⟨by decide, by decide, by decide +kernel⟩, fun h => absurd h (by decide), fun _ => pm_G_in 2153 _ rfl, fun _ => pm_G_in 13 _ rfl, fun h => absurd h (by decide)⟩
set_option maxRecDepth 100000 in
theorem dk_X2_meetSingles : pm_dcl mX2_meetSingles = true := by decide +kernel
set_option maxRecDepth 100000 in
theorem ck_X2_meetSingles : pm_ckl mX2_meetSingles [0, 0, 0, 0, 1199, 0, 0, 1194, 1151, 0, 0, 0, 0, 1194, 1131, 0, 0, 0, 0, 0, 1194, 1151, 0, 0, 0, 0, 0, 0, 0, 0, 1194, 1134, 0, 0, 0, 1194, 1137, 0, 0, 2162, 0, 0, 0, 1194, 1134, 0, 0, 0, 1194, 1137, 0, 0, 2166, 0, 0, 0, 2151, 0] = true := by decide +kernel
set_option maxRecDepth 100000 in
theorem mk_X2_meetSingles : pm_mok pm_Ts mX2_meetSingles := ⟨⟨pm_G_in 2161 _ rfl, pm_G_in 1006 _ rfl, by decide⟩, ⟨by decide, by decide, by decide +kernel⟩, fun h => absurd h (by decide), fun _ => pm_G_in 2160 _ rfl, fun _ => pm_G_in 14 _ rfl, fun h => absurd h (by decide)⟩
set_option maxRecDepth 100000 in
theorem dk_X2_meetLow : pm_dcl mX2_meetLow = true := by decide +kernel
set_option maxRecDepth 100000 in
theorem ck_X2_meetLow : pm_ckl mX2_meetLow [0, 1195, 1052, 0, 0, 0, 0, 0, 1195, 1052, 0, 0, 0, 0, 0, 1196, 0, 0, 1196, 0, 0, 0, 2, 0, 0, 0, 1195, 1052, 0, 0, 0, 0, 0, 1196, 0, 0, 1196, 0, 0, 0, 2, 0, 0] = true := by decide +kernel
set_option maxRecDepth 100000 in
theorem mk_X2_meetLow : pm_mok pm_Ts mX2_meetLow := ⟨⟨pm_G_in 2165 _ rfl, pm_G_in 1006 _ rfl, by decide⟩, ⟨by decide, by decide, by decide +kernel⟩, fun h => absurd h (by decide), fun _ => pm_G_in 2164 _ rfl, fun _ => pm_G_in 15 _ rfl, fun h => absurd h (by decide)⟩
set_option maxRecDepth 100000 in
theorem dk_X2_meetHigh : pm_dcl mX2_meetHigh = true := by decide +kernel
set_option maxRecDepth 100000 in
theorem ck_X2_meetHigh : pm_ckl mX2_meetHigh [0, 1195, 1056, 0, 0, 0, 0, 0, 1197, 0, 0, 1197, 0, 0, 0, 2, 0, 0, 0, 1195, 1056, 0, 0, 0, 0, 0, 1195, 1056, 0, 0, 0, 0, 0, 1197, 0, 0, 1197, 0, 0, 0, 2, 0, 0, 0, 1195, 1056, 0, 0, 0, 0, 0, 1197, 0, 0, 1197, 0, 0, 0, 0, 1195, 1058, 0, 0, 3, 2, 0, 0] = true := by decide +kernel
set_option maxRecDepth 100000 in
theorem mk_X2_meetHigh : pm_mok pm_Ts mX2_meetHigh := ⟨⟨pm_G_in 2169 _ rfl, pm_G_in 1006 _ rfl, by decide⟩, ⟨by decide, by decide, by decide +kernel⟩, fun h => absurd h (by decide), fun _ => pm_G_in 2168 _ rfl, fun _ => pm_G_in 16 _ rfl, fun h => absurd h (by decide)⟩
set_option maxRecDepth 100000 in
theorem dk_X2_spreadLeast : pm_dcl mX2_spreadLeast = true := by decide +kernel
set_option maxRecDepth 100000 in
theorem ck_X2_spreadLeast : pm_ckl mX2_spreadLeast [0, 0, 0, 0, 0, 0, 0, 0, 0, 1199, 0, 0, 1194, 1151, 0, 0, 0, 0, 1194, 1131, 0, 0, 0, 0, 0, 0, 1194, 1134, 0, 0, 0, 1196, 0, 0, 0, 2177, 2189, 0, 0, 0, 0, 0, 2151, 0] = true := by decide +kernel
set_option maxRecDepth 100000 in
theorem mk_X2_spreadLeast : pm_mok pm_Ts mX2_spreadLeast := ⟨⟨pm_G_in 2176 _ rfl, pm_G_in 1006 _ rfl, by decide⟩, ⟨by decide, by decide, by decide +kernel⟩, fun h => absurd h (by decide), fun _ => pm_G_in 2175 _ rfl, fun _ => pm_G_in 17 _ rfl, fun h => absurd h (by decide)⟩
set_option maxRecDepth 100000 in
theorem dk_X2_chooseNeedy : pm_dcl mX2_chooseNeedy = true := by decide +kernel
set_option maxRecDepth 100000 in
theorem ck_X2_chooseNeedy : pm_ckl mX2_chooseNeedy [0, 0, 0, 0, 2181, 0, 0, 0, 0, 2185, 0, 0, 1198, 0, 0, 1195, 1052, 0, 0, 0, 0, 1195, 1056, 0, 0, 0, 0, 0, 0, 0, 0, 0, 0, 1198, 0, 0, 0, 0, 0, 0, 0, 0, 0, 0, 0, 0] = true := by decide +kernel
set_option maxRecDepth 100000 in
theorem mk_X2_chooseNeedy : pm_mok pm_Ts mX2_chooseNeedy := ⟨⟨pm_G_in 2180 _ rfl, pm_G_in 1006 _ rfl, by decide⟩, ⟨by decide, by decide, by decide +kernel⟩, fun h => absurd h (by decide), fun _ => pm_G_in 2179 _ rfl, fun _ => pm_G_in 18 _ rfl, fun h => absurd h (by decide)⟩
set_option maxRecDepth 100000 in
theorem dk_X2_spreadMost : pm_dcl mX2_spreadMost = true := by decide +kernel
set_option maxRecDepth 100000 in
theorem ck_X2_spreadMost : pm_ckl mX2_spreadMost [0, 0, 0, 0, 0, 0, 0, 0, 0, 1199, 0, 0, 1194, 1151, 0, 0, 0, 0, 1194, 1131, 0, 0, 0, 0, 0, 0, 1194, 1137, 0, 0, 0, 1197, 0, 0, 0, 2205, 2189, 0, 0, 0, 0, 0] = true := by decide +kernel
set_option maxRecDepth 100000 in
theorem mk_X2_spreadMost : pm_mok pm_Ts mX2_spreadMost := ⟨⟨pm_G_in 2204 _ rfl, pm_G_in 1006 _ rfl, by decide⟩, ⟨by decide, by decide, by decide +kernel⟩, fun h => absurd h (by decide), fun _ => pm_G_in 2203 _ rfl, fun _ => pm_G_in 24 _ rfl, fun h => absurd h (by decide)⟩
set_option maxRecDepth 100000 in
theorem dk_X2_chooseWide : pm_dcl mX2_chooseWide = true := by decide +kernel
set_option maxRecDepth 100000 in
theorem ck_X2_chooseWide : pm_ckl mX2_chooseWide [0, 0, 0, 0, 2181, 0, 0, 0, 0, 2185, 0, 0, 1195, 1056, 0, 0, 0, 0, 1198, 0, 0, 0, 0, 0, 0, 0, 0, 0, 0, 0, 0, 0, 0, 0, 0, 1198, 0, 0, 0, 0, 0, 0, 0, 0, 0, 0, 0, 0] = true := by decide +kernel
set_option maxRecDepth 100000 in
theorem mk_X2_chooseWide : pm_mok pm_Ts mX2_chooseWide := ⟨⟨pm_G_in 2208 _ rfl, pm_G_in 1006 _ rfl, by decide⟩, ⟨by decide, by decide, by decide +kernel⟩, fun h => absurd h (by decide), fun _ => pm_G_in 2207 _ rfl, fun _ => pm_G_in 25 _ rfl, fun h => absurd h (by decide)⟩
