/-! ===== THE PROGRAM IS WHAT THE TABLES SAY (written by wip/whole/gen_tab.py) ===== -/
set_option maxRecDepth 100000 in
theorem dk_X2_spread : pm_dcl mX2_spread = true := by decide +kernel
set_option maxRecDepth 100000 in
theorem ck_X2_spread : pm_ckl mX2_spread [0, 0, 0, 0, 0, 0, 0, 0, 2193, 0, 1194, 1131, 0, 0, 2197, 0, 0, 0, 0, 0, 0, 0, 0, 0, 0, 0, 0, 2181, 0, 0, 0, 0, 2185, 0, 0, 1198, 0, 0, 0, 0, 0, 0, 0, 0, 0, 0, 0, 0, 0, 0] = true := by decide +kernel
set_option maxRecDepth 100000 in
theorem mk_X2_spread : pm_mok pm_Ts mX2_spread := ⟨⟨pm_G_in 2192 _ rfl, pm_G_in 1006 _ rfl, by decide⟩, ⟨by decide, by decide, by decide +kernel⟩, fun h => absurd h (by decide), fun _ => pm_G_in 2191 _ rfl, fun _ => pm_G_in 21 _ rfl, fun h => absurd h (by decide)⟩
set_option maxRecDepth 100000 in
theorem dk_X2_lessSizes : pm_dcl mX2_lessSizes = true := by decide +kernel
set_option maxRecDepth 100000 in
theorem ck_X2_lessSizes : pm_ckl mX2_lessSizes [0, 0, 0, 0, 2181, 0, 0, 0, 0, 2185, 0, 0, 0, 0, 0, 0, 0, 0, 0, 0, 0] = true := by decide +kernel
set_option maxRecDepth 100000 in
theorem mk_X2_lessSizes : pm_mok pm_Ts mX2_lessSizes := ⟨⟨pm_G_in 2196 _ rfl, pm_G_in 1006 _ rfl, by decide⟩, ⟨by decide, by decide, by decide +kernel⟩, fun h => absurd h (by decide), fun _ => pm_G_in 2195 _ rfl, fun _ => pm_G_in 22 _ rfl, fun h => absurd h (by decide)⟩
set_option maxRecDepth 100000 in
theorem dk_X2_lessGaps : pm_dcl mX2_lessGaps = true := by decide +kernel
set_option maxRecDepth 100000 in
theorem ck_X2_lessGaps : pm_ckl mX2_lessGaps [0, 0, 0, 0, 0, 0, 0, 0, 0, 1194, 1124, 0, 0, 0, 0, 0, 0] = true := by decide +kernel
set_option maxRecDepth 100000 in
theorem mk_X2_lessGaps : pm_mok pm_Ts mX2_lessGaps := ⟨⟨pm_G_in 2200 _ rfl, pm_G_in 1006 _ rfl, by decide⟩, ⟨by decide, by decide, by decide +kernel⟩, fun h => absurd h (by decide), fun _ => pm_G_in 2199 _ rfl, fun _ => pm_G_in 23 _ rfl, fun h => absurd h (by decide)⟩
set_option maxRecDepth 100000 in
theorem dk_X2_restOfSpace : pm_dcl mX2_restOfSpace = true := by decide +kernel
set_option maxRecDepth 100000 in
theorem ck_X2_restOfSpace : pm_ckl mX2_restOfSpace [0, 1194, 1122, 0, 0, 0, 0, 0, 1194, 1141, 0, 0, 0, 1196, 0, 0, 0, 0, 0, 0, 0, 0, 0, 1194, 1141, 2197, 0] = true := by decide +kernel
set_option maxRecDepth 100000 in
theorem mk_X2_restOfSpace : pm_mok pm_Ts mX2_restOfSpace := ⟨⟨pm_G_in 2216 _ rfl, pm_G_in 1006 _ rfl, by decide⟩, ⟨by decide, by decide, by decide +kernel⟩, fun h => absurd h (by decide), fun _ => pm_G_in 2215 _ rfl, fun _ => pm_G_in 27 _ rfl, fun h => absurd h (by decide)⟩
set_option maxRecDepth 100000 in
theorem dk_X2_growToLimits : pm_dcl mX2_growToLimits = true := by decide +kernel
set_option maxRecDepth 100000 in
theorem ck_X2_growToLimits : pm_ckl mX2_growToLimits [0, 2213, 0, 0, 0, 0, 0, 0, 0, 0, 0, 0, 0, 2217, 0, 0, 0, 0, 0, 0, 0, 0, 0, 0, 2221, 0, 0, 0, 0] = true := by decide +kernel
set_option maxRecDepth 100000 in
theorem mk_X2_growToLimits : pm_mok pm_Ts mX2_growToLimits := ⟨⟨pm_G_in 2212 _ rfl, pm_G_in 1006 _ rfl, by decide⟩, ⟨by decide, by decide, by decide +kernel⟩, fun h => absurd h (by decide), fun _ => pm_G_in 2211 _ rfl, fun _ => pm_G_in 26 _ rfl, fun h => absurd h (by decide)⟩
set_option maxRecDepth 100000 in
theorem dk_X2_countGrowing : pm_dcl mX2_countGrowing = true := by decide +kernel
set_option maxRecDepth 100000 in
theorem ck_X2_countGrowing : pm_ckl mX2_countGrowing [0, 0, 0, 0, 0, 0, 1194, 1141, 0, 0, 1196, 0, 0, 0, 1197, 0, 0, 0, 0, 0, 0, 0, 0, 0] = true := by decide +kernel
set_option maxRecDepth 100000 in
theorem mk_X2_countGrowing : pm_mok pm_Ts mX2_countGrowing := ⟨⟨pm_G_in 2220 _ rfl, pm_G_in 1006 _ rfl, by decide⟩, ⟨by decide, by decide, by decide +kernel⟩, fun h => absurd h (by decide), fun _ => pm_G_in 2219 _ rfl, fun _ => pm_G_in 28 _ rfl, fun h => absurd h (by decide)⟩
set_option maxRecDepth 100000 in
theorem dk_X2_growOnce : pm_dcl mX2_growOnce = true := by decide +kernel
set_option maxRecDepth 100000 in
theorem ck_X2_growOnce : pm_ckl mX2_growOnce [0, 0, 0, 0, 0, 0, 1194, 1141, 0, 0, 1196, 0, 0, 0, 1197, 0, 0, 0, 0, 0, 1197, 0, 0, 0, 1196, 0, 0, 0, 0, 3, 0, 0, 1196, 0, 0, 0, 1197, 0, 0, 0, 1196, 0, 0, 0, 0, 0, 0, 1196, 0, 0, 0, 0, 0, 0, 1197, 0, 0, 0, 0, 0, 0, 0, 0, 0, 0, 0] = true := by decide +kernel
set_option maxRecDepth 100000 in
theorem mk_X2_growOnce : pm_mok pm_Ts mX2_growOnce := ⟨⟨pm_G_in 2224 _ rfl, pm_G_in 1006 _ rfl, by decide⟩, ⟨by decide, by decide, by decide +kernel⟩, fun h => absurd h (by decide), fun _ => pm_G_in 2223 _ rfl, fun _ => pm_G_in 29 _ rfl, fun h => absurd h (by decide)⟩
set_option maxRecDepth 100000 in
theorem dk_X2_giveShares : pm_dcl mX2_giveShares = true := by decide +kernel
set_option maxRecDepth 100000 in
theorem ck_X2_giveShares : pm_ckl mX2_giveShares [0, 0, 0, 0, 1194, 1141, 0, 0, 1198, 0, 0, 1195, 1056, 0, 0, 0, 0, 0, 0, 0, 0, 0, 0, 0, 2229, 0, 0, 0, 0, 0, 0, 0, 0, 0, 2233, 2237, 0, 0, 0, 0, 2233, 0, 3005, 0, 0, 0, 0, 0, 0, 2233, 3009, 0] = true := by decide +kernel
set_option maxRecDepth 100000 in
theorem mk_X2_giveShares : pm_mok pm_Ts mX2_giveShares := ⟨⟨pm_G_in 2228 _ rfl, pm_G_in 1006 _ rfl, by decide⟩, ⟨by decide, by decide, by decide +kernel⟩, fun h => absurd h (by decide), fun _ => pm_G_in 2227 _ rfl, fun _ => pm_G_in 30 _ rfl, fun h => absurd h (by decide)⟩
set_option maxRecDepth 100000 in
theorem dk_X2_hasTooGreat : pm_dcl mX2_hasTooGreat = true := by decide +kernel
set_option maxRecDepth 100000 in
theorem ck_X2_hasTooGreat : pm_ckl mX2_hasTooGreat [0, 0, 0, 0, 1194, 1141, 0, 0, 0, 0, 3001, 0, 0, 0, 0, 0, 0, 0] = true := by decide +kernel
set_option maxRecDepth 100000 in
theorem mk_X2_hasTooGreat : pm_mok pm_Ts mX2_hasTooGreat := ⟨⟨pm_G_in 3000 _ rfl, pm_G_in 1006 _ rfl, by decide⟩, ⟨by decide, by decide, by decide +kernel⟩, fun h => absurd h (by decide), fun _ => pm_G_in 2239 _ rfl, fun _ => pm_G_in 33 _ rfl, fun h => absurd h (by decide)⟩
set_option maxRecDepth 100000 in
theorem dk_X2_isTooGreat : pm_dcl mX2_isTooGreat = true := by decide +kernel
set_option maxRecDepth 100000 in
theorem ck_X2_isTooGreat : pm_ckl mX2_isTooGreat [0, 1198, 0, 0, 0, 0, 1196, 0, 0, 0, 1195, 1058, 0, 0, 0, 0, 0, 0, 0, 0, 0, 0] = true := by decide +kernel
set_option maxRecDepth 100000 in
theorem mk_X2_isTooGreat : pm_mok pm_Ts mX2_isTooGreat := ⟨⟨pm_G_in 3004 _ rfl, pm_G_in 1006 _ rfl, by decide⟩, ⟨by decide, by decide, by decide +kernel⟩, fun h => absurd h (by decide), fun _ => pm_G_in 3003 _ rfl, fun _ => pm_G_in 34 _ rfl, fun h => absurd h (by decide)⟩
set_option maxRecDepth 100000 in
theorem dk_X2_setAside : pm_dcl mX2_setAside = true := by decide +kernel
set_option maxRecDepth 100000 in
theorem ck_X2_setAside : pm_ckl mX2_setAside [0, 0, 0, 0, 0, 0, 1194, 1141, 0, 0, 0, 0, 3001, 0, 0, 1198, 0, 0, 0, 0, 0, 1196, 0, 0, 0, 0, 0, 0, 0, 0] = true := by decide +kernel
set_option maxRecDepth 100000 in
theorem mk_X2_setAside : pm_mok pm_Ts mX2_setAside := ⟨⟨pm_G_in 3008 _ rfl, pm_G_in 1006 _ rfl, by decide⟩, ⟨by decide, by decide, by decide +kernel⟩, fun h => absurd h (by decide), fun _ => pm_G_in 3007 _ rfl, fun _ => pm_G_in 35 _ rfl, fun h => absurd h (by decide)⟩
set_option maxRecDepth 100000 in
theorem dk_X2_setShares : pm_dcl mX2_setShares = true := by decide +kernel
set_option maxRecDepth 100000 in
theorem ck_X2_setShares : pm_ckl mX2_setShares [0, 0, 0, 0, 1194, 1141, 0, 0, 1198, 0, 0, 0, 0, 1196, 0, 0, 1195, 1058, 0, 0, 0, 0, 0, 0, 0, 0] = true := by decide +kernel
set_option maxRecDepth 100000 in
theorem mk_X2_setShares : pm_mok pm_Ts mX2_setShares := ⟨⟨pm_G_in 3012 _ rfl, pm_G_in 1006 _ rfl, by decide⟩, ⟨by decide, by decide, by decide +kernel⟩, fun h => absurd h (by decide), fun _ => pm_G_in 3011 _ rfl, fun _ => pm_G_in 36 _ rfl, fun h => absurd h (by decide)⟩
set_option maxRecDepth 100000 in
theorem dk_X2_spaceForShares : pm_dcl mX2_spaceForShares = true := by decide +kernel
set_option maxRecDepth 100000 in
theorem ck_X2_spaceForShares : pm_ckl mX2_spaceForShares [0, 0, 1194, 1122, 0, 1194, 1141, 2197, 0, 0, 0, 0, 0, 1194, 1141, 0, 0, 1195, 1056, 0, 0, 0, 0, 0, 0, 1196, 0, 0, 0, 0, 0, 0, 0, 0] = true := by decide +kernel
set_option maxRecDepth 100000 in
theorem mk_X2_spaceForShares : pm_mok pm_Ts mX2_spaceForShares := ⟨⟨pm_G_in 2232 _ rfl, pm_G_in 1006 _ rfl, by decide⟩, ⟨by decide, by decide, by decide +kernel⟩, fun h => absurd h (by decide), fun _ => pm_G_in 2231 _ rfl, fun _ => pm_G_in 31 _ rfl, fun h => absurd h (by decide)⟩
set_option maxRecDepth 100000 in
theorem dk_X2_oneShare : pm_dcl mX2_oneShare = true := by decide +kernel
set_option maxRecDepth 100000 in
theorem ck_X2_oneShare : pm_ckl mX2_oneShare [0, 0, 0, 0, 0, 0, 1194, 1141, 0, 0, 1198, 0, 0, 0, 0, 0, 1195, 1058, 0, 0, 0, 0, 0, 0, 0, 0, 0, 0, 0, 0, 0, 2, 0, 0, 0, 0] = true := by decide +kernel
set_option maxRecDepth 100000 in
theorem mk_X2_oneShare : pm_mok pm_Ts mX2_oneShare := ⟨⟨pm_G_in 2236 _ rfl, pm_G_in 1006 _ rfl, by decide⟩, ⟨by decide, by decide, by decide +kernel⟩, fun h => absurd h (by decide), fun _ => pm_G_in 2235 _ rfl, fun _ => pm_G_in 32 _ rfl, fun h => absurd h (by decide)⟩
set_option maxRecDepth 100000 in
theorem dk_X2_stretch : pm_dcl mX2_stretch = true := by decide +kernel
set_option maxRecDepth 100000 in
theorem ck_X2_stretch : pm_ckl mX2_stretch [0, 1194, 0, 2213, 1157, 0, 0, 0, 0, 0, 0, 1194, 1141, 0, 0, 0, 1195, 1056, 0, 0, 0, 0, 0, 0, 0, 0, 0, 0, 0, 0, 1194, 1127, 0, 0, 0, 0, 0, 1194, 1157, 0, 0, 0, 0, 0, 1194, 1157, 0, 0, 0, 0, 0, 0, 0, 0, 1194, 1141, 0, 0, 1195, 1056, 0, 0, 0, 0, 0, 1196, 0, 0, 1196, 0, 0, 0, 0, 0, 0, 0, 0, 1194, 0, 2213, 1157, 0] = true := by decide +kernel
set_option maxRecDepth 100000 in
theorem mk_X2_stretch : pm_mok pm_Ts mX2_stretch := ⟨⟨pm_G_in 3016 _ rfl, pm_G_in 1006 _ rfl, by decide⟩, ⟨by decide, by decide, by decide +kernel⟩, fun h => absurd h (by decide), fun _ => pm_G_in 3015 _ rfl, fun _ => pm_G_in 37 _ rfl, fun h => absurd h (by decide)⟩
set_option maxRecDepth 100000 in
theorem dk_X2_findPositions : pm_dcl mX2_findPositions = true := by decide +kernel
set_option maxRecDepth 100000 in
theorem ck_X2_findPositions : pm_ckl mX2_findPositions [0, 3021, 0, 0, 0, 0, 0, 1194, 1141, 0, 0, 1194, 1148, 0, 0, 0, 0, 0, 1196, 0, 0, 0, 0, 1194, 1124, 0, 0, 0, 0, 0] = true := by decide +kernel
set_option maxRecDepth 100000 in
theorem mk_X2_findPositions : pm_mok pm_Ts mX2_findPositions := ⟨⟨pm_G_in 3020 _ rfl, pm_G_in 1006 _ rfl, by decide⟩, ⟨by decide, by decide, by decide +kernel⟩, fun h => absurd h (by decide), fun _ => pm_G_in 3019 _ rfl, fun _ => pm_G_in 38 _ rfl, fun h => absurd h (by decide)⟩
set_option maxRecDepth 100000 in
theorem dk_X2_firstPosition : pm_dcl mX2_firstPosition = true := by decide +kernel
set_option maxRecDepth 100000 in
theorem ck_X2_firstPosition : pm_ckl mX2_firstPosition [0, 1194, 1157, 0, 0, 0, 0, 0, 0, 1194, 1127, 0, 0, 0, 1194, 1157, 0, 0, 0, 0, 1194, 1127, 0, 0, 0, 1194, 1157, 0, 0, 0] = true := by decide +kernel
set_option maxRecDepth 100000 in
theorem mk_X2_firstPosition : pm_mok pm_Ts mX2_firstPosition := ⟨⟨pm_G_in 3024 _ rfl, pm_G_in 1006 _ rfl, by decide⟩, ⟨by decide, by decide, by decide +kernel⟩, fun h => absurd h (by decide), fun _ => pm_G_in 3023 _ rfl, fun _ => pm_G_in 39 _ rfl, fun h => absurd h (by decide)⟩
set_option maxRecDepth 100000 in
theorem dk_X2_findExtents : pm_dcl mX2_findExtents = true := by decide +kernel
set_option maxRecDepth 100000 in
theorem ck_X2_findExtents : pm_ckl mX2_findExtents [0, 0, 0, 0, 1199, 0, 0, 1194, 1151, 0, 0, 0, 0, 1194, 1155, 0, 0, 0, 3029, 0, 0, 0, 0] = true := by decide +kernel
set_option maxRecDepth 100000 in
theorem mk_X2_findExtents : pm_mok pm_Ts mX2_findExtents := ⟨⟨pm_G_in 3028 _ rfl, pm_G_in 1006 _ rfl, by decide⟩, ⟨by decide, by decide, by decide +kernel⟩, fun h => absurd h (by decide), fun _ => pm_G_in 3027 _ rfl, fun _ => pm_G_in 40 _ rfl, fun h => absurd h (by decide)⟩
set_option maxRecDepth 100000 in
theorem dk_X2_extentOf : pm_dcl mX2_extentOf = true := by decide +kernel
set_option maxRecDepth 100000 in
theorem ck_X2_extentOf : pm_ckl mX2_extentOf [0, 0, 0, 0, 2181, 0, 0, 0, 0, 2185, 0, 0, 0, 1196, 0, 0, 0, 0, 0, 0, 0, 0, 0, 0, 1194, 1131, 0, 0, 0, 0, 0, 1194, 1124, 0, 0, 0, 0, 0, 0] = true := by decide +kernel
set_option maxRecDepth 100000 in
theorem mk_X2_extentOf : pm_mok pm_Ts mX2_extentOf := ⟨⟨pm_G_in 3032 _ rfl, pm_G_in 1006 _ rfl, by decide⟩, ⟨by decide, by decide, by decide +kernel⟩, fun h => absurd h (by decide), fun _ => pm_G_in 3031 _ rfl, fun _ => pm_G_in 41 _ rfl, fun h => absurd h (by decide)⟩
set_option maxRecDepth 100000 in
theorem dk_X2_firstOf : pm_dcl mX2_firstOf = true := by decide +kernel
set_option maxRecDepth 100000 in
theorem ck_X2_firstOf : pm_ckl mX2_firstOf [0, 1194, 1151, 0, 0, 0, 0, 0] = true := by decide +kernel
set_option maxRecDepth 100000 in
theorem mk_X2_firstOf : pm_mok pm_Ts mX2_firstOf := ⟨⟨pm_G_in 2184 _ rfl, pm_G_in 1006 _ rfl, by decide⟩, ⟨by decide, by decide, by decide +kernel⟩, fun h => absurd h (by decide), fun _ => pm_G_in 2183 _ rfl, fun _ => pm_G_in 19 _ rfl, fun h => absurd h (by decide)⟩
set_option maxRecDepth 100000 in
theorem dk_X2_endOf : pm_dcl mX2_endOf = true := by decide +kernel
set_option maxRecDepth 100000 in
theorem ck_X2_endOf : pm_ckl mX2_endOf [0, 1194, 1151, 0, 0, 0, 0, 0, 1194, 1131, 0, 0, 0, 0] = true := by decide +kernel
set_option maxRecDepth 100000 in
theorem mk_X2_endOf : pm_mok pm_Ts mX2_endOf := ⟨⟨pm_G_in 2188 _ rfl, pm_G_in 1006 _ rfl, by decide⟩, ⟨by decide, by decide, by decide +kernel⟩, fun h => absurd h (by decide), fun _ => pm_G_in 2187 _ rfl, fun _ => pm_G_in 20 _ rfl, fun h => absurd h (by decide)⟩
set_option maxRecDepth 100000 in
theorem dk_X3_init : pm_dcl mX3_init = true := by decide +kernel
set_option maxRecDepth 100000 in
theorem ck_X3_init : pm_ckl mX3_init [0, 1040, 0, 0, 1075, 1051, 0, 0, 1076, 1053, 0, 0, 1075, 1055, 0, 0, 1076, 1057, 0, 1041, 0] = true := by decide +kernel
set_option maxRecDepth 100000 in
theorem mk_X3_init : pm_mok pm_Ts mX3_init := ⟨⟨pm_G_in 1039 _ rfl, pm_G_in 1003 _ rfl, by decide⟩, ⟨by decide, by decide, by decide +kernel⟩, fun h => absurd h (by decide), fun _ => pm_G_in 1038 _ rfl, fun h => absurd h (by decide), fun _ => ⟨rfl, rfl⟩⟩
set_option maxRecDepth 100000 in
theorem dk_X3_clear : pm_dcl mX3_clear = true := by decide +kernel
set_option maxRecDepth 100000 in
theorem ck_X3_clear : pm_ckl mX3_clear [0, 0, 1059, 0, 1051, 0, 1045, 0, 1053, 0, 1048, 0, 1055, 0, 1045, 0, 1057, 0, 1048, 0] = true := by decide +kernel
set_option maxRecDepth 100000 in
theorem mk_X3_clear : pm_mok pm_Ts mX3_clear := ⟨⟨pm_G_in 1044 _ rfl, pm_G_in 1003 _ rfl, by decide⟩, ⟨by decide, by decide, by decide +kernel⟩, fun h => absurd h (by decide), fun _ => pm_G_in 1042 _ rfl, fun _ => pm_G_in 1043 _ rfl, fun h => absurd h (by decide)⟩
set_option maxRecDepth 100000 in
theorem dk_X3_copyFrom : pm_dcl mX3_copyFrom = true := by decide +kernel
set_option maxRecDepth 100000 in
theorem ck_X3_copyFrom : pm_ckl mX3_copyFrom [0, 0, 1059, 1059, 0, 1051, 0, 0, 1051, 0, 0, 4022, 0, 1053, 0, 0, 1053, 0, 0, 4022, 0, 1055, 0, 0, 1055, 0, 0, 4022, 0, 1057, 0, 0, 1057, 0, 0, 4022, 0] = true := by decide +kernel
set_option maxRecDepth 100000 in
theorem mk_X3_copyFrom : pm_mok pm_Ts mX3_copyFrom := ⟨⟨pm_G_in 4021 _ rfl, pm_G_in 1003 _ rfl, by decide⟩, ⟨by decide, by decide, by decide +kernel⟩, fun h => absurd h (by decide), fun _ => pm_G_in 4019 _ rfl, fun _ => pm_G_in 4020 _ rfl, fun h => absurd h (by decide)⟩
set_option maxRecDepth 100000 in
theorem dk_X3_add : pm_dcl mX3_add = true := by decide +kernel
set_option maxRecDepth 100000 in
theorem ck_X3_add : pm_ckl mX3_add [0, 1059, 0, 0, 0, 1051, 0, 1059, 0, 0, 0, 1053, 0, 1059, 0, 0, 0, 1055, 0, 1059, 0, 0, 0, 1057, 0, 1059, 0, 0, 0, 0, 1059, 0, 0, 1059, 0] = true := by decide +kernel
set_option maxRecDepth 100000 in
theorem mk_X3_add : pm_mok pm_Ts mX3_add := ⟨⟨pm_G_in 3226 _ rfl, pm_G_in 1003 _ rfl, by decide⟩, ⟨by decide, by decide, by decide +kernel⟩, fun h => absurd h (by decide), fun _ => pm_G_in 3224 _ rfl, fun _ => pm_G_in 3225 _ rfl, fun h => absurd h (by decide)⟩
set_option maxRecDepth 100000 in
theorem dk_X3_repeatFrom : pm_dcl mX3_repeatFrom = true := by decide +kernel
set_option maxRecDepth 100000 in
theorem ck_X3_repeatFrom : pm_ckl mX3_repeatFrom [0, 1059, 0, 0, 0, 0, 0, 0, 0, 0, 0, 0, 0, 0, 1059, 0, 0, 0, 0, 0, 1051, 0, 0, 0, 1053, 0, 0, 0, 1055, 0, 0, 0, 1057, 0, 0, 4008, 0, 0, 0] = true := by decide +kernel
set_option maxRecDepth 100000 in
theorem mk_X3_repeatFrom : pm_mok pm_Ts mX3_repeatFrom := ⟨⟨pm_G_in 4007 _ rfl, pm_G_in 1003 _ rfl, by decide⟩, ⟨by decide, by decide, by decide +kernel⟩, fun h => absurd h (by decide), fun _ => pm_G_in 4005 _ rfl, fun _ => pm_G_in 4006 _ rfl, fun h => absurd h (by decide)⟩
set_option maxRecDepth 100000 in
theorem dk_X4_init : pm_dcl mX4_init = true := by decide +kernel
set_option maxRecDepth 100000 in
theorem ck_X4_init : pm_ckl mX4_init [0, 1034, 0, 1035, 0, 1037, 1077, 0, 0, 1107, 1081, 0] = true := by decide +kernel
set_option maxRecDepth 100000 in
theorem mk_X4_init : pm_mok pm_Ts mX4_init := ⟨⟨pm_G_in 1033 _ rfl, pm_G_in 1002 _ rfl, by decide⟩, ⟨by decide, by decide, by decide +kernel⟩, fun h => absurd h (by decide), fun _ => pm_G_in 1032 _ rfl, fun h => absurd h (by decide), fun _ => ⟨rfl, rfl⟩⟩
set_option maxRecDepth 100000 in
theorem dk_X4_append : pm_dcl mX4_append = true := by decide +kernel
set_option maxRecDepth 100000 in
theorem ck_X4_append : pm_ckl mX4_append [0, 1082, 0, 0, 0, 0, 0, 0, 0, 0, 0, 0, 0, 1081, 0, 1082, 0, 0, 0, 0, 1082, 0, 0, 1082, 0, 0] = true := by decide +kernel
set_option maxRecDepth 100000 in
theorem mk_X4_append : pm_mok pm_Ts mX4_append := ⟨⟨pm_G_in 2040 _ rfl, pm_G_in 1002 _ rfl, by decide⟩, ⟨by decide, by decide, by decide +kernel⟩, fun h => absurd h (by decide), fun _ => pm_G_in 2038 _ rfl, fun _ => pm_G_in 2039 _ rfl, fun h => absurd h (by decide)⟩
set_option maxRecDepth 100000 in
theorem dk_X4_forgetText : pm_dcl mX4_forgetText = true := by decide +kernel
set_option maxRecDepth 100000 in
theorem ck_X4_forgetText : pm_ckl mX4_forgetText [0, 0, 1082, 0] = true := by decide +kernel
set_option maxRecDepth 100000 in
theorem mk_X4_forgetText : pm_mok pm_Ts mX4_forgetText := ⟨⟨pm_G_in 4016 _ rfl, pm_G_in 1002 _ rfl, by decide⟩, ⟨by decide, by decide, by decide +kernel⟩, fun h => absurd h (by decide), fun _ => pm_G_in 4014 _ rfl, fun _ => pm_G_in 4015 _ rfl, fun h => absurd h (by decide)⟩
set_option maxRecDepth 100000 in
theorem dk_X4_readText : pm_dcl mX4_readText = true := by decide +kernel
set_option maxRecDepth 100000 in
theorem ck_X4_readText : pm_ckl mX4_readText [0, 1077, 3133, 0, 0, 1080, 0, 3134, 0, 1082, 0, 0, 0, 0, 0, 0, 0, 0, 0, 1085, 0, 0, 3138, 0, 0, 0, 3142, 0, 0, 0, 0, 3203, 0, 0, 0, 0, 1085, 0, 0, 0, 3199, 0, 0, 1077, 0, 1086, 0, 1087, 4004, 0, 3134, 0, 1080, 0, 1082, 0, 0, 1085, 0, 0, 0, 0, 0, 0, 4009, 0, 0, 0, 3199, 0, 0, 0, 0, 0, 0, 0] = true := by decide +kernel
set_option maxRecDepth 100000 in
theorem mk_X4_readText : pm_mok pm_Ts mX4_readText := ⟨⟨pm_G_in 3132 _ rfl, pm_G_in 1002 _ rfl, by decide⟩, ⟨by decide, by decide, by decide +kernel⟩, fun h => absurd h (by decide), fun _ => pm_G_in 3130 _ rfl, fun _ => pm_G_in 3131 _ rfl, fun h => absurd h (by decide)⟩
