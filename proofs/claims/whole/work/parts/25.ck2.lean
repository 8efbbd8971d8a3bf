/-! ===== THE PROGRAM IS WHAT THE TABLES SAY (written by wip/whole/gen_tab.py) ===== -/
set_option maxRecDepth 100000 in
theorem dk_X4_enterRepeat : pm_dcl mX4_enterRepeat = true := by decide +kernel
set_option maxRecDepth 100000 in
theorem ck_X4_enterRepeat : pm_ckl mX4_enterRepeat [0, 6, 3147, 0, 0, 0, 0, 3138, 0, 0, 0, 0, 0, 0, 0, 0, 0, 0, 1077, 1063, 0, 0, 0, 0, 0, 0, 0, 0, 1080, 0, 0, 1080, 0, 0, 1085, 0, 0, 1077, 1063, 1086, 0, 0, 1087, 0, 0, 3199, 0] = true := by decide +kernel
set_option maxRecDepth 100000 in
theorem mk_X4_enterRepeat : pm_mok pm_Ts mX4_enterRepeat := ⟨⟨pm_G_in 3145 _ rfl, pm_G_in 1002 _ rfl, by decide⟩, ⟨by decide, by decide, by decide +kernel⟩, fun h => absurd h (by decide), fun _ => pm_G_in 3144 _ rfl, fun _ => pm_G_in 45 _ rfl, fun h => absurd h (by decide)⟩
set_option maxRecDepth 100000 in
theorem dk_X4_leaveRepeat : pm_dcl mX4_leaveRepeat = true := by decide +kernel
set_option maxRecDepth 100000 in
theorem ck_X4_leaveRepeat : pm_ckl mX4_leaveRepeat [0, 0, 1085, 0, 0, 1086, 0, 0, 1087, 0] = true := by decide +kernel
set_option maxRecDepth 100000 in
theorem mk_X4_leaveRepeat : pm_mok pm_Ts mX4_leaveRepeat := ⟨⟨pm_G_in 3137 _ rfl, pm_G_in 1002 _ rfl, by decide⟩, ⟨by decide, by decide, by decide +kernel⟩, fun h => absurd h (by decide), fun _ => pm_G_in 3136 _ rfl, fun _ => pm_G_in 43 _ rfl, fun h => absurd h (by decide)⟩
set_option maxRecDepth 100000 in
theorem dk_X4_mayHaveOneMore : pm_dcl mX4_mayHaveOneMore = true := by decide +kernel
set_option maxRecDepth 100000 in
theorem ck_X4_mayHaveOneMore : pm_ckl mX4_mayHaveOneMore [0, 1077, 1063, 0, 1086, 0, 0, 0, 0, 0, 1086, 0, 1087, 0, 0, 0, 0, 0, 0, 0, 0, 0] = true := by decide +kernel
set_option maxRecDepth 100000 in
theorem mk_X4_mayHaveOneMore : pm_mok pm_Ts mX4_mayHaveOneMore := ⟨⟨pm_G_in 4012 _ rfl, pm_G_in 1002 _ rfl, by decide⟩, ⟨by decide, by decide, by decide +kernel⟩, fun h => absurd h (by decide), fun _ => pm_G_in 4011 _ rfl, fun _ => pm_G_in 55 _ rfl, fun h => absurd h (by decide)⟩
set_option maxRecDepth 100000 in
theorem dk_X4_readTrack : pm_dcl mX4_readTrack = true := by decide +kernel
set_option maxRecDepth 100000 in
theorem ck_X4_readTrack : pm_ckl mX4_readTrack [0, 3138, 0, 0, 0, 3207, 0, 0, 3227, 0, 0, 0, 0, 1083, 0, 0, 0, 3138, 0, 0, 0, 3234, 0, 0, 3239, 0, 0, 0, 0, 1083, 0, 0, 0, 1077, 0, 0, 0, 0, 1084, 3223, 0, 0, 1077, 0, 1083, 0, 1084, 0, 1083, 0, 1084, 3223, 0, 0] = true := by decide +kernel
set_option maxRecDepth 100000 in
theorem mk_X4_readTrack : pm_mok pm_Ts mX4_readTrack := ⟨⟨pm_G_in 3206 _ rfl, pm_G_in 1002 _ rfl, by decide⟩, ⟨by decide, by decide, by decide +kernel⟩, fun h => absurd h (by decide), fun _ => pm_G_in 3205 _ rfl, fun _ => pm_G_in 48 _ rfl, fun h => absurd h (by decide)⟩
set_option maxRecDepth 100000 in
theorem dk_X4_readFit : pm_dcl mX4_readFit = true := by decide +kernel
set_option maxRecDepth 100000 in
theorem ck_X4_readFit : pm_ckl mX4_readFit [0, 7, 3147, 0, 0, 3212, 0, 0, 0, 3199, 0, 0, 0, 0, 1077, 0, 0, 0, 0, 1084, 3223, 0, 0] = true := by decide +kernel
set_option maxRecDepth 100000 in
theorem mk_X4_readFit : pm_mok pm_Ts mX4_readFit := ⟨⟨pm_G_in 3210 _ rfl, pm_G_in 1002 _ rfl, by decide⟩, ⟨by decide, by decide, by decide +kernel⟩, fun h => absurd h (by decide), fun _ => pm_G_in 3209 _ rfl, fun _ => pm_G_in 49 _ rfl, fun h => absurd h (by decide)⟩
set_option maxRecDepth 100000 in
theorem dk_X4_readMinmax : pm_dcl mX4_readMinmax = true := by decide +kernel
set_option maxRecDepth 100000 in
theorem ck_X4_readMinmax : pm_ckl mX4_readMinmax [0, 8, 3147, 0, 0, 3227, 0, 0, 0, 0, 1083, 0, 0, 1084, 0, 0, 0, 3199, 0, 0, 3227, 0, 0, 3239, 0, 0, 0, 3199, 0, 0, 0, 0, 1077, 0, 0, 0, 1083, 0, 1084, 3223, 0, 0] = true := by decide +kernel
set_option maxRecDepth 100000 in
theorem mk_X4_readMinmax : pm_mok pm_Ts mX4_readMinmax := ⟨⟨pm_G_in 3237 _ rfl, pm_G_in 1002 _ rfl, by decide⟩, ⟨by decide, by decide, by decide +kernel⟩, fun h => absurd h (by decide), fun _ => pm_G_in 3236 _ rfl, fun _ => pm_G_in 53 _ rfl, fun h => absurd h (by decide)⟩
set_option maxRecDepth 100000 in
theorem dk_X4_readShareSign : pm_dcl mX4_readShareSign = true := by decide +kernel
set_option maxRecDepth 100000 in
theorem ck_X4_readShareSign : pm_ckl mX4_readShareSign [0, 1083, 0, 0, 3138, 0, 0, 0, 0, 0, 0, 1083, 0, 9, 3147, 0] = true := by decide +kernel
set_option maxRecDepth 100000 in
theorem mk_X4_readShareSign : pm_mok pm_Ts mX4_readShareSign := ⟨⟨pm_G_in 4002 _ rfl, pm_G_in 1002 _ rfl, by decide⟩, ⟨by decide, by decide, by decide +kernel⟩, fun h => absurd h (by decide), fun _ => pm_G_in 4001 _ rfl, fun _ => pm_G_in 54 _ rfl, fun h => absurd h (by decide)⟩
set_option maxRecDepth 100000 in
theorem dk_X4_readPlain : pm_dcl mX4_readPlain = true := by decide +kernel
set_option maxRecDepth 100000 in
theorem ck_X4_readPlain : pm_ckl mX4_readPlain [0, 0, 1084, 0, 3138, 0, 0, 0, 0, 1083, 0, 10, 3147, 0, 0, 0, 3199, 0, 0, 0, 1083, 0, 3212, 0, 0, 3138, 0, 0, 0, 0, 1083, 0, 11, 3147, 0, 0, 0, 1083, 0, 12, 3147, 0] = true := by decide +kernel
set_option maxRecDepth 100000 in
theorem mk_X4_readPlain : pm_mok pm_Ts mX4_readPlain := ⟨⟨pm_G_in 3230 _ rfl, pm_G_in 1002 _ rfl, by decide⟩, ⟨by decide, by decide, by decide +kernel⟩, fun h => absurd h (by decide), fun _ => pm_G_in 3229 _ rfl, fun _ => pm_G_in 52 _ rfl, fun h => absurd h (by decide)⟩
set_option maxRecDepth 100000 in
theorem dk_X4_readNumber : pm_dcl mX4_readNumber = true := by decide +kernel
set_option maxRecDepth 100000 in
theorem ck_X4_readNumber : pm_ckl mX4_readNumber [0, 1080, 0, 0, 0, 3216, 0, 0, 1080, 0, 0, 0, 0, 0, 0, 0, 1084, 0, 0, 3199, 0, 0, 0, 0, 1080, 0, 0, 0, 3216, 0, 0, 1080, 0, 0, 0, 0, 0, 0, 0, 0, 0, 0, 3220, 0, 0, 0, 0, 3221, 0, 3222, 0, 0, 0, 1084, 0, 0, 0, 0, 0, 1084, 0, 0] = true := by decide +kernel
set_option maxRecDepth 100000 in
theorem mk_X4_readNumber : pm_mok pm_Ts mX4_readNumber := ⟨⟨pm_G_in 3215 _ rfl, pm_G_in 1002 _ rfl, by decide⟩, ⟨by decide, by decide, by decide +kernel⟩, fun h => absurd h (by decide), fun _ => pm_G_in 3214 _ rfl, fun _ => pm_G_in 50 _ rfl, fun h => absurd h (by decide)⟩
set_option maxRecDepth 100000 in
theorem dk_X4_readDigits : pm_dcl mX4_readDigits = true := by decide +kernel
set_option maxRecDepth 100000 in
theorem ck_X4_readDigits : pm_ckl mX4_readDigits [0, 0, 0, 0, 0, 0, 0, 0, 1080, 0, 1082, 0, 0, 1081, 0, 1080, 0, 0, 0, 0, 1081, 0, 1080, 0, 0, 0, 0, 0, 0, 0, 0, 0, 1081, 0, 1080, 0, 0, 0, 0, 0, 0, 0, 1080, 0, 0, 1080, 0, 0, 0, 0] = true := by decide +kernel
set_option maxRecDepth 100000 in
theorem mk_X4_readDigits : pm_mok pm_Ts mX4_readDigits := ⟨⟨pm_G_in 3219 _ rfl, pm_G_in 1002 _ rfl, by decide⟩, ⟨by decide, by decide, by decide +kernel⟩, fun h => absurd h (by decide), fun _ => pm_G_in 3218 _ rfl, fun _ => pm_G_in 51 _ rfl, fun h => absurd h (by decide)⟩
set_option maxRecDepth 100000 in
theorem dk_X4_takeWord : pm_dcl mX4_takeWord = true := by decide +kernel
set_option maxRecDepth 100000 in
theorem ck_X4_takeWord : pm_ckl mX4_takeWord [0, 0, 0, 0, 3151, 0, 0, 0, 0, 3161, 3199, 0, 0, 0, 0, 0, 0, 0] = true := by decide +kernel
set_option maxRecDepth 100000 in
theorem mk_X4_takeWord : pm_mok pm_Ts mX4_takeWord := ⟨⟨pm_G_in 3150 _ rfl, pm_G_in 1002 _ rfl, by decide⟩, ⟨by decide, by decide, by decide +kernel⟩, fun h => absurd h (by decide), fun _ => pm_G_in 3149 _ rfl, fun _ => pm_G_in 46 _ rfl, fun h => absurd h (by decide)⟩
set_option maxRecDepth 100000 in
theorem dk_X4_take : pm_dcl mX4_take = true := by decide +kernel
set_option maxRecDepth 100000 in
theorem ck_X4_take : pm_ckl mX4_take [0, 1080, 0, 1082, 0, 0, 1081, 0, 1080, 0, 0, 0, 0, 0, 0, 0, 1080, 0, 0, 1080, 0, 0] = true := by decide +kernel
set_option maxRecDepth 100000 in
theorem mk_X4_take : pm_mok pm_Ts mX4_take := ⟨⟨pm_G_in 3202 _ rfl, pm_G_in 1002 _ rfl, by decide⟩, ⟨by decide, by decide, by decide +kernel⟩, fun h => absurd h (by decide), fun _ => pm_G_in 3201 _ rfl, fun _ => pm_G_in 47 _ rfl, fun h => absurd h (by decide)⟩
set_option maxRecDepth 100000 in
theorem dk_X4_peek : pm_dcl mX4_peek = true := by decide +kernel
set_option maxRecDepth 100000 in
theorem ck_X4_peek : pm_ckl mX4_peek [0, 1080, 0, 1082, 0, 0, 1081, 0, 1080, 0, 0, 0, 0] = true := by decide +kernel
set_option maxRecDepth 100000 in
theorem mk_X4_peek : pm_mok pm_Ts mX4_peek := ⟨⟨pm_G_in 3141 _ rfl, pm_G_in 1002 _ rfl, by decide⟩, ⟨by decide, by decide, by decide +kernel⟩, fun h => absurd h (by decide), fun _ => pm_G_in 3140 _ rfl, fun _ => pm_G_in 44 _ rfl, fun h => absurd h (by decide)⟩
set_option maxRecDepth 100000 in
theorem dk_X5_init : pm_dcl mX5_init = true := by decide +kernel
set_option maxRecDepth 100000 in
theorem ck_X5_init : pm_ckl mX5_init [0, 1026, 0, 1029, 0, 0, 2008, 0, 0, 1108, 0, 0, 1108, 0, 1, 0, 0, 0, 1108, 0, 1, 0, 2009, 0, 0, 1187, 0, 0, 1187, 0, 0, 2009, 0, 0, 1190, 0, 0, 0, 1187, 0, 0, 2009, 0, 0, 1190, 0, 2010, 0, 1214, 0, 0, 2009, 0, 0, 0, 2009, 0, 0, 1216, 2011, 0, 0, 2013, 0] = true := by decide +kernel
set_option maxRecDepth 100000 in
theorem mk_X5_init : pm_mok pm_Ts mX5_init := ⟨⟨pm_G_in 1025 _ rfl, pm_G_in 1001 _ rfl, by decide⟩, ⟨by decide, by decide, by decide +kernel⟩, fun h => absurd h (by decide), fun _ => pm_G_in 1024 _ rfl, fun h => absurd h (by decide), fun _ => ⟨rfl, rfl⟩⟩
set_option maxRecDepth 100000 in
theorem dk_X5_write : pm_dcl mX5_write = true := by decide +kernel
set_option maxRecDepth 100000 in
theorem ck_X5_write : pm_ckl mX5_write [0, 2008, 0, 2037, 0] = true := by decide +kernel
set_option maxRecDepth 100000 in
theorem mk_X5_write : pm_mok pm_Ts mX5_write := ⟨⟨pm_G_in 2036 _ rfl, pm_G_in 1001 _ rfl, by decide⟩, ⟨by decide, by decide, by decide +kernel⟩, fun h => absurd h (by decide), fun _ => pm_G_in 2034 _ rfl, fun _ => pm_G_in 2035 _ rfl, fun h => absurd h (by decide)⟩
set_option maxRecDepth 100000 in
theorem dk_X5_template : pm_dcl mX5_template = true := by decide +kernel
set_option maxRecDepth 100000 in
theorem ck_X5_template : pm_ckl mX5_template [0, 2053, 0, 0, 0, 2008, 3129, 0, 0, 2008, 4013, 0, 0, 0, 0, 2008, 1079, 2013, 1, 0, 2009, 0, 0, 1120, 0, 2008, 1078, 4018, 0, 2008, 1078, 1061, 0] = true := by decide +kernel
set_option maxRecDepth 100000 in
theorem mk_X5_template : pm_mok pm_Ts mX5_template := ⟨⟨pm_G_in 3060 _ rfl, pm_G_in 1001 _ rfl, by decide⟩, ⟨by decide, by decide, by decide +kernel⟩, fun h => absurd h (by decide), fun _ => pm_G_in 3058 _ rfl, fun _ => pm_G_in 3059 _ rfl, fun h => absurd h (by decide)⟩
set_option maxRecDepth 100000 in
theorem dk_X5_place : pm_dcl mX5_place = true := by decide +kernel
set_option maxRecDepth 100000 in
theorem ck_X5_place : pm_ckl mX5_place [0, 2013, 0] = true := by decide +kernel
set_option maxRecDepth 100000 in
theorem mk_X5_place : pm_mok pm_Ts mX5_place := ⟨⟨pm_G_in 2044 _ rfl, pm_G_in 1001 _ rfl, by decide⟩, ⟨by decide, by decide, by decide +kernel⟩, fun h => absurd h (by decide), fun _ => pm_G_in 2042 _ rfl, fun _ => pm_G_in 2043 _ rfl, fun h => absurd h (by decide)⟩
set_option maxRecDepth 100000 in
theorem dk_X5_item : pm_dcl mX5_item = true := by decide +kernel
set_option maxRecDepth 100000 in
theorem ck_X5_item : pm_ckl mX5_item [0, 0, 4033, 0, 0, 0, 4033, 0, 2, 0, 2012, 0, 0, 3, 0, 2009, 0, 0, 0, 2012, 0, 0, 4053, 0, 2009, 0, 0, 0, 2012, 0, 0, 4053, 0, 0, 2012, 0, 0, 2012, 0, 2012, 0, 0, 0] = true := by decide +kernel
set_option maxRecDepth 100000 in
theorem mk_X5_item : pm_mok pm_Ts mX5_item := ⟨⟨pm_G_in 4032 _ rfl, pm_G_in 1001 _ rfl, by decide⟩, ⟨by decide, by decide, by decide +kernel⟩, fun h => absurd h (by decide), fun _ => pm_G_in 4030 _ rfl, fun _ => pm_G_in 4031 _ rfl, fun h => absurd h (by decide)⟩
set_option maxRecDepth 100000 in
theorem dk_X5_need : pm_dcl mX5_need = true := by decide +kernel
set_option maxRecDepth 100000 in
theorem ck_X5_need : pm_ckl mX5_need [0, 0, 2049, 0, 0, 2053, 0, 0, 0, 0, 2056, 0, 0, 2056, 0, 0, 0, 0, 0, 0, 0, 0, 2009, 0, 0, 1135, 0, 0, 2060, 0, 0, 2009, 0, 0, 1138, 0, 0, 2060, 0, 0, 0] = true := by decide +kernel
set_option maxRecDepth 100000 in
theorem mk_X5_need : pm_mok pm_Ts mX5_need := ⟨⟨pm_G_in 2048 _ rfl, pm_G_in 1001 _ rfl, by decide⟩, ⟨by decide, by decide, by decide +kernel⟩, fun h => absurd h (by decide), fun _ => pm_G_in 2046 _ rfl, fun _ => pm_G_in 2047 _ rfl, fun h => absurd h (by decide)⟩
set_option maxRecDepth 100000 in
theorem dk_X5_flow : pm_dcl mX5_flow = true := by decide +kernel
set_option maxRecDepth 100000 in
theorem ck_X5_flow : pm_ckl mX5_flow [0, 0, 2014, 0, 0, 2015, 0] = true := by decide +kernel
set_option maxRecDepth 100000 in
theorem mk_X5_flow : pm_mok pm_Ts mX5_flow := ⟨⟨pm_G_in 2066 _ rfl, pm_G_in 1001 _ rfl, by decide⟩, ⟨by decide, by decide, by decide +kernel⟩, fun h => absurd h (by decide), fun _ => pm_G_in 2064 _ rfl, fun _ => pm_G_in 2065 _ rfl, fun h => absurd h (by decide)⟩
set_option maxRecDepth 100000 in
theorem dk_X5_room : pm_dcl mX5_room = true := by decide +kernel
set_option maxRecDepth 100000 in
theorem ck_X5_room : pm_ckl mX5_room [0, 2053, 0, 0, 2056, 0, 0, 2056, 0, 0, 0, 0, 2009, 0, 0, 0, 2060, 1121, 0, 2009, 0, 0, 0, 2060, 1123, 0, 0] = true := by decide +kernel
set_option maxRecDepth 100000 in
theorem mk_X5_room : pm_mok pm_Ts mX5_room := ⟨⟨pm_G_in 2070 _ rfl, pm_G_in 1001 _ rfl, by decide⟩, ⟨by decide, by decide, by decide +kernel⟩, fun h => absurd h (by decide), fun _ => pm_G_in 2068 _ rfl, fun _ => pm_G_in 2069 _ rfl, fun h => absurd h (by decide)⟩
set_option maxRecDepth 100000 in
theorem dk_X5_put : pm_dcl mX5_put = true := by decide +kernel
set_option maxRecDepth 100000 in
theorem ck_X5_put : pm_ckl mX5_put [0, 2053, 0, 0, 0, 0, 0, 0, 0, 0, 0, 2009, 0, 0, 0, 1126, 0, 0] = true := by decide +kernel
set_option maxRecDepth 100000 in
theorem mk_X5_put : pm_mok pm_Ts mX5_put := ⟨⟨pm_G_in 2074 _ rfl, pm_G_in 1001 _ rfl, by decide⟩, ⟨by decide, by decide, by decide +kernel⟩, fun h => absurd h (by decide), fun _ => pm_G_in 2072 _ rfl, fun _ => pm_G_in 2073 _ rfl, fun h => absurd h (by decide)⟩
set_option maxRecDepth 100000 in
theorem dk_X5_layout : pm_dcl mX5_layout = true := by decide +kernel
set_option maxRecDepth 100000 in
theorem ck_X5_layout : pm_ckl mX5_layout [0, 2014, 0, 0, 0, 0, 0, 0, 2014, 0, 0, 0, 0, 0, 0, 2011, 0, 2009, 0, 0, 0, 2009, 0, 0, 0, 2012, 0, 2015, 2079, 0, 0, 2010, 0, 0, 0, 2012, 2143, 0, 2010, 0, 0, 0, 2012, 2143, 0, 0] = true := by decide +kernel
set_option maxRecDepth 100000 in
theorem mk_X5_layout : pm_mok pm_Ts mX5_layout := ⟨⟨pm_G_in 2078 _ rfl, pm_G_in 1001 _ rfl, by decide⟩, ⟨by decide, by decide, by decide +kernel⟩, fun h => absurd h (by decide), fun _ => pm_G_in 2076 _ rfl, fun _ => pm_G_in 2077 _ rfl, fun h => absurd h (by decide)⟩
set_option maxRecDepth 100000 in
theorem dk_X5_tracks : pm_dcl mX5_tracks = true := by decide +kernel
set_option maxRecDepth 100000 in
theorem ck_X5_tracks : pm_ckl mX5_tracks [0, 2053, 0, 0, 2009, 0, 0, 1142, 0, 0, 0] = true := by decide +kernel
set_option maxRecDepth 100000 in
theorem mk_X5_tracks : pm_mok pm_Ts mX5_tracks := ⟨⟨pm_G_in 3036 _ rfl, pm_G_in 1001 _ rfl, by decide⟩, ⟨by decide, by decide, by decide +kernel⟩, fun h => absurd h (by decide), fun _ => pm_G_in 3034 _ rfl, fun _ => pm_G_in 3035 _ rfl, fun h => absurd h (by decide)⟩
set_option maxRecDepth 100000 in
theorem dk_X5_size : pm_dcl mX5_size = true := by decide +kernel
set_option maxRecDepth 100000 in
theorem ck_X5_size : pm_ckl mX5_size [0, 0, 0, 4065, 0, 4, 0, 2009, 0, 0, 1145, 0, 0, 0] = true := by decide +kernel
set_option maxRecDepth 100000 in
theorem mk_X5_size : pm_mok pm_Ts mX5_size := ⟨⟨pm_G_in 4064 _ rfl, pm_G_in 1001 _ rfl, by decide⟩, ⟨by decide, by decide, by decide +kernel⟩, fun h => absurd h (by decide), fun _ => pm_G_in 4062 _ rfl, fun _ => pm_G_in 4063 _ rfl, fun h => absurd h (by decide)⟩
set_option maxRecDepth 100000 in
theorem dk_X5_at : pm_dcl mX5_at = true := by decide +kernel
set_option maxRecDepth 100000 in
theorem ck_X5_at : pm_ckl mX5_at [0, 0, 0, 4065, 0, 4, 0, 2009, 0, 0, 1147, 0, 0, 0] = true := by decide +kernel
set_option maxRecDepth 100000 in
theorem mk_X5_at : pm_mok pm_Ts mX5_at := ⟨⟨pm_G_in 4091 _ rfl, pm_G_in 1001 _ rfl, by decide⟩, ⟨by decide, by decide, by decide +kernel⟩, fun h => absurd h (by decide), fun _ => pm_G_in 4089 _ rfl, fun _ => pm_G_in 4090 _ rfl, fun h => absurd h (by decide)⟩
set_option maxRecDepth 100000 in
theorem dk_X5_line : pm_dcl mX5_line = true := by decide +kernel
set_option maxRecDepth 100000 in
theorem ck_X5_line : pm_ckl mX5_line [0, 0, 2049, 0, 0, 2053, 0, 0, 2009, 0, 0, 1152, 0, 0, 0, 0, 0] = true := by decide +kernel
set_option maxRecDepth 100000 in
theorem mk_X5_line : pm_mok pm_Ts mX5_line := ⟨⟨pm_G_in 3040 _ rfl, pm_G_in 1001 _ rfl, by decide⟩, ⟨by decide, by decide, by decide +kernel⟩, fun h => absurd h (by decide), fun _ => pm_G_in 3038 _ rfl, fun _ => pm_G_in 3039 _ rfl, fun h => absurd h (by decide)⟩
set_option maxRecDepth 100000 in
theorem dk_X5_extent : pm_dcl mX5_extent = true := by decide +kernel
set_option maxRecDepth 100000 in
theorem ck_X5_extent : pm_ckl mX5_extent [0, 0, 0, 4099, 0, 5, 0, 2009, 0, 0, 1154, 0, 0, 0] = true := by decide +kernel
set_option maxRecDepth 100000 in
theorem mk_X5_extent : pm_mok pm_Ts mX5_extent := ⟨⟨pm_G_in 4098 _ rfl, pm_G_in 1001 _ rfl, by decide⟩, ⟨by decide, by decide, by decide +kernel⟩, fun h => absurd h (by decide), fun _ => pm_G_in 4096 _ rfl, fun _ => pm_G_in 4097 _ rfl, fun h => absurd h (by decide)⟩
set_option maxRecDepth 100000 in
theorem dk_X5_hit : pm_dcl mX5_hit = true := by decide +kernel
set_option maxRecDepth 100000 in
theorem ck_X5_hit : pm_ckl mX5_hit [0, 0, 0, 0, 2012, 0, 0, 2009, 0, 0, 0, 0, 3045, 0, 0, 2009, 0, 0, 0, 0, 3045, 0, 0, 0, 0, 0, 0, 0] = true := by decide +kernel
set_option maxRecDepth 100000 in
theorem mk_X5_hit : pm_mok pm_Ts mX5_hit := ⟨⟨pm_G_in 3044 _ rfl, pm_G_in 1001 _ rfl, by decide⟩, ⟨by decide, by decide, by decide +kernel⟩, fun h => absurd h (by decide), fun _ => pm_G_in 3042 _ rfl, fun _ => pm_G_in 3043 _ rfl, fun h => absurd h (by decide)⟩
set_option maxRecDepth 100000 in
theorem dk_X5_free : pm_dcl mX5_free = true := by decide +kernel
set_option maxRecDepth 100000 in
theorem ck_X5_free : pm_ckl mX5_free [0, 2053, 0, 0, 2009, 0, 0, 1156, 0, 0, 0] = true := by decide +kernel
set_option maxRecDepth 100000 in
theorem mk_X5_free : pm_mok pm_Ts mX5_free := ⟨⟨pm_G_in 3052 _ rfl, pm_G_in 1001 _ rfl, by decide⟩, ⟨by decide, by decide, by decide +kernel⟩, fun h => absurd h (by decide), fun _ => pm_G_in 3050 _ rfl, fun _ => pm_G_in 3051 _ rfl, fun h => absurd h (by decide)⟩
