/-! ===== THE PROGRAM IS WHAT THE TABLES SAY (written by wip/whole/gen_tab.py) ===== -/
set_option maxRecDepth 100000 in
theorem dk_X5_isItem : pm_dcl mX5_isItem = true := by decide +kernel
set_option maxRecDepth 100000 in
theorem ck_X5_isItem : pm_ckl mX5_isItem [0, 0, 0, 0, 2012, 0, 0, 0, 0, 0] = true := by decide +kernel
set_option maxRecDepth 100000 in
theorem mk_X5_isItem : pm_mok pm_Ts mX5_isItem := ⟨⟨pm_G_in 2052 _ rfl, pm_G_in 1001 _ rfl, by decide⟩, ⟨by decide, by decide, by decide +kernel⟩, fun h => absurd h (by decide), fun _ => pm_G_in 2051 _ rfl, fun _ => pm_G_in 0 _ rfl, fun h => absurd h (by decide)⟩
set_option maxRecDepth 100000 in
theorem dk_X5_isTrack : pm_dcl mX5_isTrack = true := by decide +kernel
set_option maxRecDepth 100000 in
theorem ck_X5_isTrack : pm_ckl mX5_isTrack [0, 2053, 0, 0, 0, 0, 0, 2009, 0, 0, 1142, 0, 0, 0, 0, 0] = true := by decide +kernel
set_option maxRecDepth 100000 in
theorem mk_X5_isTrack : pm_mok pm_Ts mX5_isTrack := ⟨⟨pm_G_in 4068 _ rfl, pm_G_in 1001 _ rfl, by decide⟩, ⟨by decide, by decide, by decide +kernel⟩, fun h => absurd h (by decide), fun _ => pm_G_in 4067 _ rfl, fun _ => pm_G_in 56 _ rfl, fun h => absurd h (by decide)⟩
set_option maxRecDepth 100000 in
theorem dk_X5_isAxis : pm_dcl mX5_isAxis = true := by decide +kernel
set_option maxRecDepth 100000 in
theorem ck_X5_isAxis : pm_ckl mX5_isAxis [0, 0, 0, 0, 0, 0, 0, 0, 0] = true := by decide +kernel
set_option maxRecDepth 100000 in
theorem mk_X5_isAxis : pm_mok pm_Ts mX5_isAxis := ⟨⟨pm_G_in 2055 _ rfl, pm_G_in 1001 _ rfl, by decide⟩, ⟨by decide, by decide, by decide +kernel⟩, fun _ => pm_G_in 2054 _ rfl, fun h => absurd rfl h, fun h => absurd h (by decide), fun h => absurd h (by decide)⟩
set_option maxRecDepth 100000 in
theorem dk_X5_isStand : pm_dcl mX5_isStand = true := by decide +kernel
set_option maxRecDepth 100000 in
theorem ck_X5_isStand : pm_ckl mX5_isStand [0, 0, 0, 0, 0, 0, 0, 0, 0, 0, 0, 0, 0, 0, 0, 0, 0, 0, 0, 0] = true := by decide +kernel
set_option maxRecDepth 100000 in
theorem mk_X5_isStand : pm_mok pm_Ts mX5_isStand := ⟨⟨pm_G_in 4035 _ rfl, pm_G_in 1001 _ rfl, by decide⟩, ⟨by decide, by decide, by decide +kernel⟩, fun _ => pm_G_in 4034 _ rfl, fun h => absurd rfl h, fun h => absurd h (by decide), fun h => absurd h (by decide)⟩
set_option maxRecDepth 100000 in
theorem dk_X5_isMeasure : pm_dcl mX5_isMeasure = true := by decide +kernel
set_option maxRecDepth 100000 in
theorem ck_X5_isMeasure : pm_ckl mX5_isMeasure [0, 0, 0, 0, 0, 2059, 0, 0, 0, 0, 0, 0] = true := by decide +kernel
set_option maxRecDepth 100000 in
theorem mk_X5_isMeasure : pm_mok pm_Ts mX5_isMeasure := ⟨⟨pm_G_in 2058 _ rfl, pm_G_in 1001 _ rfl, by decide⟩, ⟨by decide, by decide, by decide +kernel⟩, fun _ => pm_G_in 2057 _ rfl, fun h => absurd rfl h, fun h => absurd h (by decide), fun h => absurd h (by decide)⟩
set_option maxRecDepth 100000 in
theorem dk_X5_withoutSign : pm_dcl mX5_withoutSign = true := by decide +kernel
set_option maxRecDepth 100000 in
theorem ck_X5_withoutSign : pm_ckl mX5_withoutSign [0, 0, 0, 0, 0, 0, 0, 0] = true := by decide +kernel
set_option maxRecDepth 100000 in
theorem mk_X5_withoutSign : pm_mok pm_Ts mX5_withoutSign := ⟨⟨pm_G_in 2062 _ rfl, pm_G_in 1001 _ rfl, by decide⟩, ⟨by decide, by decide, by decide +kernel⟩, fun _ => pm_G_in 2061 _ rfl, fun h => absurd rfl h, fun h => absurd h (by decide), fun h => absurd h (by decide)⟩
set_option maxRecDepth 100000 in
theorem dk_X5_greater : pm_dcl mX5_greater = true := by decide +kernel
set_option maxRecDepth 100000 in
theorem ck_X5_greater : pm_ckl mX5_greater [0, 0, 0, 0, 0, 0, 0, 0] = true := by decide +kernel
set_option maxRecDepth 100000 in
theorem mk_X5_greater : pm_mok pm_Ts mX5_greater := ⟨⟨pm_G_in 2157 _ rfl, pm_G_in 1001 _ rfl, by decide⟩, ⟨by decide, by decide, by decide +kernel⟩, fun _ => pm_G_in 2156 _ rfl, fun h => absurd rfl h, fun h => absurd h (by decide), fun h => absurd h (by decide)⟩
set_option maxRecDepth 100000 in
theorem dk_X5_lesser : pm_dcl mX5_lesser = true := by decide +kernel
set_option maxRecDepth 100000 in
theorem ck_X5_lesser : pm_ckl mX5_lesser [0, 0, 0, 0, 0, 0, 0, 0] = true := by decide +kernel
set_option maxRecDepth 100000 in
theorem mk_X5_lesser : pm_mok pm_Ts mX5_lesser := ⟨⟨pm_G_in 2172 _ rfl, pm_G_in 1001 _ rfl, by decide⟩, ⟨by decide, by decide, by decide +kernel⟩, fun _ => pm_G_in 2171 _ rfl, fun h => absurd rfl h, fun h => absurd h (by decide), fun h => absurd h (by decide)⟩
set_option maxRecDepth 100000 in
theorem dk_X6_init : pm_dcl mX6_init = true := by decide +kernel
set_option maxRecDepth 100000 in
theorem ck_X6_init : pm_ckl mX6_init [0, 4106, 0, 0, 1075, 4109, 0, 0, 4110, 0, 0, 1075, 4111, 0, 0, 1075, 4112, 0, 0, 1075, 4113, 0, 0, 1076, 4114, 0, 0, 1076, 4115, 0, 0, 1075, 4127, 0, 0, 1075, 4128, 0, 0, 1076, 4129, 0, 0, 1076, 4130, 0, 0, 4131, 0, 0, 1076, 4133, 0, 0, 1076, 4134, 0, 0, 1075, 4135, 0, 0, 1075, 4138, 0, 0, 1076, 4139, 0, 0, 1075, 4140, 0, 0, 1076, 4141, 0, 0, 1076, 4142, 0, 0, 1213, 4143, 0, 0, 1076, 4144, 0, 0, 1076, 4145, 0, 0, 1213, 4146, 0, 0, 1213, 4150, 0, 0, 1213, 4151, 0, 0, 1076, 4152, 0] = true := by decide +kernel
set_option maxRecDepth 100000 in
theorem mk_X6_init : pm_mok pm_Ts mX6_init := ⟨⟨pm_G_in 4105 _ rfl, pm_G_in 1008 _ rfl, by decide⟩, ⟨by decide, by decide, by decide +kernel⟩, fun h => absurd h (by decide), fun _ => pm_G_in 4104 _ rfl, fun h => absurd h (by decide), fun _ => ⟨rfl, rfl⟩⟩
set_option maxRecDepth 100000 in
theorem dk_X6_thrown : pm_dcl mX6_thrown = true := by decide +kernel
set_option maxRecDepth 100000 in
theorem ck_X6_thrown : pm_ckl mX6_thrown [0, 4107, 0] = true := by decide +kernel
set_option maxRecDepth 100000 in
theorem mk_X6_thrown : pm_mok pm_Ts mX6_thrown := ⟨⟨pm_G_in 5009 _ rfl, pm_G_in 1008 _ rfl, by decide⟩, ⟨by decide, by decide, by decide +kernel⟩, fun h => absurd h (by decide), fun _ => pm_G_in 5007 _ rfl, fun _ => pm_G_in 5008 _ rfl, fun h => absurd h (by decide)⟩
set_option maxRecDepth 100000 in
theorem dk_X6_fails : pm_dcl mX6_fails = true := by decide +kernel
set_option maxRecDepth 100000 in
theorem ck_X6_fails : pm_ckl mX6_fails [0, 0, 0, 0, 0, 0, 0, 0, 0, 0, 4107, 0, 4107, 0, 0, 0, 0, 0] = true := by decide +kernel
set_option maxRecDepth 100000 in
theorem mk_X6_fails : pm_mok pm_Ts mX6_fails := ⟨⟨pm_G_in 5024 _ rfl, pm_G_in 1008 _ rfl, by decide⟩, ⟨by decide, by decide, by decide +kernel⟩, fun h => absurd h (by decide), fun _ => pm_G_in 5023 _ rfl, fun _ => pm_G_in 57 _ rfl, fun h => absurd h (by decide)⟩
set_option maxRecDepth 100000 in
theorem dk_X6_isAxis : pm_dcl mX6_isAxis = true := by decide +kernel
set_option maxRecDepth 100000 in
theorem ck_X6_isAxis : pm_ckl mX6_isAxis [0, 0, 0, 0, 0, 0, 0, 0, 0] = true := by decide +kernel
set_option maxRecDepth 100000 in
theorem mk_X6_isAxis : pm_mok pm_Ts mX6_isAxis := ⟨⟨pm_G_in 5020 _ rfl, pm_G_in 1008 _ rfl, by decide⟩, ⟨by decide, by decide, by decide +kernel⟩, fun _ => pm_G_in 5019 _ rfl, fun h => absurd rfl h, fun h => absurd h (by decide), fun h => absurd h (by decide)⟩
set_option maxRecDepth 100000 in
theorem dk_X6_outside : pm_dcl mX6_outside = true := by decide +kernel
set_option maxRecDepth 100000 in
theorem ck_X6_outside : pm_ckl mX6_outside [0, 0, 0, 0, 0, 0, 0, 0, 0, 0] = true := by decide +kernel
set_option maxRecDepth 100000 in
theorem mk_X6_outside : pm_mok pm_Ts mX6_outside := ⟨⟨pm_G_in 5114 _ rfl, pm_G_in 1008 _ rfl, by decide⟩, ⟨by decide, by decide, by decide +kernel⟩, fun _ => pm_G_in 5113 _ rfl, fun h => absurd rfl h, fun h => absurd h (by decide), fun h => absurd h (by decide)⟩
set_option maxRecDepth 100000 in
theorem dk_X6_write : pm_dcl mX6_write = true := by decide +kernel
set_option maxRecDepth 100000 in
theorem ck_X6_write : pm_ckl mX6_write [0, 0, 4107, 0, 4108, 0, 0, 0, 0, 0, 0, 0, 0, 0, 0, 0, 4109, 0, 4108, 0, 0, 0, 0, 4108, 0, 0, 4108, 0, 0] = true := by decide +kernel
set_option maxRecDepth 100000 in
theorem mk_X6_write : pm_mok pm_Ts mX6_write := ⟨⟨pm_G_in 5013 _ rfl, pm_G_in 1008 _ rfl, by decide⟩, ⟨by decide, by decide, by decide +kernel⟩, fun h => absurd h (by decide), fun _ => pm_G_in 5011 _ rfl, fun _ => pm_G_in 5012 _ rfl, fun h => absurd h (by decide)⟩
set_option maxRecDepth 100000 in
theorem dk_X6_now : pm_dcl mX6_now = true := by decide +kernel
set_option maxRecDepth 100000 in
theorem ck_X6_now : pm_ckl mX6_now [0, 4116, 0, 4117, 0, 0, 4109, 0, 4116, 0, 0, 0, 0] = true := by decide +kernel
set_option maxRecDepth 100000 in
theorem mk_X6_now : pm_mok pm_Ts mX6_now := ⟨⟨pm_G_in 5040 _ rfl, pm_G_in 1008 _ rfl, by decide⟩, ⟨by decide, by decide, by decide +kernel⟩, fun h => absurd h (by decide), fun _ => pm_G_in 5039 _ rfl, fun _ => pm_G_in 61 _ rfl, fun h => absurd h (by decide)⟩
set_option maxRecDepth 100000 in
theorem dk_X6_isDigit : pm_dcl mX6_isDigit = true := by decide +kernel
set_option maxRecDepth 100000 in
theorem ck_X6_isDigit : pm_ckl mX6_isDigit [0, 5037, 0, 0, 0, 5037, 0, 0, 0, 0, 0, 0] = true := by decide +kernel
set_option maxRecDepth 100000 in
theorem mk_X6_isDigit : pm_mok pm_Ts mX6_isDigit := ⟨⟨pm_G_in 5071 _ rfl, pm_G_in 1008 _ rfl, by decide⟩, ⟨by decide, by decide, by decide +kernel⟩, fun h => absurd h (by decide), fun _ => pm_G_in 5070 _ rfl, fun _ => pm_G_in 67 _ rfl, fun h => absurd h (by decide)⟩
set_option maxRecDepth 100000 in
theorem dk_X6_isLetter : pm_dcl mX6_isLetter = true := by decide +kernel
set_option maxRecDepth 100000 in
theorem ck_X6_isLetter : pm_ckl mX6_isLetter [0, 0, 0, 0, 0, 0, 0, 0, 0, 0] = true := by decide +kernel
set_option maxRecDepth 100000 in
theorem mk_X6_isLetter : pm_mok pm_Ts mX6_isLetter := ⟨⟨pm_G_in 5043 _ rfl, pm_G_in 1008 _ rfl, by decide⟩, ⟨by decide, by decide, by decide +kernel⟩, fun _ => pm_G_in 5042 _ rfl, fun h => absurd rfl h, fun h => absurd h (by decide), fun h => absurd h (by decide)⟩
set_option maxRecDepth 100000 in
theorem dk_X6_takes : pm_dcl mX6_takes = true := by decide +kernel
set_option maxRecDepth 100000 in
theorem ck_X6_takes : pm_ckl mX6_takes [0, 4116, 0, 4117, 0, 0, 0, 4118, 0, 0, 0, 4109, 0, 4116, 0, 0, 0, 0, 0, 4118, 0, 0, 0, 0, 4116, 0, 0, 4116, 0, 0] = true := by decide +kernel
set_option maxRecDepth 100000 in
theorem mk_X6_takes : pm_mok pm_Ts mX6_takes := ⟨⟨pm_G_in 5055 _ rfl, pm_G_in 1008 _ rfl, by decide⟩, ⟨by decide, by decide, by decide +kernel⟩, fun h => absurd h (by decide), fun _ => pm_G_in 5054 _ rfl, fun _ => pm_G_in 63 _ rfl, fun h => absurd h (by decide)⟩
set_option maxRecDepth 100000 in
theorem dk_X6_digits : pm_dcl mX6_digits = true := by decide +kernel
set_option maxRecDepth 100000 in
theorem ck_X6_digits : pm_ckl mX6_digits [0, 0, 0, 0, 4120, 0, 0, 0, 0, 5068, 0, 0, 0, 0, 4120, 0, 0, 4109, 0, 4116, 0, 0, 0, 0, 4120, 0, 0, 4116, 0, 0, 4116, 0, 0, 0, 0, 0, 0, 4116, 0, 4117, 0, 0, 0, 0, 4118, 0, 0] = true := by decide +kernel
set_option maxRecDepth 100000 in
theorem mk_X6_digits : pm_mok pm_Ts mX6_digits := ⟨⟨pm_G_in 5067 _ rfl, pm_G_in 1008 _ rfl, by decide⟩, ⟨by decide, by decide, by decide +kernel⟩, fun h => absurd h (by decide), fun _ => pm_G_in 5066 _ rfl, fun _ => pm_G_in 66 _ rfl, fun h => absurd h (by decide)⟩
set_option maxRecDepth 100000 in
theorem dk_X6_readNumber : pm_dcl mX6_readNumber = true := by decide +kernel
set_option maxRecDepth 100000 in
theorem ck_X6_readNumber : pm_ckl mX6_readNumber [0, 0, 5064, 0, 0, 0, 0, 0, 4120, 0, 4121, 0, 5037, 0, 0, 0, 0, 0, 0, 4116, 0, 0, 4116, 0, 0, 5064, 0, 0, 0, 0, 0, 0, 0, 4121, 0, 4120, 0, 0, 0, 0, 5072, 0, 0, 0, 0, 5073, 0, 5074, 0, 0, 4121, 0, 0] = true := by decide +kernel
set_option maxRecDepth 100000 in
theorem mk_X6_readNumber : pm_mok pm_Ts mX6_readNumber := ⟨⟨pm_G_in 5063 _ rfl, pm_G_in 1008 _ rfl, by decide⟩, ⟨by decide, by decide, by decide +kernel⟩, fun h => absurd h (by decide), fun _ => pm_G_in 5062 _ rfl, fun _ => pm_G_in 65 _ rfl, fun h => absurd h (by decide)⟩
set_option maxRecDepth 100000 in
theorem dk_X6_word : pm_dcl mX6_word = true := by decide +kernel
set_option maxRecDepth 100000 in
theorem ck_X6_word : pm_ckl mX6_word [0, 0, 0, 0, 0, 0, 0, 5037, 5041, 0, 0, 0, 0, 0, 0, 0, 0, 0, 0, 0, 0, 0, 5044, 0, 0, 4109, 0, 4116, 0, 0, 0, 5045, 0, 0, 0, 0, 4116, 0, 0, 4116, 0, 0, 0, 0, 5046, 0, 0, 0] = true := by decide +kernel
set_option maxRecDepth 100000 in
theorem mk_X6_word : pm_mok pm_Ts mX6_word := ⟨⟨pm_G_in 5036 _ rfl, pm_G_in 1008 _ rfl, by decide⟩, ⟨by decide, by decide, by decide +kernel⟩, fun h => absurd h (by decide), fun _ => pm_G_in 5035 _ rfl, fun _ => pm_G_in 60 _ rfl, fun h => absurd h (by decide)⟩
set_option maxRecDepth 100000 in
theorem dk_X6_begins : pm_dcl mX6_begins = true := by decide +kernel
set_option maxRecDepth 100000 in
theorem ck_X6_begins : pm_ckl mX6_begins [0, 0, 0, 0, 0, 0, 0, 0, 0, 0, 0, 5044, 0, 0, 0, 0, 0, 0, 0, 0, 0, 0, 0] = true := by decide +kernel
set_option maxRecDepth 100000 in
theorem mk_X6_begins : pm_mok pm_Ts mX6_begins := ⟨⟨pm_G_in 5086 _ rfl, pm_G_in 1008 _ rfl, by decide⟩, ⟨by decide, by decide, by decide +kernel⟩, fun _ => pm_G_in 5085 _ rfl, fun h => absurd rfl h, fun h => absurd h (by decide), fun h => absurd h (by decide)⟩
set_option maxRecDepth 100000 in
theorem dk_X6_simple : pm_dcl mX6_simple = true := by decide +kernel
set_option maxRecDepth 100000 in
theorem ck_X6_simple : pm_ckl mX6_simple [0, 5078, 0, 0, 0, 0, 0, 5079, 0, 0, 0, 0, 0, 5080, 0, 0, 0, 0, 0, 0] = true := by decide +kernel
set_option maxRecDepth 100000 in
theorem mk_X6_simple : pm_mok pm_Ts mX6_simple := ⟨⟨pm_G_in 5077 _ rfl, pm_G_in 1008 _ rfl, by decide⟩, ⟨by decide, by decide, by decide +kernel⟩, fun _ => pm_G_in 5076 _ rfl, fun h => absurd rfl h, fun h => absurd h (by decide), fun h => absurd h (by decide)⟩
set_option maxRecDepth 100000 in
theorem dk_X6_beginsSimple : pm_dcl mX6_beginsSimple = true := by decide +kernel
set_option maxRecDepth 100000 in
theorem ck_X6_beginsSimple : pm_ckl mX6_beginsSimple [0, 5078, 5084, 0, 0, 5079, 5084, 0, 0, 5080, 5084, 0, 0, 0, 0, 0] = true := by decide +kernel
set_option maxRecDepth 100000 in
theorem mk_X6_beginsSimple : pm_mok pm_Ts mX6_beginsSimple := ⟨⟨pm_G_in 5083 _ rfl, pm_G_in 1008 _ rfl, by decide⟩, ⟨by decide, by decide, by decide +kernel⟩, fun _ => pm_G_in 5082 _ rfl, fun h => absurd rfl h, fun h => absurd h (by decide), fun h => absurd h (by decide)⟩
set_option maxRecDepth 100000 in
theorem dk_X6_readSide : pm_dcl mX6_readSide = true := by decide +kernel
set_option maxRecDepth 100000 in
theorem ck_X6_readSide : pm_ckl mX6_readSide [0, 5037, 5041, 0, 0, 5033, 0, 0, 0, 5075, 4120, 0, 4120, 0, 0, 0, 0, 0, 4116, 0, 4117, 0, 0, 5081, 0, 0, 0, 0, 4118, 0, 0, 0, 5060, 0, 0, 0, 0, 0, 4120, 0, 0, 0, 5037, 0, 0, 0, 0, 4116, 0, 0, 4116, 0, 0, 4120, 0, 0, 5052, 0, 0, 0] = true := by decide +kernel
set_option maxRecDepth 100000 in
theorem mk_X6_readSide : pm_mok pm_Ts mX6_readSide := ⟨⟨pm_G_in 5096 _ rfl, pm_G_in 1008 _ rfl, by decide⟩, ⟨by decide, by decide, by decide +kernel⟩, fun h => absurd h (by decide), fun _ => pm_G_in 5095 _ rfl, fun _ => pm_G_in 69 _ rfl, fun h => absurd h (by decide)⟩
set_option maxRecDepth 100000 in
theorem dk_X6_readMinmax : pm_dcl mX6_readMinmax = true := by decide +kernel
set_option maxRecDepth 100000 in
theorem ck_X6_readMinmax : pm_ckl mX6_readMinmax [0, 0, 5052, 0, 0, 0, 5093, 0, 0, 0, 0, 0, 4120, 4122, 0, 0, 4121, 4124, 0, 0, 5052, 0, 0, 0, 5093, 0, 0, 0, 0, 0, 4120, 4123, 0, 0, 4121, 4125, 0, 0, 5052, 0] = true := by decide +kernel
set_option maxRecDepth 100000 in
theorem mk_X6_readMinmax : pm_mok pm_Ts mX6_readMinmax := ⟨⟨pm_G_in 5092 _ rfl, pm_G_in 1008 _ rfl, by decide⟩, ⟨by decide, by decide, by decide +kernel⟩, fun h => absurd h (by decide), fun _ => pm_G_in 5091 _ rfl, fun _ => pm_G_in 68 _ rfl, fun h => absurd h (by decide)⟩
set_option maxRecDepth 100000 in
theorem dk_X6_readTrack : pm_dcl mX6_readTrack = true := by decide +kernel
set_option maxRecDepth 100000 in
theorem ck_X6_readTrack : pm_ckl mX6_readTrack [0, 5037, 5041, 0, 0, 5060, 0, 0, 0, 0, 0, 4122, 0, 0, 4123, 0, 0, 4121, 4124, 0, 0, 4121, 4125, 0, 5037, 0, 0, 0, 0, 0, 0, 4116, 0, 0, 4116, 0, 0, 4122, 0, 0, 4123, 0, 0, 5052, 0, 0, 5033, 0, 0, 5075, 0, 0, 4116, 0, 4117, 0, 0, 5081, 0, 0, 5087, 5084, 0, 0, 5088, 5084, 0, 0, 0, 0, 5047, 5084, 0, 0, 0, 0, 0, 0, 0, 0, 0, 0, 0, 0, 0, 0, 0, 4118, 0, 0, 4122, 0, 0, 4123, 0, 0, 0, 0, 0, 0, 0, 0, 0, 0, 4122, 0, 0, 4123, 0, 0, 0, 5088, 0, 0, 0, 5089, 0, 0, 5087, 0, 0, 0, 0, 5052, 0, 0, 5060, 0, 0, 0, 0, 0, 4122, 0, 0, 4123, 0, 0, 4121, 4125, 0, 0, 5052, 0, 0, 0, 4118, 0, 0] = true := by decide +kernel
set_option maxRecDepth 100000 in
theorem mk_X6_readTrack : pm_mok pm_Ts mX6_readTrack := ⟨⟨pm_G_in 5059 _ rfl, pm_G_in 1008 _ rfl, by decide⟩, ⟨by decide, by decide, by decide +kernel⟩, fun h => absurd h (by decide), fun _ => pm_G_in 5058 _ rfl, fun _ => pm_G_in 64 _ rfl, fun h => absurd h (by decide)⟩
set_option maxRecDepth 100000 in
theorem dk_X6_keep : pm_dcl mX6_keep = true := by decide +kernel
set_option maxRecDepth 100000 in
theorem ck_X6_keep : pm_ckl mX6_keep [0, 0, 4119, 0, 0, 0, 4112, 0, 0, 4122, 0, 0, 4113, 0, 0, 4123, 0, 0, 4114, 0, 0, 4124, 0, 0, 4115, 0, 0, 4125, 0, 0, 0, 4119, 0, 0, 4119, 0] = true := by decide +kernel
set_option maxRecDepth 100000 in
theorem mk_X6_keep : pm_mok pm_Ts mX6_keep := ⟨⟨pm_G_in 5100 _ rfl, pm_G_in 1008 _ rfl, by decide⟩, ⟨by decide, by decide, by decide +kernel⟩, fun h => absurd h (by decide), fun _ => pm_G_in 5099 _ rfl, fun _ => pm_G_in 70 _ rfl, fun h => absurd h (by decide)⟩
set_option maxRecDepth 100000 in
theorem dk_X6_isRepeat : pm_dcl mX6_isRepeat = true := by decide +kernel
set_option maxRecDepth 100000 in
theorem ck_X6_isRepeat : pm_ckl mX6_isRepeat [0, 4116, 0, 0, 5033, 0, 0, 5047, 0, 0, 0, 4116, 0, 4117, 0, 0, 0, 0, 0, 0, 0, 0, 0, 4116, 0, 0] = true := by decide +kernel
set_option maxRecDepth 100000 in
theorem mk_X6_isRepeat : pm_mok pm_Ts mX6_isRepeat := ⟨⟨pm_G_in 5032 _ rfl, pm_G_in 1008 _ rfl, by decide⟩, ⟨by decide, by decide, by decide +kernel⟩, fun h => absurd h (by decide), fun _ => pm_G_in 5031 _ rfl, fun _ => pm_G_in 59 _ rfl, fun h => absurd h (by decide)⟩
set_option maxRecDepth 100000 in
theorem dk_X6_readRepeat : pm_dcl mX6_readRepeat = true := by decide +kernel
set_option maxRecDepth 100000 in
theorem ck_X6_readRepeat : pm_ckl mX6_readRepeat [0, 0, 5052, 0, 0, 0, 0, 5037, 0, 0, 0, 0, 4116, 0, 4117, 0, 0, 0, 0, 0, 0, 0, 0, 4119, 0, 0, 0, 0, 0, 0, 4116, 0, 4117, 0, 0, 0, 0, 4118, 0, 0, 0, 0, 4116, 0, 0, 4116, 0, 0, 5052, 0, 0, 0, 0, 4119, 0, 0, 0, 0, 0, 0, 0, 5056, 0, 0, 0, 0, 5097, 0, 5037, 0, 0, 0, 0, 0, 0, 0, 0, 0, 0, 4116, 0, 0, 4116, 0, 0, 0, 4119, 0, 0, 0, 0, 0, 0, 0, 0, 0, 0, 4118, 0, 0, 0, 0, 5052, 0, 0, 0, 0, 4119, 0, 0, 0, 0, 0, 0, 0, 0, 0, 0, 0, 0, 0, 0, 0, 0, 0, 4112, 0, 0, 4112, 0, 0, 0, 0, 0, 0, 4113, 0, 0, 4113, 0, 0, 0, 0, 0, 0, 4114, 0, 0, 4114, 0, 0, 0, 0, 0, 0, 4115, 0, 0, 4115, 0, 0, 0, 0, 0, 0, 0, 0, 0, 0, 0, 0, 0, 4119, 0, 0] = true := by decide +kernel
set_option maxRecDepth 100000 in
theorem mk_X6_readRepeat : pm_mok pm_Ts mX6_readRepeat := ⟨⟨pm_G_in 5051 _ rfl, pm_G_in 1008 _ rfl, by decide⟩, ⟨by decide, by decide, by decide +kernel⟩, fun h => absurd h (by decide), fun _ => pm_G_in 5050 _ rfl, fun _ => pm_G_in 62 _ rfl, fun h => absurd h (by decide)⟩
