/-! ===== THE PROGRAM IS WHAT THE TABLES SAY (written by wip/whole/gen_tab.py) ===== -/
set_option maxRecDepth 100000 in
theorem dk_X6_reads : pm_dcl mX6_reads = true := by decide +kernel
set_option maxRecDepth 100000 in
theorem ck_X6_reads : pm_ckl mX6_reads [0, 0, 4116, 0, 0, 4117, 0, 0, 4119, 0, 0, 0, 0, 0, 0, 4118, 0, 5029, 0, 0, 5048, 0, 0, 4118, 0, 0, 0, 5056, 0, 0, 4118, 0, 0, 5097, 0, 4116, 0, 4117, 0, 0, 0, 0, 5037, 0, 0, 0, 4119, 0, 0, 0, 0, 0, 0, 4116, 0, 0, 4116, 0, 4116, 0, 4117, 0, 0, 0] = true := by decide +kernel
set_option maxRecDepth 100000 in
theorem mk_X6_reads : pm_mok pm_Ts mX6_reads := ⟨⟨pm_G_in 5028 _ rfl, pm_G_in 1008 _ rfl, by decide⟩, ⟨by decide, by decide, by decide +kernel⟩, fun h => absurd h (by decide), fun _ => pm_G_in 5027 _ rfl, fun _ => pm_G_in 58 _ rfl, fun h => absurd h (by decide)⟩
set_option maxRecDepth 100000 in
theorem dk_X6_template : pm_dcl mX6_template = true := by decide +kernel
set_option maxRecDepth 100000 in
theorem ck_X6_template : pm_ckl mX6_template [0, 0, 5018, 0, 0, 0, 0, 0, 5021, 0, 0, 0, 0, 4108, 0, 0, 0, 4108, 0, 0, 5025, 0, 0, 0, 0, 0, 0, 0, 0, 0, 0, 0, 5025, 0, 0, 0, 0, 0, 4110, 0, 0, 4107, 0, 0, 0, 0, 0, 0, 4119, 0, 0, 4112, 0, 0, 0, 0, 0, 0, 4112, 0, 0, 0, 0, 0, 0, 4113, 0, 0, 0, 0, 0, 0, 4113, 0, 0, 0, 0, 0, 0, 4114, 0, 0, 0, 0, 0, 0, 4114, 0, 0, 0, 0, 0, 0, 4115, 0, 0, 0, 0, 0, 0, 4115, 0, 0, 0, 0, 0, 0, 0, 0, 4111, 0, 0, 4119, 0, 0, 4119, 0] = true := by decide +kernel
set_option maxRecDepth 100000 in
theorem mk_X6_template : pm_mok pm_Ts mX6_template := ⟨⟨pm_G_in 5017 _ rfl, pm_G_in 1008 _ rfl, by decide⟩, ⟨by decide, by decide, by decide +kernel⟩, fun h => absurd h (by decide), fun _ => pm_G_in 5015 _ rfl, fun _ => pm_G_in 5016 _ rfl, fun h => absurd h (by decide)⟩
set_option maxRecDepth 100000 in
theorem dk_X6_place : pm_dcl mX6_place = true := by decide +kernel
set_option maxRecDepth 100000 in
theorem ck_X6_place : pm_ckl mX6_place [0, 0, 4107, 0, 4110, 0] = true := by decide +kernel
set_option maxRecDepth 100000 in
theorem mk_X6_place : pm_mok pm_Ts mX6_place := ⟨⟨pm_G_in 5104 _ rfl, pm_G_in 1008 _ rfl, by decide⟩, ⟨by decide, by decide, by decide +kernel⟩, fun h => absurd h (by decide), fun _ => pm_G_in 5102 _ rfl, fun _ => pm_G_in 5103 _ rfl, fun h => absurd h (by decide)⟩
set_option maxRecDepth 100000 in
theorem dk_X6_isBad : pm_dcl mX6_isBad = true := by decide +kernel
set_option maxRecDepth 100000 in
theorem ck_X6_isBad : pm_ckl mX6_isBad [0, 0, 0, 5112, 0, 0, 0, 0, 5112, 0, 0, 0, 0, 0, 0, 0, 0, 0, 0] = true := by decide +kernel
set_option maxRecDepth 100000 in
theorem mk_X6_isBad : pm_mok pm_Ts mX6_isBad := ⟨⟨pm_G_in 5111 _ rfl, pm_G_in 1008 _ rfl, by decide⟩, ⟨by decide, by decide, by decide +kernel⟩, fun _ => pm_G_in 5110 _ rfl, fun h => absurd rfl h, fun h => absurd h (by decide), fun h => absurd h (by decide)⟩
set_option maxRecDepth 100000 in
theorem dk_X6_item : pm_dcl mX6_item = true := by decide +kernel
set_option maxRecDepth 100000 in
theorem ck_X6_item : pm_ckl mX6_item [0, 0, 0, 5109, 0, 0, 0, 5109, 0, 0, 0, 0, 0, 4126, 0, 0, 0, 0, 0, 5021, 0, 0, 0, 0, 4127, 0, 0, 4126, 0, 0, 0, 0, 4128, 0, 0, 4126, 0, 0, 0, 0, 4127, 0, 0, 4126, 0, 0, 0, 0, 0, 0, 4128, 0, 0, 4126, 0, 0, 0, 0, 0, 0, 0, 0, 0, 0, 0, 4129, 0, 0, 4126, 0, 0, 0, 0, 0, 0, 4130, 0, 0, 4126, 0, 0, 0, 0, 0, 0, 0, 0, 0, 4126, 0, 0, 4126, 0, 4126, 0, 0, 0] = true := by decide +kernel
set_option maxRecDepth 100000 in
theorem mk_X6_item : pm_mok pm_Ts mX6_item := ⟨⟨pm_G_in 5108 _ rfl, pm_G_in 1008 _ rfl, by decide⟩, ⟨by decide, by decide, by decide +kernel⟩, fun h => absurd h (by decide), fun _ => pm_G_in 5106 _ rfl, fun _ => pm_G_in 5107 _ rfl, fun h => absurd h (by decide)⟩
set_option maxRecDepth 100000 in
theorem dk_X6_isSize : pm_dcl mX6_isSize = true := by decide +kernel
set_option maxRecDepth 100000 in
theorem ck_X6_isSize : pm_ckl mX6_isSize [0, 0, 0, 0, 0, 5122, 0, 0, 0, 0, 0, 0] = true := by decide +kernel
set_option maxRecDepth 100000 in
theorem mk_X6_isSize : pm_mok pm_Ts mX6_isSize := ⟨⟨pm_G_in 5121 _ rfl, pm_G_in 1008 _ rfl, by decide⟩, ⟨by decide, by decide, by decide +kernel⟩, fun _ => pm_G_in 5120 _ rfl, fun h => absurd rfl h, fun h => absurd h (by decide), fun h => absurd h (by decide)⟩
set_option maxRecDepth 100000 in
theorem dk_X6_need : pm_dcl mX6_need = true := by decide +kernel
set_option maxRecDepth 100000 in
theorem ck_X6_need : pm_ckl mX6_need [0, 0, 4107, 0, 0, 0, 4126, 0, 0, 5112, 0, 0, 5018, 0, 0, 5119, 0, 0, 5119, 0, 0, 0, 0, 0, 0, 0, 0, 4129, 0, 0, 0, 0, 0, 0, 0, 0, 0, 0, 0, 0, 0, 0, 4130, 0, 0, 0, 0, 0, 0, 0, 0, 0, 0, 0, 0, 0, 0, 0] = true := by decide +kernel
set_option maxRecDepth 100000 in
theorem mk_X6_need : pm_mok pm_Ts mX6_need := ⟨⟨pm_G_in 5118 _ rfl, pm_G_in 1008 _ rfl, by decide⟩, ⟨by decide, by decide, by decide +kernel⟩, fun h => absurd h (by decide), fun _ => pm_G_in 5116 _ rfl, fun _ => pm_G_in 5117 _ rfl, fun h => absurd h (by decide)⟩
set_option maxRecDepth 100000 in
theorem dk_X6_flow : pm_dcl mX6_flow = true := by decide +kernel
set_option maxRecDepth 100000 in
theorem ck_X6_flow : pm_ckl mX6_flow [0, 0, 4107, 0, 0, 0, 0, 0, 0, 4131, 0, 0, 4132, 0] = true := by decide +kernel
set_option maxRecDepth 100000 in
theorem mk_X6_flow : pm_mok pm_Ts mX6_flow := ⟨⟨pm_G_in 5126 _ rfl, pm_G_in 1008 _ rfl, by decide⟩, ⟨by decide, by decide, by decide +kernel⟩, fun h => absurd h (by decide), fun _ => pm_G_in 5124 _ rfl, fun _ => pm_G_in 5125 _ rfl, fun h => absurd h (by decide)⟩
set_option maxRecDepth 100000 in
theorem dk_X6_room : pm_dcl mX6_room = true := by decide +kernel
set_option maxRecDepth 100000 in
theorem ck_X6_room : pm_ckl mX6_room [0, 0, 4107, 0, 5018, 0, 0, 5119, 0, 0, 5119, 0, 0, 0, 0, 4133, 0, 0, 0, 0, 0, 0, 0, 0, 0, 0, 4134, 0, 0, 0, 0, 0, 0, 0, 0, 0, 0, 0] = true := by decide +kernel
set_option maxRecDepth 100000 in
theorem mk_X6_room : pm_mok pm_Ts mX6_room := ⟨⟨pm_G_in 5130 _ rfl, pm_G_in 1008 _ rfl, by decide⟩, ⟨by decide, by decide, by decide +kernel⟩, fun h => absurd h (by decide), fun _ => pm_G_in 5128 _ rfl, fun _ => pm_G_in 5129 _ rfl, fun h => absurd h (by decide)⟩
set_option maxRecDepth 100000 in
theorem dk_X6_put : pm_dcl mX6_put = true := by decide +kernel
set_option maxRecDepth 100000 in
theorem ck_X6_put : pm_ckl mX6_put [0, 0, 4107, 0, 5018, 0, 0, 0, 0, 5112, 0, 0, 0, 0, 4135, 0, 0, 0, 0, 0] = true := by decide +kernel
set_option maxRecDepth 100000 in
theorem mk_X6_put : pm_mok pm_Ts mX6_put := ⟨⟨pm_G_in 5134 _ rfl, pm_G_in 1008 _ rfl, by decide⟩, ⟨by decide, by decide, by decide +kernel⟩, fun h => absurd h (by decide), fun _ => pm_G_in 5132 _ rfl, fun _ => pm_G_in 5133 _ rfl, fun h => absurd h (by decide)⟩
set_option maxRecDepth 100000 in
theorem dk_X6_counts : pm_dcl mX6_counts = true := by decide +kernel
set_option maxRecDepth 100000 in
theorem ck_X6_counts : pm_ckl mX6_counts [0, 0, 4131, 0, 0, 0, 0, 4111, 0, 0, 0, 0, 0, 4111, 0, 0, 0, 0, 4147, 0, 0, 0, 0, 4126, 0, 0, 4127, 0, 0, 0, 0, 0, 0, 0, 0, 0, 0, 0, 4128, 0, 0, 0, 0, 0, 0, 0, 0, 0, 0, 0, 4128, 0, 0, 0, 0, 0, 0, 0, 0, 0, 0, 4147, 0, 0, 0, 0, 4147, 4147, 0, 0, 0] = true := by decide +kernel
set_option maxRecDepth 100000 in
theorem mk_X6_counts : pm_mok pm_Ts mX6_counts := ⟨⟨pm_G_in 5146 _ rfl, pm_G_in 1008 _ rfl, by decide⟩, ⟨by decide, by decide, by decide +kernel⟩, fun h => absurd h (by decide), fun _ => pm_G_in 5145 _ rfl, fun _ => pm_G_in 72 _ rfl, fun h => absurd h (by decide)⟩
set_option maxRecDepth 100000 in
theorem dk_X6_isFree : pm_dcl mX6_isFree = true := by decide +kernel
set_option maxRecDepth 100000 in
theorem ck_X6_isFree : pm_ckl mX6_isFree [0, 4128, 0, 0, 0, 0, 4131, 0, 0, 0, 0, 4128, 0, 0, 0, 0, 0, 0, 4131, 0, 0, 0, 0, 0, 0, 0, 0, 0, 4147, 0, 0, 0, 0, 0, 0, 0, 0, 0, 0, 0, 0, 0, 0, 0, 0, 0, 0, 0, 0, 0, 0, 0, 0, 0, 4146, 0, 0, 0, 0, 0, 0, 0, 0, 0, 0, 0, 0, 0, 0, 0, 0, 0, 0, 0] = true := by decide +kernel
set_option maxRecDepth 100000 in
theorem mk_X6_isFree : pm_mok pm_Ts mX6_isFree := ⟨⟨pm_G_in 5166 _ rfl, pm_G_in 1008 _ rfl, by decide⟩, ⟨by decide, by decide, by decide +kernel⟩, fun h => absurd h (by decide), fun _ => pm_G_in 5165 _ rfl, fun _ => pm_G_in 77 _ rfl, fun h => absurd h (by decide)⟩
set_option maxRecDepth 100000 in
theorem dk_X6_stand : pm_dcl mX6_stand = true := by decide +kernel
set_option maxRecDepth 100000 in
theorem ck_X6_stand : pm_ckl mX6_stand [0, 4138, 0, 0, 0, 0, 4131, 0, 0, 0, 0, 4138, 0, 0, 0, 0, 0, 0, 4131, 0, 0, 0, 0, 0, 0, 0, 0, 4128, 0, 0, 0, 0, 4131, 0, 0, 0, 0, 0, 0, 0, 0, 0, 4128, 0, 0, 0, 0, 0, 0, 4131, 0, 0, 0, 0, 0, 4146, 0, 0, 0, 0, 0, 0, 0, 0, 0, 0, 0, 0, 0, 0, 0, 0] = true := by decide +kernel
set_option maxRecDepth 100000 in
theorem mk_X6_stand : pm_mok pm_Ts mX6_stand := ⟨⟨pm_G_in 5158 _ rfl, pm_G_in 1008 _ rfl, by decide⟩, ⟨by decide, by decide, by decide +kernel⟩, fun h => absurd h (by decide), fun _ => pm_G_in 5157 _ rfl, fun _ => pm_G_in 75 _ rfl, fun h => absurd h (by decide)⟩
set_option maxRecDepth 100000 in
theorem dk_X6_mainStart : pm_dcl mX6_mainStart = true := by decide +kernel
set_option maxRecDepth 100000 in
theorem ck_X6_mainStart : pm_ckl mX6_mainStart [0, 4127, 0, 0, 0, 0, 4131, 0, 0, 0] = true := by decide +kernel
set_option maxRecDepth 100000 in
theorem mk_X6_mainStart : pm_mok pm_Ts mX6_mainStart := ⟨⟨pm_G_in 5150 _ rfl, pm_G_in 1008 _ rfl, by decide⟩, ⟨by decide, by decide, by decide +kernel⟩, fun h => absurd h (by decide), fun _ => pm_G_in 5149 _ rfl, fun _ => pm_G_in 73 _ rfl, fun h => absurd h (by decide)⟩
set_option maxRecDepth 100000 in
theorem dk_X6_otherStart : pm_dcl mX6_otherStart = true := by decide +kernel
set_option maxRecDepth 100000 in
theorem ck_X6_otherStart : pm_ckl mX6_otherStart [0, 4127, 0, 0, 0, 0, 0, 0, 4131, 0, 0, 0] = true := by decide +kernel
set_option maxRecDepth 100000 in
theorem mk_X6_otherStart : pm_mok pm_Ts mX6_otherStart := ⟨⟨pm_G_in 5154 _ rfl, pm_G_in 1008 _ rfl, by decide⟩, ⟨by decide, by decide, by decide +kernel⟩, fun h => absurd h (by decide), fun _ => pm_G_in 5153 _ rfl, fun _ => pm_G_in 74 _ rfl, fun h => absurd h (by decide)⟩
set_option maxRecDepth 100000 in
theorem dk_X6_inLine : pm_dcl mX6_inLine = true := by decide +kernel
set_option maxRecDepth 100000 in
theorem ck_X6_inLine : pm_ckl mX6_inLine [0, 0, 0, 0, 0, 0, 0, 0, 0, 5147, 0, 0, 5147, 0, 0, 0, 5151, 0, 0, 4138, 0, 0, 0, 0, 0, 0, 0, 0, 0, 0, 0, 0, 4132, 0, 0, 4138, 0, 0, 0, 0, 0, 0, 4131, 0, 0, 0, 4128, 0, 0, 0, 0, 0, 0, 4131, 0, 0, 0, 0, 0, 0, 0, 0, 0, 0, 4147, 0, 0, 0, 0, 0, 5147, 0, 5163, 0, 0, 0, 0, 0, 5147, 0, 5155, 0, 0, 0, 0] = true := by decide +kernel
set_option maxRecDepth 100000 in
theorem mk_X6_inLine : pm_mok pm_Ts mX6_inLine := ⟨⟨pm_G_in 5162 _ rfl, pm_G_in 1008 _ rfl, by decide⟩, ⟨by decide, by decide, by decide +kernel⟩, fun h => absurd h (by decide), fun _ => pm_G_in 5161 _ rfl, fun _ => pm_G_in 76 _ rfl, fun h => absurd h (by decide)⟩
set_option maxRecDepth 100000 in
theorem dk_X6_byItself : pm_dcl mX6_byItself = true := by decide +kernel
set_option maxRecDepth 100000 in
theorem ck_X6_byItself : pm_ckl mX6_byItself [0, 4132, 0, 0, 0, 4148, 0, 0, 4149, 0, 0, 5151, 0, 0, 4148, 0, 0, 4149, 0, 0, 0, 0, 0, 0, 0, 0, 0, 0, 0, 0, 0, 0, 0, 0, 5163, 0, 0, 0, 0, 0, 0, 0, 0, 0, 0, 5163, 0, 0, 0, 0, 4147, 0, 0, 0, 0, 0, 0, 0, 0, 0, 0, 0, 0, 0, 5155, 0, 0, 4148, 0, 0, 4149, 0] = true := by decide +kernel
set_option maxRecDepth 100000 in
theorem mk_X6_byItself : pm_mok pm_Ts mX6_byItself := ⟨⟨pm_G_in 5170 _ rfl, pm_G_in 1008 _ rfl, by decide⟩, ⟨by decide, by decide, by decide +kernel⟩, fun h => absurd h (by decide), fun _ => pm_G_in 5169 _ rfl, fun _ => pm_G_in 78 _ rfl, fun h => absurd h (by decide)⟩
set_option maxRecDepth 100000 in
theorem dk_X6_places : pm_dcl mX6_places = true := by decide +kernel
set_option maxRecDepth 100000 in
theorem ck_X6_places : pm_ckl mX6_places [0, 5143, 0, 0, 0, 0, 0, 0, 4146, 0, 0, 0, 0, 0, 0, 0, 0, 0, 0, 0, 4138, 0, 0, 0, 0, 0, 0, 0, 4148, 0, 0, 4149, 0, 0, 0, 0, 4126, 0, 0, 0, 5147, 0, 0, 0, 5151, 0, 0, 0, 0, 0, 5147, 0, 0, 5151, 5155, 0, 0, 0, 0, 0, 0, 4126, 0, 0, 0, 5147, 0, 0, 0, 5151, 0, 0, 0, 5159, 0, 0, 0, 0, 0, 0, 4126, 0, 0, 0, 5147, 0, 0, 0, 5167, 0, 0, 0, 0, 0, 0, 0, 0, 0, 4131, 0, 0, 4111, 0, 0, 0, 4147, 0, 0, 4111, 0, 0, 0, 0, 4147, 0, 0, 0, 0, 0, 4126, 0, 0, 4138, 0, 0, 0, 0, 0, 0, 0, 0, 4138, 0, 0, 0, 0, 0, 0, 0, 4128, 0, 0, 0, 0, 0, 0, 0, 0, 0, 0, 0, 0, 0, 0, 0, 0, 0, 0, 0, 0, 0, 0, 4140, 0, 0, 0, 0, 0, 0] = true := by decide +kernel
set_option maxRecDepth 100000 in
theorem mk_X6_places : pm_mok pm_Ts mX6_places := ⟨⟨pm_G_in 5142 _ rfl, pm_G_in 1008 _ rfl, by decide⟩, ⟨by decide, by decide, by decide +kernel⟩, fun h => absurd h (by decide), fun _ => pm_G_in 5141 _ rfl, fun _ => pm_G_in 71 _ rfl, fun h => absurd h (by decide)⟩
set_option maxRecDepth 100000 in
theorem dk_X6_lowOf : pm_dcl mX6_lowOf = true := by decide +kernel
set_option maxRecDepth 100000 in
theorem ck_X6_lowOf : pm_ckl mX6_lowOf [0, 0, 4111, 0, 0, 0, 0, 4112, 0, 0, 0, 0, 0, 0, 0, 0, 0] = true := by decide +kernel
set_option maxRecDepth 100000 in
theorem mk_X6_lowOf : pm_mok pm_Ts mX6_lowOf := ⟨⟨pm_G_in 5186 _ rfl, pm_G_in 1008 _ rfl, by decide⟩, ⟨by decide, by decide, by decide +kernel⟩, fun h => absurd h (by decide), fun _ => pm_G_in 5185 _ rfl, fun _ => pm_G_in 82 _ rfl, fun h => absurd h (by decide)⟩
set_option maxRecDepth 100000 in
theorem dk_X6_highOf : pm_dcl mX6_highOf = true := by decide +kernel
set_option maxRecDepth 100000 in
theorem ck_X6_highOf : pm_ckl mX6_highOf [0, 0, 4111, 0, 0, 0, 0, 4113, 0, 0, 0, 0, 0, 0, 0, 0, 0] = true := by decide +kernel
set_option maxRecDepth 100000 in
theorem mk_X6_highOf : pm_mok pm_Ts mX6_highOf := ⟨⟨pm_G_in 5182 _ rfl, pm_G_in 1008 _ rfl, by decide⟩, ⟨by decide, by decide, by decide +kernel⟩, fun h => absurd h (by decide), fun _ => pm_G_in 5181 _ rfl, fun _ => pm_G_in 81 _ rfl, fun h => absurd h (by decide)⟩
set_option maxRecDepth 100000 in
theorem dk_X6_raise : pm_dcl mX6_raise = true := by decide +kernel
set_option maxRecDepth 100000 in
theorem ck_X6_raise : pm_ckl mX6_raise [0, 4143, 0, 0, 0, 0, 4142, 0, 0, 0, 4141, 0, 0, 0, 0, 0, 4142, 0, 0, 4141, 0, 0, 0, 0] = true := by decide +kernel
set_option maxRecDepth 100000 in
theorem mk_X6_raise : pm_mok pm_Ts mX6_raise := ⟨⟨pm_G_in 5190 _ rfl, pm_G_in 1008 _ rfl, by decide⟩, ⟨by decide, by decide, by decide +kernel⟩, fun h => absurd h (by decide), fun _ => pm_G_in 5189 _ rfl, fun _ => pm_G_in 83 _ rfl, fun h => absurd h (by decide)⟩
set_option maxRecDepth 100000 in
theorem dk_X6_begin : pm_dcl mX6_begin = true := by decide +kernel
set_option maxRecDepth 100000 in
theorem ck_X6_begin : pm_ckl mX6_begin [0, 0, 0, 0, 4140, 0, 0, 0, 0, 0, 0, 0, 0, 0, 0, 0, 0, 5179, 0, 0, 4141, 0, 0, 0, 0, 5183, 0, 0, 4114, 0, 0, 0, 0, 0, 0, 4143, 0, 0, 0, 0, 0, 0, 0, 0, 0, 0, 0, 4142, 0, 0, 0, 0, 4115, 0, 0, 0, 0, 0, 0, 0, 4141, 0, 0, 0, 0, 0, 0, 0, 5187, 0, 0, 0] = true := by decide +kernel
set_option maxRecDepth 100000 in
theorem mk_X6_begin : pm_mok pm_Ts mX6_begin := ⟨⟨pm_G_in 5178 _ rfl, pm_G_in 1008 _ rfl, by decide⟩, ⟨by decide, by decide, by decide +kernel⟩, fun h => absurd h (by decide), fun _ => pm_G_in 5177 _ rfl, fun _ => pm_G_in 80 _ rfl, fun h => absurd h (by decide)⟩
set_option maxRecDepth 100000 in
theorem dk_X6_single : pm_dcl mX6_single = true := by decide +kernel
set_option maxRecDepth 100000 in
theorem ck_X6_single : pm_ckl mX6_single [0, 4138, 0, 0, 0, 0, 0, 0, 0, 0, 0, 0, 0, 0, 0, 0, 0, 0, 4129, 0, 0, 0, 0, 0, 0, 0, 0, 4130, 0, 0, 0, 0, 0, 0, 0, 0, 0, 0, 5183, 0, 0, 0, 0, 0, 0, 0, 0, 4141, 0, 0, 0, 0, 0, 0, 4141, 0, 0, 0, 0, 0, 0, 0, 4141, 0, 0, 0, 0, 0, 0, 4141, 0, 0, 0, 0, 0, 0, 5179, 0, 0, 0, 0, 0, 0, 0, 0, 0, 0, 0, 0, 0, 0, 0, 0, 4115, 0, 0, 0, 0, 0, 4115, 0, 0, 0, 0, 0, 0, 4143, 0, 0, 0, 0, 0, 0, 4142, 0, 0, 0, 0, 4142, 0, 0, 0, 0, 0, 0, 0, 0, 0, 0, 4143, 0, 0, 0, 0, 0, 5187, 0] = true := by decide +kernel
set_option maxRecDepth 100000 in
theorem mk_X6_single : pm_mok pm_Ts mX6_single := ⟨⟨pm_G_in 5198 _ rfl, pm_G_in 1008 _ rfl, by decide⟩, ⟨by decide, by decide, by decide +kernel⟩, fun h => absurd h (by decide), fun _ => pm_G_in 5197 _ rfl, fun _ => pm_G_in 85 _ rfl, fun h => absurd h (by decide)⟩
set_option maxRecDepth 100000 in
theorem dk_X6_firstOf : pm_dcl mX6_firstOf = true := by decide +kernel
set_option maxRecDepth 100000 in
theorem ck_X6_firstOf : pm_ckl mX6_firstOf [0, 4138, 0, 0, 0, 0, 0, 0, 0, 0, 0] = true := by decide +kernel
set_option maxRecDepth 100000 in
theorem mk_X6_firstOf : pm_mok pm_Ts mX6_firstOf := ⟨⟨pm_G_in 5206 _ rfl, pm_G_in 1008 _ rfl, by decide⟩, ⟨by decide, by decide, by decide +kernel⟩, fun h => absurd h (by decide), fun _ => pm_G_in 5205 _ rfl, fun _ => pm_G_in 87 _ rfl, fun h => absurd h (by decide)⟩
set_option maxRecDepth 100000 in
theorem dk_X6_spread : pm_dcl mX6_spread = true := by decide +kernel
set_option maxRecDepth 100000 in
theorem ck_X6_spread : pm_ckl mX6_spread [0, 0, 0, 5203, 0, 0, 4128, 0, 0, 0, 0, 0, 0, 0, 0, 0, 0, 0, 0, 0, 0, 0, 0, 0, 0, 0, 0, 0, 0, 0, 0, 0, 0, 0, 0, 4143, 0, 0, 0, 0, 4142, 0, 0, 0, 0, 4141, 0, 0, 0, 0, 0, 0, 4150, 0, 0, 0, 0, 0, 0, 0, 0, 0, 0, 0, 0, 0, 0, 0, 0, 0, 4134, 0, 0, 0, 0, 0, 0, 0, 0, 0, 0, 0, 0, 0, 0, 0, 0, 0, 0, 0, 0, 0, 0, 0, 0, 0, 0, 0, 0, 0, 0, 4150, 0, 0, 0, 0, 0, 0, 4142, 0, 0, 4142, 0, 0, 0, 0, 0, 0, 4150, 0, 0, 0, 0, 0, 0, 4141, 0, 0, 4141, 0, 0, 0, 0, 0, 0, 0, 0] = true := by decide +kernel
set_option maxRecDepth 100000 in
theorem mk_X6_spread : pm_mok pm_Ts mX6_spread := ⟨⟨pm_G_in 5210 _ rfl, pm_G_in 1008 _ rfl, by decide⟩, ⟨by decide, by decide, by decide +kernel⟩, fun h => absurd h (by decide), fun _ => pm_G_in 5209 _ rfl, fun _ => pm_G_in 88 _ rfl, fun h => absurd h (by decide)⟩
set_option maxRecDepth 100000 in
theorem dk_X6_needy : pm_dcl mX6_needy = true := by decide +kernel
set_option maxRecDepth 100000 in
theorem ck_X6_needy : pm_ckl mX6_needy [0, 0, 0, 5203, 0, 0, 0, 0, 0, 0, 0, 0, 4128, 0, 0, 0, 0, 0, 0, 0, 0, 0, 4150, 0, 0, 0, 0, 5183, 0, 0, 0, 0, 5179, 0, 0, 0, 0, 0, 0, 0, 0, 0, 4150, 0, 0, 0, 0, 0, 0, 0, 0, 0, 0, 0, 0, 0, 0, 0, 4129, 0, 0, 0, 0, 0, 0, 0, 5207, 0, 0, 0, 0, 0, 4128, 0, 0, 0, 0, 0, 0, 0, 0, 0, 0, 0, 0, 0, 0, 5187, 0, 0, 0] = true := by decide +kernel
set_option maxRecDepth 100000 in
theorem mk_X6_needy : pm_mok pm_Ts mX6_needy := ⟨⟨pm_G_in 5202 _ rfl, pm_G_in 1008 _ rfl, by decide⟩, ⟨by decide, by decide, by decide +kernel⟩, fun h => absurd h (by decide), fun _ => pm_G_in 5201 _ rfl, fun _ => pm_G_in 86 _ rfl, fun h => absurd h (by decide)⟩
set_option maxRecDepth 100000 in
theorem dk_X6_growing : pm_dcl mX6_growing = true := by decide +kernel
set_option maxRecDepth 100000 in
theorem ck_X6_growing : pm_ckl mX6_growing [0, 0, 0, 5203, 0, 0, 0, 0, 0, 0, 0, 0, 4128, 0, 0, 0, 0, 0, 0, 0, 0, 0, 0, 0, 5179, 0, 0, 0, 0, 0, 0, 0, 0, 4150, 0, 0, 0, 0, 0, 0, 0, 0, 0, 0, 0, 0, 0, 0, 0, 0, 0, 4150, 0, 0, 0, 0, 0, 0, 0, 0, 4150, 0, 0, 0, 0, 4143, 0, 0, 0, 0, 4143, 0, 0, 0, 0, 4142, 0, 0, 4141, 0, 0, 0, 0, 0, 0, 0, 0, 0, 0, 0, 4130, 0, 0, 0, 0, 0, 0, 0, 5207, 0] = true := by decide +kernel
set_option maxRecDepth 100000 in
theorem mk_X6_growing : pm_mok pm_Ts mX6_growing := ⟨⟨pm_G_in 5214 _ rfl, pm_G_in 1008 _ rfl, by decide⟩, ⟨by decide, by decide, by decide +kernel⟩, fun h => absurd h (by decide), fun _ => pm_G_in 5213 _ rfl, fun _ => pm_G_in 89 _ rfl, fun h => absurd h (by decide)⟩
set_option maxRecDepth 100000 in
theorem dk_X6_spans : pm_dcl mX6_spans = true := by decide +kernel
set_option maxRecDepth 100000 in
theorem ck_X6_spans : pm_ckl mX6_spans [0, 4138, 0, 0, 0, 0, 0, 0, 0, 0, 4128, 0, 0, 0, 0, 0, 0, 0, 0, 0, 0, 0, 0] = true := by decide +kernel
set_option maxRecDepth 100000 in
theorem mk_X6_spans : pm_mok pm_Ts mX6_spans := ⟨⟨pm_G_in 5194 _ rfl, pm_G_in 1008 _ rfl, by decide⟩, ⟨by decide, by decide, by decide +kernel⟩, fun h => absurd h (by decide), fun _ => pm_G_in 5193 _ rfl, fun _ => pm_G_in 84 _ rfl, fun h => absurd h (by decide)⟩
set_option maxRecDepth 100000 in
theorem dk_X6_left : pm_dcl mX6_left = true := by decide +kernel
set_option maxRecDepth 100000 in
theorem ck_X6_left : pm_ckl mX6_left [0, 4133, 0, 0, 0, 0, 0, 0, 0, 4140, 0, 0, 0, 0, 0, 4141, 0, 0, 0, 0, 0, 0, 0, 0, 0, 0, 0, 0, 0, 0, 4140, 0, 0, 0, 0, 0, 4134, 0, 0, 0, 0, 0, 0, 0, 0] = true := by decide +kernel
set_option maxRecDepth 100000 in
theorem mk_X6_left : pm_mok pm_Ts mX6_left := ⟨⟨pm_G_in 5222 _ rfl, pm_G_in 1008 _ rfl, by decide⟩, ⟨by decide, by decide, by decide +kernel⟩, fun h => absurd h (by decide), fun _ => pm_G_in 5221 _ rfl, fun _ => pm_G_in 91 _ rfl, fun h => absurd h (by decide)⟩
set_option maxRecDepth 100000 in
theorem dk_X6_grows : pm_dcl mX6_grows = true := by decide +kernel
set_option maxRecDepth 100000 in
theorem ck_X6_grows : pm_ckl mX6_grows [0, 4141, 0, 0, 0, 4142, 0, 0, 0, 0, 0, 0, 0, 0] = true := by decide +kernel
set_option maxRecDepth 100000 in
theorem mk_X6_grows : pm_mok pm_Ts mX6_grows := ⟨⟨pm_G_in 5226 _ rfl, pm_G_in 1008 _ rfl, by decide⟩, ⟨by decide, by decide, by decide +kernel⟩, fun h => absurd h (by decide), fun _ => pm_G_in 5225 _ rfl, fun _ => pm_G_in 92 _ rfl, fun h => absurd h (by decide)⟩
