/-! ===== THE PROGRAM IS WHAT THE TABLES SAY (written by wip/whole/gen_tab.py) ===== -/
set_option maxRecDepth 100000 in
theorem dk_X6_fill : pm_dcl mX6_fill = true := by decide +kernel
set_option maxRecDepth 100000 in
theorem ck_X6_fill : pm_ckl mX6_fill [0, 0, 5219, 0, 0, 0, 0, 0, 0, 0, 0, 0, 0, 0, 0, 0, 0, 0, 0, 0, 0, 0, 0, 4140, 0, 0, 0, 0, 0, 0, 0, 0, 0, 0, 5223, 0, 0, 0, 0, 0, 0, 0, 0, 0, 0, 0, 0, 0, 0, 0, 0, 0, 0, 0, 0, 0, 0, 0, 0, 0, 0, 0, 4140, 0, 0, 0, 0, 0, 0, 0, 0, 0, 0, 0, 5223, 0, 0, 4142, 0, 0, 0, 4141, 0, 0, 0, 0, 0, 0, 0, 0, 0, 0, 0, 0, 0, 0, 0, 0, 0, 0, 0, 0, 0, 4141, 0, 0, 0, 0, 4142, 0, 0, 0, 0, 4141, 0, 0, 0, 0, 0, 0, 0, 0, 0, 0] = true := by decide +kernel
set_option maxRecDepth 100000 in
theorem mk_X6_fill : pm_mok pm_Ts mX6_fill := ⟨⟨pm_G_in 5218 _ rfl, pm_G_in 1008 _ rfl, by decide⟩, ⟨by decide, by decide, by decide +kernel⟩, fun h => absurd h (by decide), fun _ => pm_G_in 5217 _ rfl, fun _ => pm_G_in 90 _ rfl, fun h => absurd h (by decide)⟩
set_option maxRecDepth 100000 in
theorem dk_X6_together : pm_dcl mX6_together = true := by decide +kernel
set_option maxRecDepth 100000 in
theorem ck_X6_together : pm_ckl mX6_together [0, 0, 0, 0, 0, 0, 4140, 0, 0, 0, 0, 0, 0, 5179, 0, 0, 0, 4151, 0, 0, 0, 0, 0, 4115, 0, 0, 0, 0, 0, 0, 0, 0, 0, 0, 0, 0, 0, 0, 0, 0, 0, 0] = true := by decide +kernel
set_option maxRecDepth 100000 in
theorem mk_X6_together : pm_mok pm_Ts mX6_together := ⟨⟨pm_G_in 5234 _ rfl, pm_G_in 1008 _ rfl, by decide⟩, ⟨by decide, by decide, by decide +kernel⟩, fun h => absurd h (by decide), fun _ => pm_G_in 5233 _ rfl, fun _ => pm_G_in 94 _ rfl, fun h => absurd h (by decide)⟩
set_option maxRecDepth 100000 in
theorem dk_X6_shares : pm_dcl mX6_shares = true := by decide +kernel
set_option maxRecDepth 100000 in
theorem ck_X6_shares : pm_ckl mX6_shares [0, 0, 0, 4133, 0, 0, 0, 0, 0, 0, 0, 4140, 0, 0, 0, 0, 0, 4134, 0, 0, 0, 0, 0, 0, 0, 0, 0, 0, 4140, 0, 0, 0, 0, 4151, 0, 0, 0, 0, 0, 0, 5179, 0, 0, 0, 0, 0, 0, 0, 0, 0, 0, 0, 0, 0, 0, 0, 0, 0, 0, 4141, 0, 0, 0, 0, 0, 0, 0, 0, 0, 0, 0, 0, 0, 0, 0, 0, 0, 0, 0, 0, 5231, 0, 0, 0, 0, 0, 0, 0, 0, 0, 0, 0, 0, 0, 0, 4140, 0, 0, 0, 0, 4150, 0, 0, 0, 0, 5179, 0, 0, 0, 4151, 0, 0, 0, 0, 4141, 0, 0, 0, 0, 0, 0, 0, 4115, 0, 0, 0, 0, 0, 0, 0, 0, 0, 0, 0, 0, 0, 0, 0, 0, 0, 4150, 0, 0, 0, 0, 0, 0, 0, 0, 0, 0, 0, 0, 0, 4140, 0, 0, 0, 0, 4150, 0, 0, 0, 0, 4151, 0, 0, 0, 0, 0, 4141, 0, 0, 0, 0, 0, 0, 0, 0, 0, 0, 0, 0, 0, 0, 0, 0, 0, 0, 0, 5231, 0, 0, 0, 0, 0, 0, 0, 0, 0, 4140, 0, 0, 0, 0, 0, 0, 5179, 0, 0, 0, 4151, 0, 0, 0, 0, 4141, 0, 0, 0, 0, 0, 0, 4115, 0, 0, 0, 0, 0, 0, 0, 0, 0, 0, 0, 0] = true := by decide +kernel
set_option maxRecDepth 100000 in
theorem mk_X6_shares : pm_mok pm_Ts mX6_shares := ⟨⟨pm_G_in 5230 _ rfl, pm_G_in 1008 _ rfl, by decide⟩, ⟨by decide, by decide, by decide +kernel⟩, fun h => absurd h (by decide), fun _ => pm_G_in 5229 _ rfl, fun _ => pm_G_in 93 _ rfl, fun h => absurd h (by decide)⟩
set_option maxRecDepth 100000 in
theorem dk_X6_stretch : pm_dcl mX6_stretch = true := by decide +kernel
set_option maxRecDepth 100000 in
theorem ck_X6_stretch : pm_ckl mX6_stretch [0, 4145, 0, 0, 0, 5219, 0, 0, 4145, 0, 0, 0, 0, 0, 0, 4135, 0, 0, 0, 0, 0, 0, 0, 0, 0, 0, 0, 4140, 0, 0, 0, 0, 0, 0, 0, 5179, 0, 0, 0, 0, 0, 0, 0, 0, 0, 0, 0, 0, 0, 4145, 0, 0, 0, 0, 0, 0, 0, 0, 0, 0, 4140, 0, 0, 0, 0, 0, 0, 5179, 0, 0, 0, 4141, 0, 0, 0, 0, 0, 0, 4141, 0, 0, 0, 0, 0, 0, 0, 0, 0, 0, 0, 0, 4145, 0, 0, 0, 5219, 0, 0] = true := by decide +kernel
set_option maxRecDepth 100000 in
theorem mk_X6_stretch : pm_mok pm_Ts mX6_stretch := ⟨⟨pm_G_in 5238 _ rfl, pm_G_in 1008 _ rfl, by decide⟩, ⟨by decide, by decide, by decide +kernel⟩, fun h => absurd h (by decide), fun _ => pm_G_in 5237 _ rfl, fun _ => pm_G_in 95 _ rfl, fun h => absurd h (by decide)⟩
set_option maxRecDepth 100000 in
theorem dk_X6_sizes : pm_dcl mX6_sizes = true := by decide +kernel
set_option maxRecDepth 100000 in
theorem ck_X6_sizes : pm_ckl mX6_sizes [0, 0, 5175, 0, 0, 0, 0, 4126, 0, 0, 0, 0, 0, 5191, 0, 0, 0, 0, 5195, 0, 0, 0, 0, 0, 0, 0, 0, 0, 0, 0, 4126, 0, 0, 0, 0, 0, 5191, 0, 0, 0, 0, 5199, 0, 0, 0, 0, 0, 0, 0, 0, 0, 0, 0, 0, 0, 4126, 0, 0, 0, 0, 0, 5191, 0, 0, 0, 0, 5211, 0, 0, 0, 0, 0, 0, 0, 0, 4140, 0, 0, 0, 0, 4143, 0, 0, 0, 0, 0, 0, 0, 0, 4142, 0, 0, 0, 0, 0, 0, 4141, 0, 0, 0, 0, 0, 0, 0, 0, 4143, 0, 0, 0, 0, 0, 0, 0, 0, 0, 0, 0, 5215, 0, 0, 5227, 0, 0, 5235, 0, 4145, 0, 0, 0, 0, 0, 0, 4145, 0, 0, 0, 0, 0, 0, 4135, 0, 0, 0, 0, 0, 0, 0, 0, 0, 4135, 0, 0, 0, 0, 0, 0, 0, 0, 0, 0, 0, 0, 4140, 0, 0, 0, 0, 4144, 0, 0, 0, 0, 0, 0, 0, 0, 0, 4141, 0, 0, 0, 0, 0, 0, 0, 0, 0, 0, 4134, 0, 0, 0, 0, 0, 0, 0, 0, 0, 0, 4126, 0, 0, 0, 0, 0, 0, 0, 4128, 0, 0, 0, 0, 0, 0, 0, 0, 4138, 0, 0, 0, 0, 0, 0, 0, 0, 0, 4141, 0, 0, 0, 0, 0, 0, 5203, 0, 0, 0, 0, 0, 0, 0, 0, 0, 0, 0, 0, 4128, 0, 0, 0, 0, 0, 0, 0, 0, 4138, 0, 0, 0, 0, 0, 0, 0, 0, 0, 4134, 0, 0, 0, 0, 0, 0, 0, 4139, 0, 0, 0, 0, 0, 0, 0, 0, 0, 0] = true := by decide +kernel
set_option maxRecDepth 100000 in
theorem mk_X6_sizes : pm_mok pm_Ts mX6_sizes := ⟨⟨pm_G_in 5174 _ rfl, pm_G_in 1008 _ rfl, by decide⟩, ⟨by decide, by decide, by decide +kernel⟩, fun h => absurd h (by decide), fun _ => pm_G_in 5173 _ rfl, fun _ => pm_G_in 79 _ rfl, fun h => absurd h (by decide)⟩
set_option maxRecDepth 100000 in
theorem dk_X6_layout : pm_dcl mX6_layout = true := by decide +kernel
set_option maxRecDepth 100000 in
theorem ck_X6_layout : pm_ckl mX6_layout [0, 0, 4107, 0, 5139, 0, 0, 5171, 0, 0, 5171, 0, 0, 4136, 0, 0, 4126, 4137, 0, 0, 0, 0, 0, 0, 4126, 0, 0, 0, 4138, 0, 0, 0, 0, 0, 0, 0, 0, 0, 0, 0, 0, 0, 0] = true := by decide +kernel
set_option maxRecDepth 100000 in
theorem mk_X6_layout : pm_mok pm_Ts mX6_layout := ⟨⟨pm_G_in 5138 _ rfl, pm_G_in 1008 _ rfl, by decide⟩, ⟨by decide, by decide, by decide +kernel⟩, fun h => absurd h (by decide), fun _ => pm_G_in 5136 _ rfl, fun _ => pm_G_in 5137 _ rfl, fun h => absurd h (by decide)⟩
set_option maxRecDepth 100000 in
theorem dk_X6_tracks : pm_dcl mX6_tracks = true := by decide +kernel
set_option maxRecDepth 100000 in
theorem ck_X6_tracks : pm_ckl mX6_tracks [0, 0, 4107, 0, 5018, 0, 0, 4136, 0, 0, 0, 0, 4140, 0, 0, 0] = true := by decide +kernel
set_option maxRecDepth 100000 in
theorem mk_X6_tracks : pm_mok pm_Ts mX6_tracks := ⟨⟨pm_G_in 6002 _ rfl, pm_G_in 1008 _ rfl, by decide⟩, ⟨by decide, by decide, by decide +kernel⟩, fun h => absurd h (by decide), fun _ => pm_G_in 6000 _ rfl, fun _ => pm_G_in 6001 _ rfl, fun h => absurd h (by decide)⟩
set_option maxRecDepth 100000 in
theorem dk_X6_isTrack : pm_dcl mX6_isTrack = true := by decide +kernel
set_option maxRecDepth 100000 in
theorem ck_X6_isTrack : pm_ckl mX6_isTrack [0, 5018, 0, 0, 4136, 0, 0, 0, 0, 0, 4140, 0, 0, 0, 0, 0, 0, 0] = true := by decide +kernel
set_option maxRecDepth 100000 in
theorem mk_X6_isTrack : pm_mok pm_Ts mX6_isTrack := ⟨⟨pm_G_in 6010 _ rfl, pm_G_in 1008 _ rfl, by decide⟩, ⟨by decide, by decide, by decide +kernel⟩, fun h => absurd h (by decide), fun _ => pm_G_in 6009 _ rfl, fun _ => pm_G_in 96 _ rfl, fun h => absurd h (by decide)⟩
set_option maxRecDepth 100000 in
theorem dk_X6_size : pm_dcl mX6_size = true := by decide +kernel
set_option maxRecDepth 100000 in
theorem ck_X6_size : pm_ckl mX6_size [0, 0, 0, 0, 6007, 0, 0, 0, 0, 0, 5021, 0, 0, 0, 0, 4141, 0, 0, 0, 0, 0, 0, 0] = true := by decide +kernel
set_option maxRecDepth 100000 in
theorem mk_X6_size : pm_mok pm_Ts mX6_size := ⟨⟨pm_G_in 6006 _ rfl, pm_G_in 1008 _ rfl, by decide⟩, ⟨by decide, by decide, by decide +kernel⟩, fun h => absurd h (by decide), fun _ => pm_G_in 6004 _ rfl, fun _ => pm_G_in 6005 _ rfl, fun h => absurd h (by decide)⟩
set_option maxRecDepth 100000 in
theorem dk_X6_at : pm_dcl mX6_at = true := by decide +kernel
set_option maxRecDepth 100000 in
theorem ck_X6_at : pm_ckl mX6_at [0, 0, 0, 0, 6007, 0, 0, 0, 0, 0, 5021, 0, 0, 0, 0, 4144, 0, 0, 0, 0, 0, 0, 0] = true := by decide +kernel
set_option maxRecDepth 100000 in
theorem mk_X6_at : pm_mok pm_Ts mX6_at := ⟨⟨pm_G_in 6014 _ rfl, pm_G_in 1008 _ rfl, by decide⟩, ⟨by decide, by decide, by decide +kernel⟩, fun h => absurd h (by decide), fun _ => pm_G_in 6012 _ rfl, fun _ => pm_G_in 6013 _ rfl, fun h => absurd h (by decide)⟩
set_option maxRecDepth 100000 in
theorem dk_X6_lineOf : pm_dcl mX6_lineOf = true := by decide +kernel
set_option maxRecDepth 100000 in
theorem ck_X6_lineOf : pm_ckl mX6_lineOf [0, 0, 0, 0, 4137, 0, 0, 5018, 0, 0, 0, 0, 4138, 0, 0, 0, 0, 0, 0, 0] = true := by decide +kernel
set_option maxRecDepth 100000 in
theorem mk_X6_lineOf : pm_mok pm_Ts mX6_lineOf := ⟨⟨pm_G_in 6022 _ rfl, pm_G_in 1008 _ rfl, by decide⟩, ⟨by decide, by decide, by decide +kernel⟩, fun h => absurd h (by decide), fun _ => pm_G_in 6021 _ rfl, fun _ => pm_G_in 97 _ rfl, fun h => absurd h (by decide)⟩
set_option maxRecDepth 100000 in
theorem dk_X6_line : pm_dcl mX6_line = true := by decide +kernel
set_option maxRecDepth 100000 in
theorem ck_X6_line : pm_ckl mX6_line [0, 0, 4107, 0, 0, 0, 6019, 0] = true := by decide +kernel
set_option maxRecDepth 100000 in
theorem mk_X6_line : pm_mok pm_Ts mX6_line := ⟨⟨pm_G_in 6018 _ rfl, pm_G_in 1008 _ rfl, by decide⟩, ⟨by decide, by decide, by decide +kernel⟩, fun h => absurd h (by decide), fun _ => pm_G_in 6016 _ rfl, fun _ => pm_G_in 6017 _ rfl, fun h => absurd h (by decide)⟩
set_option maxRecDepth 100000 in
theorem dk_X6_extent : pm_dcl mX6_extent = true := by decide +kernel
set_option maxRecDepth 100000 in
theorem ck_X6_extent : pm_ckl mX6_extent [0, 0, 0, 0, 6019, 0, 0, 0, 0, 0, 5021, 0, 0, 0, 0, 4139, 0, 0, 0, 0, 0, 0, 0] = true := by decide +kernel
set_option maxRecDepth 100000 in
theorem mk_X6_extent : pm_mok pm_Ts mX6_extent := ⟨⟨pm_G_in 6026 _ rfl, pm_G_in 1008 _ rfl, by decide⟩, ⟨by decide, by decide, by decide +kernel⟩, fun h => absurd h (by decide), fun _ => pm_G_in 6024 _ rfl, fun _ => pm_G_in 6025 _ rfl, fun h => absurd h (by decide)⟩
set_option maxRecDepth 100000 in
theorem dk_X6_covers : pm_dcl mX6_covers = true := by decide +kernel
set_option maxRecDepth 100000 in
theorem ck_X6_covers : pm_ckl mX6_covers [0, 4144, 0, 0, 0, 0, 0, 0, 5203, 0, 0, 0, 0, 0, 0, 0, 0, 0, 0, 4139, 0, 0, 0, 0, 0, 0, 0, 0, 0, 0, 0, 0, 0] = true := by decide +kernel
set_option maxRecDepth 100000 in
theorem mk_X6_covers : pm_mok pm_Ts mX6_covers := ⟨⟨pm_G_in 6034 _ rfl, pm_G_in 1008 _ rfl, by decide⟩, ⟨by decide, by decide, by decide +kernel⟩, fun h => absurd h (by decide), fun _ => pm_G_in 6033 _ rfl, fun _ => pm_G_in 98 _ rfl, fun h => absurd h (by decide)⟩
set_option maxRecDepth 100000 in
theorem dk_X6_hit : pm_dcl mX6_hit = true := by decide +kernel
set_option maxRecDepth 100000 in
theorem ck_X6_hit : pm_ckl mX6_hit [0, 0, 4107, 0, 0, 0, 0, 4137, 0, 0, 4138, 0, 0, 0, 0, 0, 0, 0, 0, 0, 6031, 0, 0, 0, 0, 0, 6031, 0, 0, 0, 0, 0, 0, 0] = true := by decide +kernel
set_option maxRecDepth 100000 in
theorem mk_X6_hit : pm_mok pm_Ts mX6_hit := ⟨⟨pm_G_in 6030 _ rfl, pm_G_in 1008 _ rfl, by decide⟩, ⟨by decide, by decide, by decide +kernel⟩, fun h => absurd h (by decide), fun _ => pm_G_in 6028 _ rfl, fun _ => pm_G_in 6029 _ rfl, fun h => absurd h (by decide)⟩
set_option maxRecDepth 100000 in
theorem dk_X6_free : pm_dcl mX6_free = true := by decide +kernel
set_option maxRecDepth 100000 in
theorem ck_X6_free : pm_ckl mX6_free [0, 0, 4107, 0, 5018, 0, 0, 4136, 0, 0, 0, 0, 4145, 0, 0, 0] = true := by decide +kernel
set_option maxRecDepth 100000 in
theorem mk_X6_free : pm_mok pm_Ts mX6_free := ⟨⟨pm_G_in 6038 _ rfl, pm_G_in 1008 _ rfl, by decide⟩, ⟨by decide, by decide, by decide +kernel⟩, fun h => absurd h (by decide), fun _ => pm_G_in 6036 _ rfl, fun _ => pm_G_in 6037 _ rfl, fun h => absurd h (by decide)⟩
set_option maxRecDepth 100000 in
theorem dk_J7_fill_53178 : pm_dcl mJ7_fill_53178 = true := by decide +kernel
set_option maxRecDepth 100000 in
theorem ck_J7_fill_53178 : pm_ckl mJ7_fill_53178 [0, 0, 0, 0, 0, 0, 0, 0, 0, 0, 0, 0, 0, 0, 0] = true := by decide +kernel
set_option maxRecDepth 100000 in
theorem mk_J7_fill_53178 : pm_mok pm_Ts mJ7_fill_53178 := ⟨⟨pm_G_in 1047 _ rfl, pm_G_in 1004 _ rfl, by decide⟩, ⟨by decide, by decide, by decide +kernel⟩, fun _ => pm_G_in 1046 _ rfl, fun h => absurd rfl h, fun h => absurd h (by decide), fun h => absurd h (by decide)⟩
set_option maxRecDepth 100000 in
theorem dk_J7_fill_e525d : pm_dcl mJ7_fill_e525d = true := by decide +kernel
set_option maxRecDepth 100000 in
theorem ck_J7_fill_e525d : pm_ckl mJ7_fill_e525d [0, 0, 0, 0, 0, 0, 0, 0, 0, 0, 0, 0, 0, 0, 0] = true := by decide +kernel
set_option maxRecDepth 100000 in
theorem mk_J7_fill_e525d : pm_mok pm_Ts mJ7_fill_e525d := ⟨⟨pm_G_in 1050 _ rfl, pm_G_in 1004 _ rfl, by decide⟩, ⟨by decide, by decide, by decide +kernel⟩, fun _ => pm_G_in 1049 _ rfl, fun h => absurd rfl h, fun h => absurd h (by decide), fun h => absurd h (by decide)⟩
set_option maxRecDepth 100000 in
theorem dk_L_template : pm_dcl mL_template = true := by decide +kernel
set_option maxRecDepth 100000 in
theorem ck_L_template : pm_ckl mL_template [0, 0, 0, 0, 3057, 0, 0, 0, 0, 0, 0, 0, 0] = true := by decide +kernel
set_option maxRecDepth 100000 in
theorem mk_L_template : pm_mok pm_Ts mL_template := ⟨⟨pm_G_in 3055 _ rfl, pm_G_in 1000 _ rfl, by decide⟩, ⟨by decide, by decide, by decide +kernel⟩, fun _ => pm_G_in 3054 _ rfl, fun h => absurd rfl h, fun h => absurd h (by decide), fun h => absurd h (by decide)⟩
set_option maxRecDepth 100000 in
theorem dk_L_item : pm_dcl mL_item = true := by decide +kernel
set_option maxRecDepth 100000 in
theorem ck_L_item : pm_ckl mL_item [0, 0, 0, 0, 0, 0, 0, 4029, 0, 0, 0, 0, 0, 0, 0, 0, 0, 0, 0] = true := by decide +kernel
set_option maxRecDepth 100000 in
theorem mk_L_item : pm_mok pm_Ts mL_item := ⟨⟨pm_G_in 4027 _ rfl, pm_G_in 1000 _ rfl, by decide⟩, ⟨by decide, by decide, by decide +kernel⟩, fun _ => pm_G_in 4026 _ rfl, fun h => absurd rfl h, fun h => absurd h (by decide), fun h => absurd h (by decide)⟩
set_option maxRecDepth 100000 in
theorem dk_L_size : pm_dcl mL_size = true := by decide +kernel
set_option maxRecDepth 100000 in
theorem ck_L_size : pm_ckl mL_size [0, 0, 0, 0, 0, 4061, 0, 0, 0, 0, 0, 0, 0, 0] = true := by decide +kernel
set_option maxRecDepth 100000 in
theorem mk_L_size : pm_mok pm_Ts mL_size := ⟨⟨pm_G_in 4059 _ rfl, pm_G_in 1000 _ rfl, by decide⟩, ⟨by decide, by decide, by decide +kernel⟩, fun _ => pm_G_in 4058 _ rfl, fun h => absurd rfl h, fun h => absurd h (by decide), fun h => absurd h (by decide)⟩
set_option maxRecDepth 100000 in
theorem dk_L_at : pm_dcl mL_at = true := by decide +kernel
set_option maxRecDepth 100000 in
theorem ck_L_at : pm_ckl mL_at [0, 0, 0, 0, 0, 4088, 0, 0, 0, 0, 0, 0, 0, 0] = true := by decide +kernel
set_option maxRecDepth 100000 in
theorem mk_L_at : pm_mok pm_Ts mL_at := ⟨⟨pm_G_in 4087 _ rfl, pm_G_in 1000 _ rfl, by decide⟩, ⟨by decide, by decide, by decide +kernel⟩, fun _ => pm_G_in 4086 _ rfl, fun h => absurd rfl h, fun h => absurd h (by decide), fun h => absurd h (by decide)⟩
set_option maxRecDepth 100000 in
theorem dk_L_extent : pm_dcl mL_extent = true := by decide +kernel
set_option maxRecDepth 100000 in
theorem ck_L_extent : pm_ckl mL_extent [0, 0, 0, 0, 0, 4095, 0, 0, 0, 0, 0, 0, 0, 0] = true := by decide +kernel
set_option maxRecDepth 100000 in
theorem mk_L_extent : pm_mok pm_Ts mL_extent := ⟨⟨pm_G_in 4094 _ rfl, pm_G_in 1000 _ rfl, by decide⟩, ⟨by decide, by decide, by decide +kernel⟩, fun _ => pm_G_in 4093 _ rfl, fun h => absurd rfl h, fun h => absurd h (by decide), fun h => absurd h (by decide)⟩
