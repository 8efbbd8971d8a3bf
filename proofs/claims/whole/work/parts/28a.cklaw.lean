theorem pm_alld {α : Type} (l : List α) (f : α → Bool) (a b : Nat) (h1 : ((l.drop a).take b).all f = true) (h2 : (l.drop (a + b)).all f = true) : (l.drop a).all f = true := by
  rw [← List.take_append_drop b (l.drop a), List.all_append, h1, List.drop_drop, h2]
  rfl
abbrev pm_dcf (M : pM) : pE → Bool := fun q => decide (decode M.bytes q.1 = .ok (q.2.1, q.2.2.1)) && (decide (pm_len q.2.1 = 0) || decide (q.2.2.1 = pm_len q.2.1))
abbrev pm_ckf (M : pM) : pE × Nat → Bool := fun x => pm_ckb pm_P pm_G pm_aw pm_ao pm_sr pm_tt M x.1 x.2
def pm_Jlaw : List Nat := [1021, 0, 1023, 0, 4101, 0, 4103, 0, 0, 6040, 0, 0, 6041, 0, 0, 0, 0, 0, 0, 0, 0, 0, 0, 0, 0, 0, 0, 0, 0, 0, 0, 0, 0, 0, 0, 2033, 0, 0, 0, 0, 0, 0, 0, 5010, 0, 0, 0, 0, 0, 0, 0, 0, 0, 0, 3053, 0, 0, 0, 0, 0, 0, 0, 5014, 0, 0, 5006, 0, 0, 0, 0, 0, 0, 0, 0, 0, 0, 0, 0, 0, 0, 0, 0, 0, 2041, 0, 5101, 0, 0, 0, 0, 0, 0, 0, 0, 0, 0, 0, 0, 0, 0, 0, 0, 0, 0, 0, 0, 0, 0, 0, 0, 0, 4025, 0, 0, 0, 0, 0, 0, 0, 0, 0, 0, 0, 0, 0, 0, 0, 0, 0, 0, 0, 0, 0, 0, 5105, 0, 0, 5006, 0, 0, 0, 0, 0, 0, 0, 0, 0, 0, 0, 0, 0, 0, 0, 0, 0, 0, 0, 0, 0, 0, 0, 0, 0, 0, 0, 0, 0, 0, 0, 0, 0, 6039, 0, 0, 0, 0, 0, 0, 0, 6039, 0, 2045, 0, 0, 0, 0, 0, 0, 0, 0, 0, 0, 0, 0, 0, 0, 0, 0, 0, 6039, 0, 0, 0, 0, 0, 0, 0, 6039, 0, 5115, 0, 0, 0, 0, 0, 0, 0, 0, 0, 0, 0, 0, 0, 0, 0, 0, 0, 0, 0, 0, 0, 0, 2063, 0, 0, 0, 0, 0, 0, 0, 0, 0, 0, 0, 0, 0, 0, 0, 0, 0, 0, 0, 5123, 0, 0, 0, 0, 0, 0, 0, 0, 0, 0, 0, 0, 0, 6039, 0, 0, 0, 0, 0, 0, 0, 6039, 0, 2067, 0, 0, 0, 0, 0, 0, 0, 0, 0, 0, 0, 0, 6039, 0, 0, 0, 0, 0, 0, 0, 6039, 0, 5127, 0, 0, 0, 0, 0, 0, 0, 0, 0, 0, 0, 0, 0, 0, 2071, 0, 0, 0, 0, 0, 0, 0, 0, 0, 0, 0, 5131, 0, 0, 0, 0, 2075, 0, 5135, 0, 0, 0, 0, 0, 0, 0, 0, 0, 3033, 0, 0, 0, 0, 0, 0, 5239, 0, 0, 0, 0, 0, 0, 0, 0, 0, 0, 0, 0, 0, 0, 0, 4057, 0, 0, 0, 0, 0, 0, 0, 0, 0, 0, 0, 0, 6003, 0, 0, 5006, 0, 0, 0, 0, 0, 0, 0, 0, 0, 0, 0, 0, 0, 0, 0, 0, 0, 0, 0, 0, 0, 0, 0, 0, 0, 0, 0, 0, 0, 0, 0, 0, 0, 0, 0, 0, 0, 0, 0, 0, 4085, 0, 0, 0, 0, 0, 0, 0, 0, 0, 0, 0, 0, 6011, 0, 0, 5006, 0, 0, 0, 0, 0, 0, 0, 0, 0, 0, 0, 0, 0, 0, 0, 0, 0, 0, 0, 0, 0, 0, 0, 0, 0, 0, 0, 0, 0, 0, 0, 0, 0, 0, 0, 0, 0, 0, 0, 3037, 0, 0, 0, 0, 0, 0, 0, 0, 0, 0, 0, 6015, 0, 0, 0, 0, 0, 0, 0, 0, 0, 0, 0, 0, 0, 0, 0, 4092, 0, 0, 0, 0, 0, 0, 0, 0, 0, 0, 0, 0, 6023, 0, 0, 5006, 0, 0, 0, 0, 0, 0, 0, 0, 0, 0, 0, 0, 0, 0, 0, 0, 0, 0, 0, 0, 0, 0, 0, 0, 0, 0, 0, 0, 0, 0, 0, 0, 0, 0, 0, 6039, 0, 0, 0, 0, 0, 0, 0, 6039, 0, 3041, 0, 0, 0, 0, 0, 0, 0, 6039, 0, 0, 0, 0, 0, 0, 0, 6039, 0, 6027, 0, 0, 0, 0, 0, 0, 0, 0, 0, 3049, 0, 0, 0, 0, 0, 0, 0, 0, 6035, 0, 0, 0, 0, 0, 0, 0, 0, 0, 0, 0, 0, 0, 0, 0, 0, 0, 0, 0, 0, 0]
set_option maxRecDepth 100000 in
theorem dkl_0 : ((mL_law.code.drop 0).take 25).all (pm_dcf mL_law) = true := by decide +kernel
set_option maxRecDepth 100000 in
theorem ckl_0 : (((mL_law.code.zip pm_Jlaw).drop 0).take 25).all (pm_ckf mL_law) = true := by decide +kernel
set_option maxRecDepth 100000 in
theorem dkl_25 : ((mL_law.code.drop 25).take 25).all (pm_dcf mL_law) = true := by decide +kernel
set_option maxRecDepth 100000 in
theorem ckl_25 : (((mL_law.code.zip pm_Jlaw).drop 25).take 25).all (pm_ckf mL_law) = true := by decide +kernel
set_option maxRecDepth 100000 in
theorem dkl_50 : ((mL_law.code.drop 50).take 25).all (pm_dcf mL_law) = true := by decide +kernel
set_option maxRecDepth 100000 in
theorem ckl_50 : (((mL_law.code.zip pm_Jlaw).drop 50).take 25).all (pm_ckf mL_law) = true := by decide +kernel
set_option maxRecDepth 100000 in
theorem dkl_75 : ((mL_law.code.drop 75).take 25).all (pm_dcf mL_law) = true := by decide +kernel
set_option maxRecDepth 100000 in
theorem ckl_75 : (((mL_law.code.zip pm_Jlaw).drop 75).take 25).all (pm_ckf mL_law) = true := by decide +kernel
set_option maxRecDepth 100000 in
theorem dkl_100 : ((mL_law.code.drop 100).take 25).all (pm_dcf mL_law) = true := by decide +kernel
set_option maxRecDepth 100000 in
theorem ckl_100 : (((mL_law.code.zip pm_Jlaw).drop 100).take 25).all (pm_ckf mL_law) = true := by decide +kernel
set_option maxRecDepth 100000 in
theorem dkl_125 : ((mL_law.code.drop 125).take 25).all (pm_dcf mL_law) = true := by decide +kernel
set_option maxRecDepth 100000 in
theorem ckl_125 : (((mL_law.code.zip pm_Jlaw).drop 125).take 25).all (pm_ckf mL_law) = true := by decide +kernel
set_option maxRecDepth 100000 in
theorem dkl_150 : ((mL_law.code.drop 150).take 25).all (pm_dcf mL_law) = true := by decide +kernel
set_option maxRecDepth 100000 in
theorem ckl_150 : (((mL_law.code.zip pm_Jlaw).drop 150).take 25).all (pm_ckf mL_law) = true := by decide +kernel
set_option maxRecDepth 100000 in
theorem dkl_175 : ((mL_law.code.drop 175).take 25).all (pm_dcf mL_law) = true := by decide +kernel
set_option maxRecDepth 100000 in
theorem ckl_175 : (((mL_law.code.zip pm_Jlaw).drop 175).take 25).all (pm_ckf mL_law) = true := by decide +kernel
set_option maxRecDepth 100000 in
theorem dkl_200 : ((mL_law.code.drop 200).take 25).all (pm_dcf mL_law) = true := by decide +kernel
set_option maxRecDepth 100000 in
theorem ckl_200 : (((mL_law.code.zip pm_Jlaw).drop 200).take 25).all (pm_ckf mL_law) = true := by decide +kernel
set_option maxRecDepth 100000 in
theorem dkl_225 : ((mL_law.code.drop 225).take 25).all (pm_dcf mL_law) = true := by decide +kernel
set_option maxRecDepth 100000 in
theorem ckl_225 : (((mL_law.code.zip pm_Jlaw).drop 225).take 25).all (pm_ckf mL_law) = true := by decide +kernel
set_option maxRecDepth 100000 in
theorem dkl_250 : ((mL_law.code.drop 250).take 25).all (pm_dcf mL_law) = true := by decide +kernel
set_option maxRecDepth 100000 in
theorem ckl_250 : (((mL_law.code.zip pm_Jlaw).drop 250).take 25).all (pm_ckf mL_law) = true := by decide +kernel
set_option maxRecDepth 100000 in
theorem dkl_275 : ((mL_law.code.drop 275).take 25).all (pm_dcf mL_law) = true := by decide +kernel
set_option maxRecDepth 100000 in
theorem ckl_275 : (((mL_law.code.zip pm_Jlaw).drop 275).take 25).all (pm_ckf mL_law) = true := by decide +kernel
set_option maxRecDepth 100000 in
theorem dkl_300 : ((mL_law.code.drop 300).take 25).all (pm_dcf mL_law) = true := by decide +kernel
set_option maxRecDepth 100000 in
theorem ckl_300 : (((mL_law.code.zip pm_Jlaw).drop 300).take 25).all (pm_ckf mL_law) = true := by decide +kernel
set_option maxRecDepth 100000 in
theorem dkl_325 : ((mL_law.code.drop 325).take 25).all (pm_dcf mL_law) = true := by decide +kernel
set_option maxRecDepth 100000 in
theorem ckl_325 : (((mL_law.code.zip pm_Jlaw).drop 325).take 25).all (pm_ckf mL_law) = true := by decide +kernel
set_option maxRecDepth 100000 in
theorem dkl_350 : ((mL_law.code.drop 350).take 25).all (pm_dcf mL_law) = true := by decide +kernel
set_option maxRecDepth 100000 in
theorem ckl_350 : (((mL_law.code.zip pm_Jlaw).drop 350).take 25).all (pm_ckf mL_law) = true := by decide +kernel
set_option maxRecDepth 100000 in
theorem dkl_375 : ((mL_law.code.drop 375).take 25).all (pm_dcf mL_law) = true := by decide +kernel
set_option maxRecDepth 100000 in
theorem ckl_375 : (((mL_law.code.zip pm_Jlaw).drop 375).take 25).all (pm_ckf mL_law) = true := by decide +kernel
set_option maxRecDepth 100000 in
theorem dkl_400 : ((mL_law.code.drop 400).take 25).all (pm_dcf mL_law) = true := by decide +kernel
set_option maxRecDepth 100000 in
theorem ckl_400 : (((mL_law.code.zip pm_Jlaw).drop 400).take 25).all (pm_ckf mL_law) = true := by decide +kernel
set_option maxRecDepth 100000 in
theorem dkl_425 : ((mL_law.code.drop 425).take 25).all (pm_dcf mL_law) = true := by decide +kernel
set_option maxRecDepth 100000 in
theorem ckl_425 : (((mL_law.code.zip pm_Jlaw).drop 425).take 25).all (pm_ckf mL_law) = true := by decide +kernel
set_option maxRecDepth 100000 in
theorem dkl_450 : ((mL_law.code.drop 450).take 25).all (pm_dcf mL_law) = true := by decide +kernel
set_option maxRecDepth 100000 in
theorem ckl_450 : (((mL_law.code.zip pm_Jlaw).drop 450).take 25).all (pm_ckf mL_law) = true := by decide +kernel
set_option maxRecDepth 100000 in
theorem dkl_475 : ((mL_law.code.drop 475).take 25).all (pm_dcf mL_law) = true := by decide +kernel
set_option maxRecDepth 100000 in
theorem ckl_475 : (((mL_law.code.zip pm_Jlaw).drop 475).take 25).all (pm_ckf mL_law) = true := by decide +kernel
set_option maxRecDepth 100000 in
theorem dkl_500 : ((mL_law.code.drop 500).take 25).all (pm_dcf mL_law) = true := by decide +kernel
set_option maxRecDepth 100000 in
theorem ckl_500 : (((mL_law.code.zip pm_Jlaw).drop 500).take 25).all (pm_ckf mL_law) = true := by decide +kernel
set_option maxRecDepth 100000 in
theorem dkl_525 : ((mL_law.code.drop 525).take 25).all (pm_dcf mL_law) = true := by decide +kernel
set_option maxRecDepth 100000 in
theorem ckl_525 : (((mL_law.code.zip pm_Jlaw).drop 525).take 25).all (pm_ckf mL_law) = true := by decide +kernel
set_option maxRecDepth 100000 in
theorem dkl_550 : ((mL_law.code.drop 550).take 25).all (pm_dcf mL_law) = true := by decide +kernel
set_option maxRecDepth 100000 in
theorem ckl_550 : (((mL_law.code.zip pm_Jlaw).drop 550).take 25).all (pm_ckf mL_law) = true := by decide +kernel
set_option maxRecDepth 100000 in
theorem dkl_575 : ((mL_law.code.drop 575).take 25).all (pm_dcf mL_law) = true := by decide +kernel
set_option maxRecDepth 100000 in
theorem ckl_575 : (((mL_law.code.zip pm_Jlaw).drop 575).take 25).all (pm_ckf mL_law) = true := by decide +kernel
set_option maxRecDepth 100000 in
theorem dkl_600 : ((mL_law.code.drop 600).take 25).all (pm_dcf mL_law) = true := by decide +kernel
set_option maxRecDepth 100000 in
theorem ckl_600 : (((mL_law.code.zip pm_Jlaw).drop 600).take 25).all (pm_ckf mL_law) = true := by decide +kernel
set_option maxRecDepth 100000 in
theorem dkl_625 : ((mL_law.code.drop 625).take 25).all (pm_dcf mL_law) = true := by decide +kernel
set_option maxRecDepth 100000 in
theorem ckl_625 : (((mL_law.code.zip pm_Jlaw).drop 625).take 25).all (pm_ckf mL_law) = true := by decide +kernel
set_option maxRecDepth 100000 in
theorem dkd_650 : (mL_law.code.drop 650).all (pm_dcf mL_law) = true := by decide +kernel
set_option maxRecDepth 100000 in
theorem ckd_650 : ((mL_law.code.zip pm_Jlaw).drop 650).all (pm_ckf mL_law) = true := by decide +kernel
theorem dkd_625 : (mL_law.code.drop 625).all (pm_dcf mL_law) = true := pm_alld _ _ 625 25 dkl_625 dkd_650
theorem ckd_625 : ((mL_law.code.zip pm_Jlaw).drop 625).all (pm_ckf mL_law) = true := pm_alld _ _ 625 25 ckl_625 ckd_650
theorem dkd_600 : (mL_law.code.drop 600).all (pm_dcf mL_law) = true := pm_alld _ _ 600 25 dkl_600 dkd_625
theorem ckd_600 : ((mL_law.code.zip pm_Jlaw).drop 600).all (pm_ckf mL_law) = true := pm_alld _ _ 600 25 ckl_600 ckd_625
theorem dkd_575 : (mL_law.code.drop 575).all (pm_dcf mL_law) = true := pm_alld _ _ 575 25 dkl_575 dkd_600
theorem ckd_575 : ((mL_law.code.zip pm_Jlaw).drop 575).all (pm_ckf mL_law) = true := pm_alld _ _ 575 25 ckl_575 ckd_600
theorem dkd_550 : (mL_law.code.drop 550).all (pm_dcf mL_law) = true := pm_alld _ _ 550 25 dkl_550 dkd_575
theorem ckd_550 : ((mL_law.code.zip pm_Jlaw).drop 550).all (pm_ckf mL_law) = true := pm_alld _ _ 550 25 ckl_550 ckd_575
theorem dkd_525 : (mL_law.code.drop 525).all (pm_dcf mL_law) = true := pm_alld _ _ 525 25 dkl_525 dkd_550
theorem ckd_525 : ((mL_law.code.zip pm_Jlaw).drop 525).all (pm_ckf mL_law) = true := pm_alld _ _ 525 25 ckl_525 ckd_550
theorem dkd_500 : (mL_law.code.drop 500).all (pm_dcf mL_law) = true := pm_alld _ _ 500 25 dkl_500 dkd_525
theorem ckd_500 : ((mL_law.code.zip pm_Jlaw).drop 500).all (pm_ckf mL_law) = true := pm_alld _ _ 500 25 ckl_500 ckd_525
theorem dkd_475 : (mL_law.code.drop 475).all (pm_dcf mL_law) = true := pm_alld _ _ 475 25 dkl_475 dkd_500
theorem ckd_475 : ((mL_law.code.zip pm_Jlaw).drop 475).all (pm_ckf mL_law) = true := pm_alld _ _ 475 25 ckl_475 ckd_500
theorem dkd_450 : (mL_law.code.drop 450).all (pm_dcf mL_law) = true := pm_alld _ _ 450 25 dkl_450 dkd_475
theorem ckd_450 : ((mL_law.code.zip pm_Jlaw).drop 450).all (pm_ckf mL_law) = true := pm_alld _ _ 450 25 ckl_450 ckd_475
theorem dkd_425 : (mL_law.code.drop 425).all (pm_dcf mL_law) = true := pm_alld _ _ 425 25 dkl_425 dkd_450
theorem ckd_425 : ((mL_law.code.zip pm_Jlaw).drop 425).all (pm_ckf mL_law) = true := pm_alld _ _ 425 25 ckl_425 ckd_450
theorem dkd_400 : (mL_law.code.drop 400).all (pm_dcf mL_law) = true := pm_alld _ _ 400 25 dkl_400 dkd_425
theorem ckd_400 : ((mL_law.code.zip pm_Jlaw).drop 400).all (pm_ckf mL_law) = true := pm_alld _ _ 400 25 ckl_400 ckd_425
theorem dkd_375 : (mL_law.code.drop 375).all (pm_dcf mL_law) = true := pm_alld _ _ 375 25 dkl_375 dkd_400
theorem ckd_375 : ((mL_law.code.zip pm_Jlaw).drop 375).all (pm_ckf mL_law) = true := pm_alld _ _ 375 25 ckl_375 ckd_400
theorem dkd_350 : (mL_law.code.drop 350).all (pm_dcf mL_law) = true := pm_alld _ _ 350 25 dkl_350 dkd_375
theorem ckd_350 : ((mL_law.code.zip pm_Jlaw).drop 350).all (pm_ckf mL_law) = true := pm_alld _ _ 350 25 ckl_350 ckd_375
theorem dkd_325 : (mL_law.code.drop 325).all (pm_dcf mL_law) = true := pm_alld _ _ 325 25 dkl_325 dkd_350
theorem ckd_325 : ((mL_law.code.zip pm_Jlaw).drop 325).all (pm_ckf mL_law) = true := pm_alld _ _ 325 25 ckl_325 ckd_350
theorem dkd_300 : (mL_law.code.drop 300).all (pm_dcf mL_law) = true := pm_alld _ _ 300 25 dkl_300 dkd_325
theorem ckd_300 : ((mL_law.code.zip pm_Jlaw).drop 300).all (pm_ckf mL_law) = true := pm_alld _ _ 300 25 ckl_300 ckd_325
theorem dkd_275 : (mL_law.code.drop 275).all (pm_dcf mL_law) = true := pm_alld _ _ 275 25 dkl_275 dkd_300
theorem ckd_275 : ((mL_law.code.zip pm_Jlaw).drop 275).all (pm_ckf mL_law) = true := pm_alld _ _ 275 25 ckl_275 ckd_300
theorem dkd_250 : (mL_law.code.drop 250).all (pm_dcf mL_law) = true := pm_alld _ _ 250 25 dkl_250 dkd_275
theorem ckd_250 : ((mL_law.code.zip pm_Jlaw).drop 250).all (pm_ckf mL_law) = true := pm_alld _ _ 250 25 ckl_250 ckd_275
theorem dkd_225 : (mL_law.code.drop 225).all (pm_dcf mL_law) = true := pm_alld _ _ 225 25 dkl_225 dkd_250
theorem ckd_225 : ((mL_law.code.zip pm_Jlaw).drop 225).all (pm_ckf mL_law) = true := pm_alld _ _ 225 25 ckl_225 ckd_250
theorem dkd_200 : (mL_law.code.drop 200).all (pm_dcf mL_law) = true := pm_alld _ _ 200 25 dkl_200 dkd_225
theorem ckd_200 : ((mL_law.code.zip pm_Jlaw).drop 200).all (pm_ckf mL_law) = true := pm_alld _ _ 200 25 ckl_200 ckd_225
theorem dkd_175 : (mL_law.code.drop 175).all (pm_dcf mL_law) = true := pm_alld _ _ 175 25 dkl_175 dkd_200
theorem ckd_175 : ((mL_law.code.zip pm_Jlaw).drop 175).all (pm_ckf mL_law) = true := pm_alld _ _ 175 25 ckl_175 ckd_200
theorem dkd_150 : (mL_law.code.drop 150).all (pm_dcf mL_law) = true := pm_alld _ _ 150 25 dkl_150 dkd_175
theorem ckd_150 : ((mL_law.code.zip pm_Jlaw).drop 150).all (pm_ckf mL_law) = true := pm_alld _ _ 150 25 ckl_150 ckd_175
theorem dkd_125 : (mL_law.code.drop 125).all (pm_dcf mL_law) = true := pm_alld _ _ 125 25 dkl_125 dkd_150
theorem ckd_125 : ((mL_law.code.zip pm_Jlaw).drop 125).all (pm_ckf mL_law) = true := pm_alld _ _ 125 25 ckl_125 ckd_150
theorem dkd_100 : (mL_law.code.drop 100).all (pm_dcf mL_law) = true := pm_alld _ _ 100 25 dkl_100 dkd_125
theorem ckd_100 : ((mL_law.code.zip pm_Jlaw).drop 100).all (pm_ckf mL_law) = true := pm_alld _ _ 100 25 ckl_100 ckd_125
theorem dkd_75 : (mL_law.code.drop 75).all (pm_dcf mL_law) = true := pm_alld _ _ 75 25 dkl_75 dkd_100
theorem ckd_75 : ((mL_law.code.zip pm_Jlaw).drop 75).all (pm_ckf mL_law) = true := pm_alld _ _ 75 25 ckl_75 ckd_100
theorem dkd_50 : (mL_law.code.drop 50).all (pm_dcf mL_law) = true := pm_alld _ _ 50 25 dkl_50 dkd_75
theorem ckd_50 : ((mL_law.code.zip pm_Jlaw).drop 50).all (pm_ckf mL_law) = true := pm_alld _ _ 50 25 ckl_50 ckd_75
theorem dkd_25 : (mL_law.code.drop 25).all (pm_dcf mL_law) = true := pm_alld _ _ 25 25 dkl_25 dkd_50
theorem ckd_25 : ((mL_law.code.zip pm_Jlaw).drop 25).all (pm_ckf mL_law) = true := pm_alld _ _ 25 25 ckl_25 ckd_50
theorem dkd_0 : (mL_law.code.drop 0).all (pm_dcf mL_law) = true := pm_alld _ _ 0 25 dkl_0 dkd_25
theorem ckd_0 : ((mL_law.code.zip pm_Jlaw).drop 0).all (pm_ckf mL_law) = true := pm_alld _ _ 0 25 ckl_0 ckd_25
theorem dk_L_law : pm_dcl mL_law = true := dkd_0
set_option maxRecDepth 100000 in
theorem pm_Jlaw_len : mL_law.code.length = pm_Jlaw.length := by decide +kernel
theorem ck_L_law : pm_ckl mL_law pm_Jlaw = true := by
  unfold pm_ckl
  rw [Bool.and_eq_true]
  exact ⟨ckd_0, decide_eq_true pm_Jlaw_len⟩
