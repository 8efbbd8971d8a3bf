/-! template: open -/
theorem op_template (a : Int) (s : pS) (hI : Inv s) : opT (f_L_template a) (f_X6_template a) s := sorry
