/-! ===== FLOATS: magnitudes, signs, order ===== -/
/-- at most 2^m in magnitude -/
def fb (m : Nat) (x : UInt32) : Prop := x.toNat % 2 ^ 31 ≤ (127 + m) * 2 ^ 23
/-- no minus sign -/
def nn (x : UInt32) : Prop := x.toNat < 2 ^ 31
theorem fb_le {m k : Nat} {x : UInt32} (h : fb m x) (hk : m ≤ k) : fb k x := Nat.le_trans h (Nat.mul_le_mul_right _ (by omega))
theorem fb_fin {m : Nat} {x : UInt32} (h : fb m x) (hm : m ≤ 127) : FP.Core.FFin x := by
  rw [FP.Core.fin_bits32]
  unfold fb at h
  omega
theorem fb_nan {m : Nat} {x : UInt32} (h : fb m x) (hm : m ≤ 127) : FP.Core.val32 x ≠ .nan := (fb_fin h hm).ne_nan
theorem fb_n32 {m : Nat} {x : UInt32} (h : fb m x) (hm : m ≤ 127) : vf_n32 x := by
  unfold vf_n32
  rw [UInt32.le_iff_toNat_le, FP.Core.mask_toNat32]
  show x.toNat % 2 ^ 31 ≤ 2139095040
  unfold fb at h
  omega
theorem units_le_start {m K : Nat} (h : m ≤ K * 2 ^ 23) (hK : 1 ≤ K) : FP.Core.unitsOf FP.Core.b32 m ≤ 2 ^ 23 * 2 ^ (K - 1) := by
  have h1 := FP.Core.unitsOf_start (f := FP.Core.b32) hK
  rw [FP.Core.tails_b32] at h1
  rw [← h1]
  exact FP.Core.unitsOf_le_iff.mpr h
theorem sum_fb {x y : FP.Core.Datum} {n a b m : Nat} (hn : FP.Core.decode FP.Core.b32 n = FP.Core.round FP.Core.b32 (FP.Core.exactSum x y))
    (hx : ∃ s c q, x = .fin s c q) (hy : ∃ s c q, y = .fin s c q) (fx : FP.Core.fits FP.Core.b32 x) (fy : FP.Core.fits FP.Core.b32 y)
    (zx : FP.Core.zmag FP.Core.b32 x = FP.Core.unitsOf FP.Core.b32 a) (zy : FP.Core.zmag FP.Core.b32 y = FP.Core.unitsOf FP.Core.b32 b) (ha : a ≤ (127 + m) * 2 ^ 23) (hb : b ≤ (127 + m) * 2 ^ 23) :
    FP.Core.mag FP.Core.b32 n ≤ (127 + (m + 1)) * 2 ^ 23 := by
  obtain ⟨s, c, q, rfl⟩ := hx
  obtain ⟨t, d, r, rfl⟩ := hy
  obtain ⟨sg, v, e, p1, p2, p3⟩ := FP.Core.sum_units fx fy
  have l1 := units_le_start ha (by omega)
  have l2 := units_le_start hb (by omega)
  rw [p1] at hn
  have hst := FP.Core.unitsOf_start (f := FP.Core.b32) (K := 127 + (m + 1)) (by omega)
  rw [FP.Core.tails_b32] at hst
  refine FP.Core.mag_le (s := sg) (A := v) (B := 1) (e := e) FP.Core.good_b32 hn (by decide) (e0 := FP.Core.b32.qmin) (by omega) p2 ?_
  rw [hst, Int.sub_self, Int.toNat_zero, Nat.pow_zero, Nat.mul_one, Nat.mul_one]
  have h1 : FP.Core.inUnits v e FP.Core.b32.qmin ≤ FP.Core.zmag FP.Core.b32 (.fin s c q) + FP.Core.zmag FP.Core.b32 (.fin t d r) := by
    have := congrArg Int.natAbs p3
    rw [FP.Core.natAbs_signed] at this
    rw [this]
    refine Nat.le_trans (Int.natAbs_add_le _ _) ?_
    unfold FP.Core.zval
    rw [FP.Core.natAbs_signed, FP.Core.natAbs_signed]
    exact Nat.le_refl _
  rw [zx, zy] at h1
  rw [show 2 ^ (127 + (m + 1) - 1) = 2 ^ (127 + m - 1) * 2 by rw [← Nat.pow_succ, show (127 + m - 1).succ = 127 + (m + 1) - 1 by omega], ← Nat.mul_assoc]
  omega
theorem fb_add {m : Nat} {x y : UInt32} (hx : fb m x) (hy : fb m y) (hm : m ≤ 126) : fb (m + 1) (FP.fadd x y) := by
  have fa := fb_fin hx (by omega)
  have fbb := fb_fin hy (by omega)
  have h := sum_fb (n := (FP.Core.fadd x y).toNat) (m := m) (FP.Core.val32_fadd x y) fa fbb (FP.Core.val32_fits x) (FP.Core.val32_fits y) (FP.Core.zmag_toNat32 fa.ne_nan) (FP.Core.zmag_toNat32 fbb.ne_nan) hx hy
  rw [FP.Core.mag_toNat32] at h
  exact h
theorem fb_sub {m : Nat} {x y : UInt32} (hx : fb m x) (hy : fb m y) (hm : m ≤ 126) : fb (m + 1) (FP.fsub x y) := by
  have fa := fb_fin hx (by omega)
  have fbb := fb_fin hy (by omega)
  have zb := FP.Core.zmag_toNat32 fbb.ne_nan
  have zb' : FP.Core.zmag FP.Core.b32 (FP.Core.negate (FP.Core.val32 y)) = FP.Core.unitsOf FP.Core.b32 (y.toNat % 2 ^ 31) := by
    rw [← zb]; cases FP.Core.val32 y <;> rfl
  have fb' : ∃ s c q, FP.Core.negate (FP.Core.val32 y) = .fin s c q := by
    obtain ⟨s, c, q, h⟩ := fbb; exact ⟨!s, c, q, by rw [h]; rfl⟩
  have h := sum_fb (n := (FP.Core.fsub x y).toNat) (m := m) (FP.Core.val32_fsub x y) fa fb' (FP.Core.val32_fits x) (FP.Core.negate_fits (FP.Core.val32_fits y)) (FP.Core.zmag_toNat32 fa.ne_nan) zb' hx hy
  rw [FP.Core.mag_toNat32] at h
  exact h
theorem fb_mul {m k : Nat} {x y : UInt32} (hx : fb m x) (hy : fb k y) (hm : m + k ≤ 120) : fb (m + k + 3) (FP.fmul x y) := by
  unfold fb at *
  have h := FP.Core.fmul_mag (a := x) (b := y) (Ka := 128 + m) (Kb := 128 + k) (by omega) (by omega) (by omega) (by omega)
  show (FP.Core.fmul x y).toNat % 2 ^ 31 ≤ _
  omega
theorem fb_div {m : Nat} {x y : UInt32} (hx : fb m x) (hy : 127 * 2 ^ 23 ≤ y.toNat % 2 ^ 31) (hy2 : y.toNat % 2 ^ 31 < 255 * 2 ^ 23) (hm : m ≤ 120) : fb (m + 2) (FP.fdiv x y) := by
  unfold fb at *
  have h := FP.Core.fdiv_mag (a := x) (b := y) (K := 128 + m) (L := 127) (by omega) (by omega) hy2 (by omega) (by omega)
  show (FP.Core.fdiv x y).toNat % 2 ^ 31 ≤ _
  omega
/-- order by bits with sign -/
abbrev fk (x : UInt32) : Int := FP.Core.fkey x
theorem fk_nn {x : UInt32} (h : nn x) : fk x = (x.toNat : Int) := by
  unfold nn at h
  show FP.Core.fkey x = _
  unfold FP.Core.fkey
  rw [if_neg (by omega)]
theorem fk_neg {x : UInt32} (h : ¬ nn x) : fk x ≤ 0 := by
  unfold nn at h
  show FP.Core.fkey x ≤ 0
  unfold FP.Core.fkey
  rw [if_pos (by omega)]
  omega
theorem fk_pos_nn {x : UInt32} (h : 0 < fk x) : nn x := by
  by_cases hn : nn x
  · exact hn
  · have := fk_neg hn
    omega
theorem fk_zval {x y : UInt32} (hx : FP.Core.val32 x ≠ .nan) (hy : FP.Core.val32 y ≠ .nan) : FP.Core.zval FP.Core.b32 (FP.Core.val32 x) ≤ FP.Core.zval FP.Core.b32 (FP.Core.val32 y) ↔ fk x ≤ fk y := by
  have h1 := FP.Core.order_zval FP.Core.good_b32 (FP.Core.val32_fits x) (FP.Core.val32_fits y) hx hy
  have h2 := FP.Core.fcmp_gt_key hx hy
  have h3 : FP.Core.fcmp x y = some (compare (FP.Core.zval FP.Core.b32 (FP.Core.val32 x)) (FP.Core.zval FP.Core.b32 (FP.Core.val32 y))) := h1
  rw [h3, FP.Core.compare_ite] at h2
  show _ ↔ FP.Core.fkey x ≤ FP.Core.fkey y
  constructor
  · intro h
    refine Int.not_lt.mp (fun hl => ?_)
    have h4 := h2.mpr hl
    split at h4
    · cases h4
    · split at h4
      · cases h4
      · omega
  · intro h
    refine Int.not_lt.mp (fun hl => ?_)
    have h4 := h2.mp (by rw [if_neg (by omega), if_neg (by omega)])
    omega
theorem nn_zval {x : UInt32} (h : nn x) (hx : FP.Core.val32 x ≠ .nan) : 0 ≤ FP.Core.zval FP.Core.b32 (FP.Core.val32 x) := FP.Core.zval_nonneg32 hx h
/-- adding what isn't negative makes no less -/
theorem add_ge {m : Nat} {x y : UInt32} (hx : fb m x) (hy : fb m y) (hm : m ≤ 126) (hn : nn y) : fk x ≤ fk (FP.fadd x y) := by
  have fx := fb_fin hx (by omega)
  have fy := fb_fin hy (by omega)
  have hr := fb_nan (fb_add hx hy hm) (by omega)
  rw [← fk_zval fx.ne_nan hr]
  show _ ≤ FP.Core.zval FP.Core.b32 (FP.Core.val32 (FP.Core.fadd x y))
  rw [FP.Core.val32_fadd]
  refine FP.Core.sum_ge FP.Core.good_b32 fx fy (FP.Core.val32_fits x) (FP.Core.val32_fits y) (FP.Core.val32_fits x) fx.ne_nan ?_
  have := nn_zval hn fy.ne_nan
  omega
/-- taking away what isn't negative makes no more -/
theorem sub_le {m : Nat} {x y : UInt32} (hx : fb m x) (hy : fb m y) (hm : m ≤ 126) (hn : nn y) : fk (FP.fsub x y) ≤ fk x := by
  have fx := fb_fin hx (by omega)
  have fy := fb_fin hy (by omega)
  have hr := fb_nan (fb_sub hx hy hm) (by omega)
  have fy' : ∃ s c q, FP.Core.negate (FP.Core.val32 y) = .fin s c q := by
    obtain ⟨s, c, q, h⟩ := fy; exact ⟨!s, c, q, by rw [h]; rfl⟩
  rw [← fk_zval hr fx.ne_nan]
  show FP.Core.zval FP.Core.b32 (FP.Core.val32 (FP.Core.fsub x y)) ≤ _
  rw [FP.Core.val32_fsub]
  refine FP.Core.sum_le FP.Core.good_b32 fx fy' (FP.Core.val32_fits x) (FP.Core.negate_fits (FP.Core.val32_fits y)) (FP.Core.val32_fits x) fx.ne_nan ?_
  have := nn_zval hn fy.ne_nan
  rw [FP.Core.zval_negate]
  omega
theorem sgn_nn {x : UInt32} (hx : FP.Core.val32 x ≠ .nan) (h : FP.Core.sgn (FP.Core.val32 x) = false) : nn x := by
  rw [FP.Core.sgn_bits32 hx] at h
  unfold nn
  exact Nat.not_le.mp (of_decide_eq_false h)
theorem nn_sgn {x : UInt32} (hx : FP.Core.val32 x ≠ .nan) (h : nn x) : FP.Core.sgn (FP.Core.val32 x) = false := by
  rw [FP.Core.sgn_bits32 hx]
  unfold nn at h
  exact decide_eq_false (by omega)
theorem fin_nn {x : UInt32} (hf : FP.Core.FFin x) (h : nn x) : ∃ c q, FP.Core.val32 x = .fin false c q := by
  obtain ⟨s, c, q, hx⟩ := hf
  have h1 := nn_sgn (by rw [hx]; exact FP.Core.Datum.noConfusion) h
  rw [hx] at h1
  have h2 : s = false := h1
  subst h2
  exact ⟨c, q, hx⟩
theorem nn_add {m : Nat} {x y : UInt32} (hx : fb m x) (hy : fb m y) (hm : m ≤ 126) (h1 : nn x) (h2 : nn y) : nn (FP.fadd x y) := by
  have hr := fb_nan (fb_add hx hy hm) (by omega)
  refine sgn_nn hr ?_
  show FP.Core.sgn (FP.Core.val32 (FP.Core.fadd x y)) = false
  rw [FP.Core.val32_fadd]
  obtain ⟨c, q, e1⟩ := fin_nn (fb_fin hx (by omega)) h1
  obtain ⟨d, r, e2⟩ := fin_nn (fb_fin hy (by omega)) h2
  rw [e1, e2]
  show FP.Core.sgn (FP.Core.roundRatio FP.Core.b32 (FP.Core.sumSign false false _) _ 1 _) = false
  rw [FP.Core.sgn_roundRatio]
  unfold FP.Core.sumSign
  split
  · rfl
  · unfold FP.Core.sumUnits FP.Core.signed
    simp only [Bool.false_eq_true, if_false]
    exact decide_eq_false (by omega)
theorem nn_mul {x y : UInt32} (hx : FP.Core.FFin x) (hy : FP.Core.FFin y) (h1 : nn x) (h2 : nn y) : nn (FP.fmul x y) := by
  obtain ⟨c, q, e1⟩ := fin_nn hx h1
  obtain ⟨d, r, e2⟩ := fin_nn hy h2
  have hv : FP.Core.val32 (FP.Core.fmul x y) = FP.Core.roundRatio FP.Core.b32 false (c * d) 1 (q + r) := by
    rw [FP.Core.val32_fmul, e1, e2]; rfl
  refine sgn_nn ?_ ?_
  · show FP.Core.val32 (FP.Core.fmul x y) ≠ .nan
    rw [hv]; exact FP.Core.roundRatio_ne_nan _ _ _ _ _
  · show FP.Core.sgn (FP.Core.val32 (FP.Core.fmul x y)) = false
    rw [hv]; exact FP.Core.sgn_roundRatio _ _ _ _ _
theorem nn_div {x y : UInt32} (hx : FP.Core.FFin x) (hy : FP.Core.FFin y) (h0 : 1 ≤ y.toNat % 2 ^ 31) (h1 : nn x) (h2 : nn y) : nn (FP.fdiv x y) := by
  obtain ⟨c, q, e1⟩ := fin_nn hx h1
  obtain ⟨d, r, e2⟩ := fin_nn hy h2
  have hd : d ≠ 0 := by
    intro hd
    have : FP.Core.FZero y := ⟨false, r, by rw [e2, hd]⟩
    rw [FP.Core.zero_bits232] at this
    omega
  have hv : FP.Core.val32 (FP.Core.fdiv x y) = FP.Core.roundRatio FP.Core.b32 false c d (q - r) := by
    rw [FP.Core.val32_fdiv, e1, e2]
    simp only [FP.Core.quotient, if_neg hd]
    rfl
  refine sgn_nn ?_ ?_
  · show FP.Core.val32 (FP.Core.fdiv x y) ≠ .nan
    rw [hv]; exact FP.Core.roundRatio_ne_nan _ _ _ _ _
  · show FP.Core.sgn (FP.Core.val32 (FP.Core.fdiv x y)) = false
    rw [hv]; exact FP.Core.sgn_roundRatio _ _ _ _ _
theorem nn_i2f {v : Int32} (h : 0 ≤ v.toInt) : nn (FP.i2f v) := by
  have hv : FP.Core.val32 (FP.Core.i2f v) = FP.Core.roundRatio FP.Core.b32 (decide (v.toInt < 0)) v.toInt.natAbs 1 0 := FP.Core.val32_i2f v
  refine sgn_nn ?_ ?_
  · show FP.Core.val32 (FP.Core.i2f v) ≠ .nan
    rw [hv]; exact FP.Core.roundRatio_ne_nan _ _ _ _ _
  · show FP.Core.sgn (FP.Core.val32 (FP.Core.i2f v)) = false
    rw [hv, FP.Core.sgn_roundRatio]
    exact decide_eq_false (by omega)
theorem fb_i2f (v : Int32) : fb 33 (FP.i2f v) := by
  have h := FP.Core.i2f_mag v
  unfold fb
  show (FP.Core.i2f v).toNat % 2 ^ 31 ≤ _
  omega
theorem big_i2f {v : Int32} (h : v.toInt ≠ 0) : 127 * 2 ^ 23 ≤ (FP.i2f v).toNat % 2 ^ 31 ∧ (FP.i2f v).toNat % 2 ^ 31 < 255 * 2 ^ 23 := FP.Core.i2f_big h
/-- the comparison of what is no NaN -/
theorem fc_eq {x y : UInt32} (hx : FP.Core.val32 x ≠ .nan) (hy : FP.Core.val32 y ≠ .nan) (op : CmpOp) : pm_fc op x y = if fk x < fk y then -1 else if fk x = fk y then 0 else 1 := by
  have h : FP.Core.fcmp x y = some (compare (FP.Core.fkey x) (FP.Core.fkey y)) := by
    by_cases h1 : FP.Core.fkey x < FP.Core.fkey y
    · rw [(FP.Core.fcmp_lt_key hx hy).mpr h1, FP.Core.compare_ite, if_pos h1]
    · by_cases h2 : FP.Core.fkey x = FP.Core.fkey y
      · rw [(FP.Core.fcmp_eq_key hx hy).mpr h2, FP.Core.compare_ite, if_neg h1, if_pos h2]
      · rw [(FP.Core.fcmp_gt_key hx hy).mpr (by omega), FP.Core.compare_ite, if_neg h1, if_neg h2]
  unfold pm_fc
  show (Op.cmpValue (FP.Core.fcmp x y) op).toInt = _
  rw [h, FP.Core.compare_ite]
  show _ = if FP.Core.fkey x < FP.Core.fkey y then (-1 : Int) else if FP.Core.fkey x = FP.Core.fkey y then 0 else 1
  split
  · rfl
  · split <;> rfl
theorem fc_lt {x y : UInt32} (hx : FP.Core.val32 x ≠ .nan) (hy : FP.Core.val32 y ≠ .nan) (op : CmpOp) : (pm_fc op x y < 0 ↔ fk x < fk y) ∧ (pm_fc op x y ≤ 0 ↔ fk x ≤ fk y) ∧ (0 ≤ pm_fc op x y ↔ fk y ≤ fk x) ∧ (0 < pm_fc op x y ↔ fk y < fk x) ∧ (pm_fc op x y = 0 ↔ fk x = fk y) := by
  rw [fc_eq hx hy]
  split
  · omega
  · split <;> omega
theorem fk_inj {x y : UInt32} (hx : nn x) (hy : nn y) (h : fk x = fk y) : x = y := by
  rw [fk_nn hx, fk_nn hy] at h
  exact UInt32.toNat_inj.mp (by omega)
