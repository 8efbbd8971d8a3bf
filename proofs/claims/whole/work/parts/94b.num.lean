/-! ===== NUMBERS OF A TEMPLATE ===== -/
theorem nm_w : ∀ a : Fin 100, ∀ b : Fin 100, (nmw ((100 * a.val + b.val : Nat) : Int)).toNat ≤ 1176255488 := by decide +kernel
theorem nm_f1 : ∀ v : Fin 10, (nmf ((v.val : Nat) : Int) 1).toNat ≤ 1065353216 := by decide +kernel
theorem nm_f2 : ∀ v : Fin 100, (nmf ((v.val : Nat) : Int) 2).toNat ≤ 1065353216 := by decide +kernel
theorem nm_f3 : ∀ v : Fin 1000, (nmf ((v.val : Nat) : Int) 3).toNat ≤ 1065353216 := by decide +kernel
theorem nmw_le {v : Int} (h0 : 0 ≤ v) (h1 : v < 10000) : (nmw v).toNat ≤ 1176255488 := by
  have h := nm_w ⟨v.toNat / 100, by omega⟩ ⟨v.toNat % 100, by omega⟩
  rw [show ((100 * (v.toNat / 100) + v.toNat % 100 : Nat) : Int) = v by omega] at h
  exact h
def tp (c : Int) : Int := if c ≤ 0 then 1 else if c = 1 then 10 else if c = 2 then 100 else if c = 3 then 1000 else 10000
theorem nmf_le {v c : Int} (hc : 1 ≤ c) (hc3 : c ≤ 3) (h0 : 0 ≤ v) (h1 : v < tp c) : (nmf v c).toNat ≤ 1065353216 := by
  unfold tp at h1
  rcases (show c = 1 ∨ c = 2 ∨ c = 3 by omega) with rfl | rfl | rfl
  · have h := nm_f1 ⟨v.toNat, by simp at h1; omega⟩
    rw [show ((v.toNat : Nat) : Int) = v by omega] at h
    exact h
  · have h := nm_f2 ⟨v.toNat, by simp at h1; omega⟩
    rw [show ((v.toNat : Nat) : Int) = v by omega] at h
    exact h
  · have h := nm_f3 ⟨v.toNat, by simp at h1; omega⟩
    rw [show ((v.toNat : Nat) : Int) = v by omega] at h
    exact h
theorem nn_le {x : UInt32} {B : Nat} (hB : B < 2 ^ 31) (h : x.toNat ≤ B) : nn x := by unfold nn; omega
theorem fb_of {x : UInt32} {m : Nat} (h : x.toNat ≤ (127 + m) * 2 ^ 23) : fb m x := by
  unfold fb
  exact Nat.le_trans (Nat.mod_le _ _) h
theorem nmw_q {v : Int} (h0 : 0 ≤ v) (h1 : v < 10000) : nn (nmw v) ∧ fb 14 (nmw v) := by
  have h := nmw_le h0 h1
  exact ⟨nn_le (by omega) h, fb_of (by omega)⟩
theorem nmf_q {v c : Int} (hc : 1 ≤ c) (hc3 : c ≤ 3) (h0 : 0 ≤ v) (h1 : v < tp c) : nn (nmf v c) ∧ fb 14 (nmf v c) := by
  have h := nmf_le hc hc3 h0 h1
  exact ⟨nn_le (by omega) h, fb_of (by omega)⟩
theorem nms : FP.Core.zval FP.Core.b32 (FP.Core.val32 1176255488) + FP.Core.zval FP.Core.b32 (FP.Core.val32 1065353216) ≤ FP.Core.zval FP.Core.b32 (FP.Core.val32 1182793728) := by decide +kernel
theorem nma_q {v w c : Int} (h0 : 0 ≤ v) (h1 : v < 10000) (hc : 1 ≤ c) (hc3 : c ≤ 3) (g0 : 0 ≤ w) (g1 : w < tp c) : nn (FP.fadd (nmw v) (nmf w c)) ∧ fb 14 (FP.fadd (nmw v) (nmf w c)) := by
  have a := nmw_le h0 h1
  have b := nmf_le hc hc3 g0 g1
  obtain ⟨a1, a2⟩ := nmw_q h0 h1
  obtain ⟨b1, b2⟩ := nmf_q hc hc3 g0 g1
  have hr := fb_add a2 b2 (by omega)
  have hn := nn_add a2 b2 (by omega) a1 b1
  refine ⟨hn, ?_⟩
  have fa := fb_fin a2 (by omega)
  have fbb := fb_fin b2 (by omega)
  have z1 : FP.Core.val32 (1176255488 : UInt32) ≠ .nan := fb_nan (m := 14) (by unfold fb; decide) (by omega)
  have z2 : FP.Core.val32 (1065353216 : UInt32) ≠ .nan := fb_nan (m := 14) (by unfold fb; decide) (by omega)
  have z3 : FP.Core.val32 (1182793728 : UInt32) ≠ .nan := fb_nan (m := 14) (by unfold fb; decide) (by omega)
  have k1 : FP.Core.zval FP.Core.b32 (FP.Core.val32 (nmw v)) ≤ FP.Core.zval FP.Core.b32 (FP.Core.val32 1176255488) := by
    rw [fk_zval fa.ne_nan z1, fk_nn a1, fk_nn (by unfold nn; decide)]
    show ((nmw v).toNat : Int) ≤ ((1176255488 : Nat) : Int)
    omega
  have k2 : FP.Core.zval FP.Core.b32 (FP.Core.val32 (nmf w c)) ≤ FP.Core.zval FP.Core.b32 (FP.Core.val32 1065353216) := by
    rw [fk_zval fbb.ne_nan z2, fk_nn b1, fk_nn (by unfold nn; decide)]
    show ((nmf w c).toNat : Int) ≤ ((1065353216 : Nat) : Int)
    omega
  have hle : fk (FP.fadd (nmw v) (nmf w c)) ≤ fk (1182793728 : UInt32) := by
    rw [← fk_zval (fb_nan hr (by omega)) z3]
    show FP.Core.zval FP.Core.b32 (FP.Core.val32 (FP.Core.fadd (nmw v) (nmf w c))) ≤ _
    rw [FP.Core.val32_fadd]
    refine FP.Core.sum_le FP.Core.good_b32 fa fbb (FP.Core.val32_fits _) (FP.Core.val32_fits _) (FP.Core.val32_fits _) z3 ?_
    have := nms
    omega
  rw [fk_nn hn, fk_nn (by unfold nn; decide)] at hle
  have hle : ((FP.fadd (nmw v) (nmf w c)).toNat : Int) ≤ ((1182793728 : Nat) : Int) := hle
  exact fb_of (by omega)
/-! the reading of digits -/
theorem tp_step {v c d : Int} (hc : 0 ≤ c) (hc3 : c ≤ 3) (hv : 0 ≤ v) (hv1 : v < tp c) (hd : 0 ≤ d) (hd1 : d ≤ 9) : 0 ≤ v * 10 + d ∧ v * 10 + d < tp (c + 1) := by
  unfold tp at *
  rcases (show c = 0 ∨ c = 1 ∨ c = 2 ∨ c = 3 by omega) with rfl | rfl | rfl | rfl <;> simp at hv1 ⊢ <;> omega
theorem Pd_ok (T : Nat → Int) (n : Int) : ∀ (k : Nat) (v c p : Int), 0 ≤ c → c + k ≤ 4 → 0 ≤ v → v < tp c → ∃ v' c', Pd T n k v c p = (some (v', c'), p + (c' - c)) ∧ c ≤ c' ∧ c' ≤ c + k ∧ 0 ≤ v' ∧ v' < tp c'
  | 0, v, c, p, h1, h2, h3, h4 => ⟨v, c, by rw [Int.sub_self, Int.add_zero]; rfl, Int.le_refl _, by omega, h3, h4⟩
  | k + 1, v, c, p, h1, h2, h3, h4 => by
    by_cases h : p < n ∧ 48 ≤ T p.toNat ∧ T p.toNat ≤ 57
    · have hs := tp_step h1 (by omega) h3 h4 (d := T p.toNat - 48) (by omega) (by omega)
      obtain ⟨v', c', e, q1, q2, q3, q4⟩ := Pd_ok T n k (v * 10 + (T p.toNat - 48)) (c + 1) (p + 1) (by omega) (by omega) hs.1 hs.2
      refine ⟨v', c', ?_, by omega, by omega, q3, q4⟩
      show (if p < n ∧ 48 ≤ T p.toNat ∧ T p.toNat ≤ 57 then Pd T n k (v * 10 + (T p.toNat - 48)) (c + 1) (p + 1) else (some (v, c), p)) = _
      rw [if_pos h, e]
      rw [show p + 1 + (c' - (c + 1)) = p + (c' - c) by omega]
    · refine ⟨v, c, ?_, Int.le_refl _, by omega, h3, h4⟩
      show (if p < n ∧ 48 ≤ T p.toNat ∧ T p.toNat ≤ 57 then Pd T n k (v * 10 + (T p.toNat - 48)) (c + 1) (p + 1) else (some (v, c), p)) = _
      rw [if_neg h, Int.sub_self, Int.add_zero]
theorem tp0 : (0 : Int) < tp 0 := by decide
theorem tp4 {c : Int} : tp c ≤ 10000 := by
  unfold tp
  split
  · omega
  · split
    · omega
    · split
      · omega
      · split <;> omega
/-- the number read is no NaN, not negative, small -/
theorem Pnum_q (T : Nat → Int) (n p : Int) (u : UInt32) (h : (Pnum T n p).1 = some u) : nn u ∧ fb 14 u := by
  unfold Pnum at h
  obtain ⟨v, c, e, q1, q2, q3, q4⟩ := Pd_ok T n 4 0 0 p (by omega) (by omega) (by omega) tp0
  have q5 := tp4 (c := c)
  rw [Pb_some' e] at h
  by_cases hc : c = 0
  · rw [if_pos (show (v, c).2 = 0 from hc)] at h
    cases h
  · rw [if_neg (show ¬ (v, c).2 = 0 from hc)] at h
    by_cases hd : p + (c - 0) < n ∧ T (p + (c - 0)).toNat = 46
    · rw [Pc_y hd] at h
      obtain ⟨w, c2, e2, r1, r2, r3, r4⟩ := Pd_ok T n 3 0 0 (p + (c - 0) + 1) (by omega) (by omega) (by omega) tp0
      rw [Pb_some' e2] at h
      by_cases hc2 : c2 = 0
      · rw [if_pos (show (w, c2).2 = 0 from hc2)] at h
        cases h
      · rw [if_neg (show ¬ (w, c2).2 = 0 from hc2)] at h
        have h : FP.fadd (nmw v) (nmf w c2) = u := Option.some.inj h
        rw [← h]
        exact nma_q q3 (by omega) (by omega) (by omega) r3 r4
    · rw [Pc_n hd] at h
      have h : nmw v = u := Option.some.inj h
      rw [← h]
      exact nmw_q q3 (by omega)
