/-! ===== SIZING: the reference, items of one track (written by wip/whole/gen_mod2.py) ===== -/
theorem mx_nat {x y : UInt32} (hx : nn x) (hy : nn y) : (mx x y).toNat = max x.toNat y.toNat := by
  unfold mx
  rw [fk_nn hx, fk_nn hy]
  split <;> omega
theorem eq_nat {x y : UInt32} (h : x.toNat = y.toNat) : x = y := UInt32.toNat_inj.mp h
theorem mlow_ge {lo : Int} {x le mo : UInt32} (hx : nn x) (hle : nn le) (hmo : nn mo) : x.toNat ≤ (mlow lo x le mo).toNat := by
  unfold mlow
  split
  · rw [mx_nat hx hle]; omega
  · split
    · rw [mx_nat hx hmo]; omega
    · exact Nat.le_refl _
/-- the class's limit, raised to its base, is the reference's: the base where that one is endless -/
def RLm (c : Nat) (hi : Nat → Int) (L b l : Nat → UInt32) (e : Nat → Int) : Prop := ∀ t, t < c → (hi t = 0 ∨ hi t = 4 → e t = 0) ∧ (if e t = 0 then l t else b t) = mx (L t) (b t)
def nd1 (hi : Int) (hn le mo : UInt32) : UInt32 := if hi = 1 then le else if hi = 5 then mn mo hn else mo
def sgl (hi : Int) (hn l b' le mo : UInt32) (e : Int) : UInt32 := if hi = 0 ∨ hi = 4 then (if e = 0 then mx l b' else l) else mx (mx (if e = 0 then l else FP.fconst0) (nd1 hi hn le mo)) b'
theorem rl_single {hi lo : Int} {L b l le mo hn : UInt32} {e : Int} (nL : nn L) (nb : nn b) (nle : nn le) (nmo : nn mo) (nhn : nn hn) (h0 : hi = 0 ∨ hi = 4 → e = 0) (h1 : 0 ≤ hi ∧ hi ≤ 5) (hr : (if e = 0 then l else b) = mx L b) :
    (if (if hi = 0 ∨ hi = 4 then e else 0) = 0 then sgl hi hn l (mlow lo b le mo) le mo e else mlow lo b le mo) = mx (mhigh hi hn L le mo) (mlow lo b le mo) := by
  have nb' : nn (mlow lo b le mo) := mlow_nn nb nle nmo
  have hge := mlow_ge (lo := lo) nb nle nmo
  generalize hb' : mlow lo b le mo = b' at *
  have ez : (FP.fconst0).toNat = 0 := rfl
  by_cases hh : hi = 0 ∨ hi = 4
  · have he := h0 hh
    rw [if_pos he] at hr
    have em : mhigh hi hn L le mo = L := by
      unfold mhigh
      rw [if_neg (show ¬ hi = 1 by omega), if_neg (show ¬ (hi = 2 ∨ hi = 3) by omega), if_neg (show ¬ hi = 5 by omega)]
    rw [if_pos hh, if_pos he, em]
    unfold sgl
    rw [if_pos hh, if_pos he, hr]
    apply eq_nat
    rw [mx_nat (mx_nn nL nb) nb', mx_nat nL nb, mx_nat nL nb']
    omega
  · rw [if_neg hh, if_pos rfl]
    unfold sgl
    rw [if_neg hh]
    have key : ∀ x : UInt32, nn x → mx (mx (if e = 0 then l else FP.fconst0) x) b' = mx (mx L x) b' := by
      intro x nx
      by_cases he : e = 0
      · rw [if_pos he] at hr ⊢
        rw [hr]
        apply eq_nat
        rw [mx_nat (mx_nn (mx_nn nL nb) nx) nb', mx_nat (mx_nn nL nb) nx, mx_nat nL nb, mx_nat (mx_nn nL nx) nb', mx_nat nL nx]
        omega
      · rw [if_neg he] at hr ⊢
        have hq := congrArg UInt32.toNat hr
        rw [mx_nat nL nb] at hq
        apply eq_nat
        rw [mx_nat (mx_nn nn0 nx) nb', mx_nat nn0 nx, mx_nat (mx_nn nL nx) nb', mx_nat nL nx, ez]
        omega
    unfold nd1 mhigh
    by_cases h11 : hi = 1
    · rw [if_pos h11, if_pos h11]
      exact key le nle
    · rw [if_neg h11, if_neg h11]
      by_cases h5 : hi = 5
      · rw [if_pos h5, if_neg (show ¬ (hi = 2 ∨ hi = 3) by omega), if_pos h5]
        exact key _ (mn_nn nmo nhn)
      · rw [if_neg h5, if_pos (show hi = 2 ∨ hi = 3 by omega)]
        exact key mo nmo
section
variable {s : pS} {a c n : Nat} {lo hi ln sp : Nat → Int} {lnu hn le mo : Nat → UInt32} {spc g : UInt32} {how : Int}
theorem k6_176 (s : pS) (a t : Nat) (b l : Nat → UInt32) (e ch d : Nat → Int) (y : UInt32) (ha : a < 2) (ht : t < 12) (hl : e t = 0 → fb 14 (l t)) (hb : fb 14 (b t)) (hy : fb 14 y) :
    f_X6_single_176 (12 * (a : Int) + (t : Int)) y (mk6 s a b l e ch d) = some (mk6 s a b (pm_up l t (mx (mx (if e t = 0 then l t else FP.fconst0) y) (b t))) (pm_up e t 0) ch d) := by
  refine of_ok ?_
  have tail : ∀ z, fb 14 z → ok (f_X6_single_199 (12 * (a : Int) + (t : Int)) y z (mk6 s a b l e ch d)) (fun u => u = mk6 s a b (pm_up l t (mx (mx z y) (b t))) (pm_up e t 0) ch d) := by
    intro z hz
    have fin : ∀ v, fb 14 v → ok (f_X6_single_222 (12 * (a : Int) + (t : Int)) (12 * (a : Int) + (t : Int)) v (mk6 s a b l e ch d)) (fun u => u = mk6 s a b (pm_up l t (mx v (b t))) (pm_up e t 0) ch d) := by
      intro v hv
      unfold f_X6_single_222 f_X6_single_231
      try simp only [n634, n635, n636, n643, n644, n6I, n6F, u634, u635, u636, u643, u644, n633, n604, n605, n606, n631, n621, n628, n607, n608, n622, n623, n626, n627, n638, nnat, i12, i2, ion]
      refine ok_ck (by omega) (ok_bs (ok_ck (by omega) (ok_bs ?_)))
      rw [pt_up ht, u635]
      try simp only [n634, n635, n636, n643, n644, n6I, n6F, u634, u635, u636, u643, u644, n633, n604, n605, n606, n631, n621, n628, n607, n608, n622, n623, n626, n627, n638, nnat, i12, i2, ion]
      rw [pt_up ht, u636]
      refine ok_eq (k6_raise (m := 14) s a t _ _ _ _ _ ha ht (by omega) (fun _ => ⟨by rw [up_eq]; exact hv, hb⟩)) (ok_some ?_)
      rw [up_eq, up_eq, if_pos rfl]
      have e3 : pm_up (pm_up l t v) t (mx v (b t)) = pm_up l t (mx v (b t)) := by
        funext j
        unfold pm_up
        split <;> rfl
      rw [e3]
    unfold f_X6_single_199
    have hc := (fc_lt (fb_nan hz (by omega)) (fb_nan hy (by omega)) .g).2.2.1
    refine ok_if (fun q => ?_) (fun q => ?_)
    · have : mx z y = z := if_neg (by have := hc.mp q; omega)
      rw [this]
      exact fin z hz
    · have : mx z y = y := if_pos (Int.not_le.mp (fun h => q (hc.mpr h)))
      rw [this]
      exact fin y hy
  unfold f_X6_single_176
  try simp only [n634, n635, n636, n643, n644, n6I, n6F, u634, u635, u636, u643, u644, n633, n604, n605, n606, n631, n621, n628, n607, n608, n622, n623, n626, n627, n638, nnat, i12, i2, ion]
  rw [pt_at ht, pt_at ht]
  refine ok_ck (by omega) (ok_if (fun q => ok_ck (by omega) ?_) (fun q => ?_))
  · rw [if_pos q]
    exact tail (l t) (hl q)
  · rw [if_neg q]
    exact tail FP.fconst0 (fb0 _)
theorem k6_115 (hV : mv s a c n lo hi ln sp lnu hn le mo spc g how) (t : Nat) (b l : Nat → UInt32) (e ch d : Nat → Int) (x y : UInt32) (ht : t < c) (hl : e t = 0 → fb 14 (l t)) (hb : fb 14 (b t)) (hx : fb 12 x) (hy : fb 12 y) (he0 : hi t = 0 ∨ hi t = 4 → e t = 0) :
    f_X6_single_115 a t (12 * (a : Int) + (t : Int)) x y (mk6 s a b l e ch d) = some (mk6 s a b (pm_up l t (sgl (hi t) (hn t) (l t) (b t) x y (e t))) (pm_up e t (if hi t = 0 ∨ hi t = 4 then e t else 0)) ch d) := by
  have hV' := hV
  obtain ⟨ha, hc, hc2, hn', hn2, hT, -⟩ := hV'
  obtain ⟨t1, t2, t3, t4, t5, t6, t7, t8, t9, t10, t11⟩ := hT t ht
  have ht12 : t < 12 := by omega
  refine of_ok ?_
  unfold f_X6_single_115 f_X6_single_174 f_X6_single_231
  refine ok_eq (k6_hi hV _ _ _ _ _ t ht) ?_
  try simp only [n634, n635, n636, n643, n644, n6I, n6F, u634, u635, u636, u643, u644, n633, n604, n605, n606, n631, n621, n628, n607, n608, n622, n623, n626, n627, n638, nnat, i12, i2, ion]
  have h04 : (hi t = 0 ∨ hi t = 4) → ok ((f_X6_raise (12 * (a : Int) + (t : Int)) (mk6 s a b l e ch d)).bind (fun q1 => some q1)) (fun u => u = mk6 s a b (pm_up l t (sgl (hi t) (hn t) (l t) (b t) x y (e t))) (pm_up e t (if hi t = 0 ∨ hi t = 4 then e t else 0)) ch d) := by
    intro h
    have h1 := he0 h
    refine ok_eq (k6_raise (m := 14) s a t _ _ _ _ _ ha ht12 (by omega) (fun _ => ⟨hl h1, hb⟩)) (ok_some ?_)
    unfold sgl
    rw [if_pos h, if_pos h, up_self]
  refine ok_if (fun q1 => h04 (Or.inl q1)) (fun q1 => ok_if (fun q2 => h04 (Or.inr q2)) (fun q2 => ok_if (fun q3 => ok_if (fun q4 => ?_) (fun q4 => ok_ck (by omega) ?_)) (fun q3 => ?_)))
  · refine ok_of (k6_176 s a t b l e ch d y ha ht12 hl hb (fb_le hy (by omega))) ?_
    unfold sgl nd1
    have n04 : ¬ (hi t = 0 ∨ hi t = 4) := by omega
    rw [if_neg n04, if_neg n04, if_neg q3, if_neg q4]
  · have q5 : hi t = 5 := by omega
    rw [t5 (by omega)]
    have hcc := (fc_lt (fb_nan hy (by omega)) (fb_nan t11 (by omega)) .l).2.1
    have e2 : (if hi t = 0 ∨ hi t = 4 then e t else 0) = 0 := if_neg (by omega)
    rw [e2]
    unfold sgl nd1
    have n04 : ¬ (hi t = 0 ∨ hi t = 4) := by omega
    rw [if_neg n04, if_neg q3, if_pos q5]
    refine ok_if (fun q6 => ?_) (fun q6 => ok_ck (by omega) ?_)
    · have : mn y (hn t) = y := if_neg (by have := hcc.mp q6; omega)
      rw [this]
      exact ok_of (k6_176 s a t b l e ch d y ha ht12 hl hb (fb_le hy (by omega))) rfl
    · have : mn y (hn t) = hn t := if_pos (Int.not_le.mp (fun h => q6 (hcc.mpr h)))
      rw [this]
      exact ok_of (k6_176 s a t b l e ch d (hn t) ha ht12 hl hb t11) rfl
  · have q5 : hi t = 1 := by omega
    refine ok_of (k6_176 s a t b l e ch d x ha ht12 hl hb (fb_le hx (by omega))) ?_
    unfold sgl nd1
    have n04 : ¬ (hi t = 0 ∨ hi t = 4) := by omega
    rw [if_neg n04, if_neg n04, if_pos q5]
theorem k6_single (hV : mv s a c n lo hi ln sp lnu hn le mo spc g how) (j t : Nat) (b l : Nat → UInt32) (e ch d : Nat → Int) (hj : j < n) (h1 : ln j = (t : Int) + 1) (ht : t < c) (hl : e t = 0 → fb 14 (l t)) (hb : fb 14 (b t)) (he0 : hi t = 0 ∨ hi t = 4 → e t = 0) :
    f_X6_single a j (mk6 s a b l e ch d) = some (mk6 s a (pm_up b t (mlow (lo t) (b t) (le j) (mo j))) (pm_up l t (sgl (hi t) (hn t) (l t) (mlow (lo t) (b t) (le j) (mo j)) (le j) (mo j) (e t))) (pm_up e t (if hi t = 0 ∨ hi t = 4 then e t else 0)) ch d) := by
  have hV' := hV
  obtain ⟨ha, hc, hc2, hn', hn2, hT, hJ, -⟩ := hV'
  obtain ⟨j1, j2, j3, j4, j5, j6, j7, j8, j9, j10, j11, j12⟩ := hJ j hj
  have ht12 : t < 12 := by omega
  refine of_ok ?_
  unfold f_X6_single
  try simp only [n634, n635, n636, n643, n644, n6I, n6F, u634, u635, u636, u643, u644, n633, n604, n605, n606, n631, n621, n628, n607, n608, n622, n623, n626, n627, n638, nnat, i12, i2, ion]
  rw [j1, j3, j4, h1, show (t : Int) + 1 - 1 = (t : Int) by omega]
  refine ok_ck (inR_of (by omega)) (ok_ck (inR_of (by omega)) (ok_ck (by omega) (ok_ck (inR_of (by omega)) (ok_bs (ok_ck (inR_of (by omega)) (ok_ck (inR_of (by omega)) (ok_bs (ok_ck (inR_of (by omega)) (ok_ck (inR_of (by omega)) (ok_ck (by omega) (ok_bs (ok_ck (inR_of (by omega)) (ok_ck (inR_of (by omega)) (ok_ck (by omega) (ok_bs ?_)))))))))))))))
  refine ok_eq (k6_lo hV _ _ _ _ _ t ht) ?_
  dsimp only
  have fin : ∀ v, fb 14 v → ok (f_X6_single_115 a t (12 * (a : Int) + (t : Int)) (le j) (mo j) (mk6 s a (pm_up b t v) l e ch d)) (fun u => u = mk6 s a (pm_up b t v) (pm_up l t (sgl (hi t) (hn t) (l t) v (le j) (mo j) (e t))) (pm_up e t (if hi t = 0 ∨ hi t = 4 then e t else 0)) ch d) := by
    intro v hv
    have := k6_115 hV t (pm_up b t v) l e ch d (le j) (mo j) ht hl (by rw [up_eq]; exact hv) j10 j12 he0
    rw [up_eq] at this
    exact ok_of this rfl
  have f87 : lo t ≠ 2 → ∀ v, fb 14 v → ok (f_X6_single_87 a t (12 * (a : Int) + (t : Int)) (le j) (mo j) (lo t) (mk6 s a (pm_up b t v) l e ch d)) (fun u => u = mk6 s a (pm_up b t v) (pm_up l t (sgl (hi t) (hn t) (l t) v (le j) (mo j) (e t))) (pm_up e t (if hi t = 0 ∨ hi t = 4 then e t else 0)) ch d) := by
    intro h v hv
    unfold f_X6_single_87
    exact ok_pos h (fin v hv)
  have f65 : lo t = 1 ∨ lo t = 3 → ok (f_X6_single_65 a t (12 * (a : Int) + (t : Int)) (le j) (mo j) (lo t) (mk6 s a b l e ch d)) (fun u => u = mk6 s a (pm_up b t (mlow (lo t) (b t) (le j) (mo j))) (pm_up l t (sgl (hi t) (hn t) (l t) (mlow (lo t) (b t) (le j) (mo j)) (le j) (mo j) (e t))) (pm_up e t (if hi t = 0 ∨ hi t = 4 then e t else 0)) ch d) := by
    intro h
    unfold f_X6_single_65
    try simp only [n634, n635, n636, n643, n644, n6I, n6F, u634, u635, u636, u643, u644, n633, n604, n605, n606, n631, n621, n628, n607, n608, n622, n623, n626, n627, n638, nnat, i12, i2, ion]
    rw [pt_at ht12]
    have em : mlow (lo t) (b t) (le j) (mo j) = mx (b t) (le j) := if_pos h
    rw [em]
    have hcc := (fc_lt (fb_nan hb (by omega)) (fb_nan j10 (by omega)) .g).2.2.1
    refine ok_ck (by omega) (ok_if (fun q => ?_) (fun q => ok_ck (by omega) (ok_bs ?_)))
    · have : mx (b t) (le j) = b t := if_neg (by have := hcc.mp q; omega)
      rw [this]
      have := f87 (by omega) (b t) hb
      rw [up_self] at this ⊢
      exact this
    · have : mx (b t) (le j) = le j := if_pos (Int.not_le.mp (fun h => q (hcc.mpr h)))
      rw [this, pt_up ht12, u634]
      exact f87 (by omega) (le j) (fb_le j10 (by omega))
  refine ok_if (fun q => f65 (Or.inl q)) (fun q => ok_if (fun q2 => ?_) (fun q2 => f65 (Or.inr (by omega))))
  unfold f_X6_single_87
  try simp only [n634, n635, n636, n643, n644, n6I, n6F, u634, u635, u636, u643, u644, n633, n604, n605, n606, n631, n621, n628, n607, n608, n622, n623, n626, n627, n638, nnat, i12, i2, ion]
  rw [pt_at ht12]
  refine ok_if (fun q3 => ?_) (fun q3 => ok_ck (by omega) ?_)
  · have em : mlow (lo t) (b t) (le j) (mo j) = b t := by
      unfold mlow
      rw [if_neg (show ¬ (lo t = 1 ∨ lo t = 3) by omega), if_neg q3]
    rw [em]
    have := fin (b t) hb
    rw [up_self] at this ⊢
    exact this
  · have em : mlow (lo t) (b t) (le j) (mo j) = mx (b t) (mo j) := by
      unfold mlow
      rw [if_neg (show ¬ (lo t = 1 ∨ lo t = 3) by omega), if_pos (show lo t = 2 by omega)]
    rw [em]
    have hcc := (fc_lt (fb_nan hb (by omega)) (fb_nan j12 (by omega)) .g).2.2.1
    refine ok_if (fun q4 => ?_) (fun q4 => ok_ck (by omega) (ok_bs ?_))
    · have : mx (b t) (mo j) = b t := if_neg (by have := hcc.mp q4; omega)
      rw [this]
      have := fin (b t) hb
      rw [up_self] at this ⊢
      exact this
    · have : mx (b t) (mo j) = mo j := if_pos (Int.not_le.mp (fun h => q4 (hcc.mpr h)))
      rw [this, pt_up ht12, u634]
      exact fin (mo j) (fb_le j12 (by omega))
theorem k6_spans (hV : mv s a c n lo hi ln sp lnu hn le mo spc g how) (j w : Nat) (b l : Nat → UInt32) (e ch d : Nat → Int) (hj : j < n) :
    f_X6_spans a j w (mk6 s a b l e ch d) = some (if ln j ≠ 0 ∧ sp j = (w : Int) then 1 else 0, mk6 s a b l e ch d) := by
  obtain ⟨ha, hc, hc2, hn', hn2, hT, hJ, -⟩ := hV
  obtain ⟨j1, j2, j3, j4, j5, j6, j7, j8, j9, j10, j11, j12⟩ := hJ j hj
  refine of_ok ?_
  unfold f_X6_spans f_X6_spans_31 f_X6_spans_32
  try simp only [n634, n635, n636, n643, n644, n6I, n6F, u634, u635, u636, u643, u644, n633, n604, n605, n606, n631, n621, n628, n607, n608, n622, n623, n626, n627, n638, nnat, i12, i2, ion]
  rw [j1, j2]
  refine ok_ck (inR_of (by omega)) (ok_ck (inR_of (by omega)) (ok_ck (by omega) (ok_if (fun q => ok_ck (by simp) (ok_some ?_)) (fun q => ok_ck (inR_of (by omega)) (ok_ck (inR_of (by omega)) (ok_ck (by omega) (ok_if (fun q2 => ok_ck (by simp) (ok_some ?_)) (fun q2 => ok_ck (by simp) (ok_some ?_)))))))))
  · rw [if_neg (show ¬ (ln j ≠ 0 ∧ sp j = (w : Int)) by omega)]
  · rw [if_neg (show ¬ (ln j ≠ 0 ∧ sp j = (w : Int)) by omega)]
  · rw [if_pos (show ln j ≠ 0 ∧ sp j = (w : Int) by omega)]
/-- the reference's loop over the items of one track -/
theorem k6_singles (hV : mv s a c n lo hi ln sp lnu hn le mo spc g how) (L b l : Nat → UInt32) (e ch d : Nat → Int) (K : Int → pS → Option pS) (P : pS → Prop) (hb : ∀ t, t < c → fb 14 (b t) ∧ nn (b t)) (hL : ∀ t, t < c → fb 14 (L t) ∧ nn (L t)) (hR : RLm c hi L b l e)
    (hK : ∀ l' e', RLm c hi (sgL hi ln sp hn le mo L n) (sgB lo ln sp le mo b n) l' e' → ok (K a (mk6 s a (sgB lo ln sp le mo b n) l' e' ch d)) P) :
    ok (f_X6_sizes_7 K 400 a 0 (mk6 s a b l e ch d)) P := by
  have hV' := hV
  obtain ⟨ha, hc, hc2, hn', hn2, hT, hJ, -⟩ := hV'
  have hin : ∀ j, j < n → ln j ≠ 0 → sp j = 1 → (ln j - 1).toNat < c := by
    intro j hj h1 h2
    obtain ⟨j1, j2, j3, j4, j5, j6, j7, j8, j9, j10, j11, j12⟩ := hJ j hj
    have := j8 h1
    omega
  have fj : ∀ j, j < n → fb 14 (le j) ∧ fb 14 (mo j) := fun j hj => ⟨fb_le (hJ j hj).2.2.2.2.2.2.2.2.2.1 (by omega), fb_le (hJ j hj).2.2.2.2.2.2.2.2.2.2.2 (by omega)⟩
  have nj : ∀ j, j < n → nn (le j) ∧ nn (mo j) := fun j hj => ⟨(hJ j hj).2.2.2.2.2.2.2.2.1, (hJ j hj).2.2.2.2.2.2.2.2.2.2.1⟩
  have hnq : ∀ t, t < c → nn (hn t) ∧ fb 14 (hn t) := fun t ht => ⟨(hT t ht).2.2.2.2.2.2.2.2.2.1, (hT t ht).2.2.2.2.2.2.2.2.2.2⟩
  have B1 : ∀ k, k ≤ n → ∀ t, t < c → fb 14 (sgB lo ln sp le mo b k t) := fun k hk => sgB_q (fun _ _ _ _ => mlow_fb) (fun t ht => (hb t ht).1) (fun j hj => fj j (by omega)) (fun j hj => hin j (by omega))
  have B2 : ∀ k, k ≤ n → ∀ t, t < c → nn (sgB lo ln sp le mo b k t) := fun k hk => sgB_q (fun _ _ _ _ => mlow_nn) (fun t ht => (hb t ht).2) (fun j hj => nj j (by omega)) (fun j hj => hin j (by omega))
  have L1 : ∀ k, k ≤ n → ∀ t, t < c → fb 14 (sgL hi ln sp hn le mo L k t) := fun k hk => sgL_q (fun _ _ _ _ _ hw hx hy hz => mhigh_fb hx hy hz hw) (fun t ht => ⟨(hL t ht).1, (hnq t ht).2⟩) (fun j hj => fj j (by omega)) (fun j hj => hin j (by omega))
  have L2 : ∀ k, k ≤ n → ∀ t, t < c → nn (sgL hi ln sp hn le mo L k t) := fun k hk => sgL_q (fun _ _ _ _ _ hw hx hy hz => mhigh_nn hx hy hz hw) (fun t ht => ⟨(hL t ht).2, (hnq t ht).1⟩) (fun j hj => nj j (by omega)) (fun j hj => hin j (by omega))
  refine itJ (fun r k u => f_X6_sizes_7 K r a (k : Int) u) (fun k u => ∃ l' e', u = mk6 s a (sgB lo ln sp le mo b k) l' e' ch d ∧ RLm c hi (sgL hi ln sp hn le mo L k) (sgB lo ln sp le mo b k) l' e') n P (fun r k u hk hJk ih => ?_) (fun r u hJk => ?_) 400 0 _ (by omega) (by omega) ⟨l, e, rfl, hR⟩
  · obtain ⟨l', e', rfl, hR'⟩ := hJk
    rw [f_X6_sizes_7]
    unfold f_X6_sizes_31
    refine ok_neg (by rw [n6I]; omega) (ok_eq (k6_spans hV k 1 _ _ _ _ _ hk) ?_)
    dsimp only
    by_cases hq : ln k ≠ 0 ∧ sp k = ((1 : Nat) : Int)
    · have hq' : ln k ≠ 0 ∧ sp k = 1 := ⟨hq.1, by omega⟩
      rw [if_pos hq]
      have hlt := hin k hk hq.1 hq.2
      obtain ⟨j1, j2, j3, j4, j5, j6, j7, j8, j9, j10, j11, j12⟩ := hJ k hk
      have e1 : ln k = (((ln k - 1).toNat : Nat) : Int) + 1 := by omega
      have hRt := hR' _ hlt
      refine ok_neg (by decide) (ok_eq (k6_single hV k (ln k - 1).toNat _ l' e' ch d hk e1 hlt (fun h0 => ?_) (B1 k (by omega) _ hlt) hRt.1) (ok_ck (inR_of (by omega)) ?_))
      · have := hRt.2
        rw [if_pos h0] at this
        rw [this]
        exact mx_fb (L1 k (by omega) _ hlt) (B1 k (by omega) _ hlt)
      · refine ih _ ⟨pm_up l' (ln k - 1).toNat (sgl (hi (ln k - 1).toNat) (hn (ln k - 1).toNat) (l' (ln k - 1).toNat) (mlow (lo (ln k - 1).toNat) ((sgB lo ln sp le mo b k) (ln k - 1).toNat) (le k) (mo k)) (le k) (mo k) (e' (ln k - 1).toNat)), pm_up e' (ln k - 1).toNat (if hi (ln k - 1).toNat = 0 ∨ hi (ln k - 1).toNat = 4 then e' (ln k - 1).toNat else 0), ?_, ?_⟩
        rotate_left
        · rw [sgB, sgL, if_pos hq', if_pos hq']
          intro t ht
          by_cases htt : t = (ln k - 1).toNat
          · rw [htt, up_eq, up_eq, up_eq, up_eq]
            refine ⟨fun h => ?_, ?_⟩
            · rw [if_pos h]; exact hRt.1 h
            · exact rl_single (L2 k (by omega) _ hlt) (B2 k (by omega) _ hlt) j9 j11 (hnq _ hlt).1 hRt.1 ⟨(hT _ hlt).2.2.2.2.2.1, (hT _ hlt).2.2.2.2.2.2.1⟩ hRt.2
          · rw [up_ne _ _ htt, up_ne _ _ htt, up_ne _ _ htt, up_ne _ _ htt]
            exact hR' t ht
        · rw [sgB, if_pos hq']
    · have hq' : ¬ (ln k ≠ 0 ∧ sp k = 1) := fun h => hq ⟨h.1, by omega⟩
      rw [if_neg hq]
      refine ok_pos rfl (ok_ck (inR_of (by omega)) ?_)
      refine ih _ ⟨l', e', ?_, ?_⟩
      · rw [sgB, if_neg hq']
      · rw [sgB, sgL, if_neg hq', if_neg hq']
        exact hR'
  · obtain ⟨l', e', rfl, hR'⟩ := hJk
    rw [f_X6_sizes_7]
    exact ok_pos (by rw [n6I]; omega) (hK l' e' hR')
end
