/-! ===== SIZING: spreads (written by wip/whole/gen_siz.py) ===== -/
theorem ion (a k : Nat) : ((a : Int) + (k : Int)).toNat = a + k := by omega
theorem k_firstOf (i j : Nat) (s : pS) (a : Nat) (hj : j < 10) (h1 : sA s 11 i j = (a : Int) + 1) (h3 : a ≤ 12) : f_X2_firstOf i j s = some ((a : Int), s) := by
  refine of_ok ?_
  unfold f_X2_firstOf
  rw [nnat, h1]
  refine ok_ck (by omega) (ok_ck (inR_of (by omega)) (ok_some ?_))
  rw [show (a : Int) + 1 - 1 = a by omega]
theorem k_endOf (i j : Nat) (s : pS) (a n : Nat) (hj : j < 10) (h1 : sA s 11 i j = (a : Int) + 1) (h2 : sA s 5 i j = (n : Int)) (h3 : a + n ≤ 12) : f_X2_endOf i j s = some ((a : Int) + (n : Int), s) := by
  refine of_ok ?_
  unfold f_X2_endOf
  rw [nnat, h1, h2]
  refine ok_ck (by omega) (ok_ck (inR_of (by omega)) (ok_ck (by omega) (ok_ck (inR_of (by omega)) (ok_some ?_))))
  rw [show (a : Int) + 1 - 1 = a by omega]
/-- how many of n behind a are chosen -/
def cn (p : Nat → Int) (a : Nat) : Nat → Nat
  | 0 => 0
  | n + 1 => cn p a n + (if p (a + n) = 0 then 0 else 1)
theorem cn_le (p : Nat → Int) (a : Nat) : ∀ n, cn p a n ≤ n
  | 0 => Nat.le_refl _
  | n + 1 => by
    have := cn_le p a n
    show cn p a n + (if p (a + n) = 0 then 0 else 1) ≤ n + 1
    split <;> omega
theorem cn_congr {p p' : Nat → Int} {a : Nat} : ∀ {n : Nat}, (∀ t, a ≤ t → t < a + n → (p t = 0 ↔ p' t = 0)) → cn p a n = cn p' a n
  | 0, _ => rfl
  | n + 1, h => by
    show cn p a n + (if p (a + n) = 0 then 0 else 1) = cn p' a n + (if p' (a + n) = 0 then 0 else 1)
    rw [cn_congr (n := n) (fun t h1 h2 => h t h1 (by omega))]
    by_cases hp : p (a + n) = 0
    · rw [if_pos hp, if_pos ((h _ (by omega) (by omega)).mp hp)]
    · rw [if_neg hp, if_neg (fun hx => hp ((h _ (by omega) (by omega)).mpr hx))]
def ndy (lo hi : Nat → Int) : Nat → Int := fun t => if lo t = 0 ∨ hi t = 4 then 0 else 1
def wid (hi : Nat → Int) : Nat → Int := fun t => if hi t = 2 ∨ hi t = 3 ∨ hi t = 5 then 1 else 0
theorem k_chooseNeedy (i j : Nat) (s : pS) (a n : Nat) (b l : Nat → UInt32) (c : Nat → Int) (hj : j < 10) (h1 : sA s 11 i j = (a : Int) + 1) (h2 : sA s 5 i j = (n : Int)) (h3 : a + n ≤ 12) :
    f_X2_chooseNeedy i j (mk3 s i b l c) = some ((cn (ndy (sA s 300 i) (sA s 302 i)) a n : Int), mk3 s i b l (flo a n (ndy (sA s 300 i) (sA s 302 i)) c)) := by
  refine of_ok ?_
  unfold f_X2_chooseNeedy
  refine ok_eq (k_firstOf i j _ a hj h1 (by omega)) ?_
  have h := itS (fun r k => f_X2_chooseNeedy_8 i (fun x2 s2 => some (x2, s2)) r j (cn (ndy (sA s 300 i) (sA s 302 i)) a k) ((a : Int) + (k : Int)) (mk3 s i b l (flo a k (ndy (sA s 300 i) (sA s 302 i)) c))) n (fun x => x = ((cn (ndy (sA s 300 i) (sA s 302 i)) a n : Int), mk3 s i b l (flo a n (ndy (sA s 300 i) (sA s 302 i)) c))) (fun r k hk ih => ?_) (fun r => ?_) 400 0 (by omega) (by omega)
  · rw [flo_0] at h
    rw [show ((a : Int) + ((0 : Nat) : Int)) = (a : Int) by omega] at h
    exact h
  · rw [f_X2_chooseNeedy_8]
    have hcl := cn_le (ndy (sA s 300 i) (sA s 302 i)) a k
    refine ok_eq (k_endOf i j _ a n hj h1 h2 h3) ?_
    try simp only [m9, m203, m204, mI, mF, m300, m302, m11, m5, m301, m303, m6, m7, mk3_9, mk3_203, mk3_204, nnat, ion]
    unfold f_X2_chooseNeedy_51 f_X2_chooseNeedy_52 f_X2_chooseNeedy_68
    try simp only [m9, m203, m204, mI, mF, m300, m302, m11, m5, m301, m303, m6, m7, mk3_9, mk3_203, mk3_204, nnat, ion]
    refine ok_neg (by omega) (ok_ck (by omega) (ok_if (fun g1 => ok_ck (by omega) (ok_ck (by simp) (ok_bs (ok_ck (by omega) ?_)))) (fun g1 => ok_ck (by omega) (ok_if (fun g2 => ok_ck (by omega) (ok_ck (by simp) (ok_bs (ok_ck (by omega) ?_)))) (fun g2 => ok_ck (by omega) (ok_ck (by simp) (ok_bs (ok_ck (by omega) ?_))))))))
    · have e : ndy (sA s 300 i) (sA s 302 i) (a + k) = 0 := if_pos (Or.inl g1)
      try simp only [m9, m203, m204, mI, mF, m300, m302, m11, m5, m301, m303, m6, m7, mk3_9, mk3_203, mk3_204, nnat, ion]
      rw [cn, if_pos e] at ih
      rw [flo_up e.symm, flo_in (by omega), e]
      refine ok_pos rfl (ok_ck (inR_of (by omega)) (ok_bs (ok_ck (inR_of (by omega)) ?_)))
      rw [show (a : Int) + (k : Int) + 1 = (a : Int) + ((k + 1 : Nat) : Int) by omega]
      exact ih
    · have e : ndy (sA s 300 i) (sA s 302 i) (a + k) = 0 := if_pos (Or.inr g2)
      try simp only [m9, m203, m204, mI, mF, m300, m302, m11, m5, m301, m303, m6, m7, mk3_9, mk3_203, mk3_204, nnat, ion]
      rw [cn, if_pos e] at ih
      rw [flo_up e.symm, flo_in (by omega), e]
      refine ok_pos rfl (ok_ck (inR_of (by omega)) (ok_bs (ok_ck (inR_of (by omega)) ?_)))
      rw [show (a : Int) + (k : Int) + 1 = (a : Int) + ((k + 1 : Nat) : Int) by omega]
      exact ih
    · have e : ndy (sA s 300 i) (sA s 302 i) (a + k) = 1 := if_neg (by omega)
      try simp only [m9, m203, m204, mI, mF, m300, m302, m11, m5, m301, m303, m6, m7, mk3_9, mk3_203, mk3_204, nnat, ion]
      rw [cn, if_neg (by omega)] at ih
      rw [flo_up e.symm, flo_in (by omega), e]
      refine ok_neg (by decide) (ok_ck (inR_of (by omega)) (ok_bs (ok_ck (inR_of (by omega)) ?_)))
      rw [show (a : Int) + (k : Int) + 1 = (a : Int) + ((k + 1 : Nat) : Int) by omega]
      exact ih
  · rw [f_X2_chooseNeedy_8]
    refine ok_eq (k_endOf i j _ a n hj h1 h2 h3) ?_
    exact ok_pos (by omega) (ok_some rfl)
theorem k_chooseWide (i j : Nat) (s : pS) (a n : Nat) (b l : Nat → UInt32) (c : Nat → Int) (hj : j < 10) (h1 : sA s 11 i j = (a : Int) + 1) (h2 : sA s 5 i j = (n : Int)) (h3 : a + n ≤ 12) :
    f_X2_chooseWide i j (mk3 s i b l c) = some ((cn (wid (sA s 302 i)) a n : Int), mk3 s i b l (flo a n (wid (sA s 302 i)) c)) := by
  refine of_ok ?_
  unfold f_X2_chooseWide
  refine ok_eq (k_firstOf i j _ a hj h1 (by omega)) ?_
  have h := itS (fun r k => f_X2_chooseWide_8 i (fun x2 s2 => some (x2, s2)) r j (cn (wid (sA s 302 i)) a k) ((a : Int) + (k : Int)) (mk3 s i b l (flo a k (wid (sA s 302 i)) c))) n (fun x => x = ((cn (wid (sA s 302 i)) a n : Int), mk3 s i b l (flo a n (wid (sA s 302 i)) c))) (fun r k hk ih => ?_) (fun r => ?_) 400 0 (by omega) (by omega)
  · rw [flo_0] at h
    rw [show ((a : Int) + ((0 : Nat) : Int)) = (a : Int) by omega] at h
    exact h
  · rw [f_X2_chooseWide_8]
    have hcl := cn_le (wid (sA s 302 i)) a k
    refine ok_eq (k_endOf i j _ a n hj h1 h2 h3) ?_
    try simp only [m9, m203, m204, mI, mF, m300, m302, m11, m5, m301, m303, m6, m7, mk3_9, mk3_203, mk3_204, nnat, ion]
    unfold f_X2_chooseWide_51 f_X2_chooseWide_56 f_X2_chooseWide_72
    try simp only [m9, m203, m204, mI, mF, m300, m302, m11, m5, m301, m303, m6, m7, mk3_9, mk3_203, mk3_204, nnat, ion]
    refine ok_neg (by omega) (ok_ck (by omega) (ok_bs (ok_if (fun g1 => ok_ck (by omega) (ok_ck (by simp) (ok_bs (ok_ck (by omega) ?_)))) (fun g1 => ok_if (fun g2 => ok_ck (by omega) (ok_ck (by simp) (ok_bs (ok_ck (by omega) ?_)))) (fun g2 => ok_if (fun g3 => ok_ck (by omega) (ok_ck (by simp) (ok_bs (ok_ck (by omega) ?_)))) (fun g3 => ok_ck (by omega) (ok_ck (by simp) (ok_bs (ok_ck (by omega) ?_)))))))))
    · have e : wid (sA s 302 i) (a + k) = 1 := if_pos (by omega)
      try simp only [m9, m203, m204, mI, mF, m300, m302, m11, m5, m301, m303, m6, m7, mk3_9, mk3_203, mk3_204, nnat, ion]
      rw [cn, if_neg (by omega)] at ih
      rw [flo_up e.symm, flo_in (by omega), e]
      refine ok_neg (by decide) (ok_ck (inR_of (by omega)) (ok_bs (ok_ck (inR_of (by omega)) ?_)))
      rw [show (a : Int) + (k : Int) + 1 = (a : Int) + ((k + 1 : Nat) : Int) by omega]
      exact ih
    · have e : wid (sA s 302 i) (a + k) = 1 := if_pos (by omega)
      try simp only [m9, m203, m204, mI, mF, m300, m302, m11, m5, m301, m303, m6, m7, mk3_9, mk3_203, mk3_204, nnat, ion]
      rw [cn, if_neg (by omega)] at ih
      rw [flo_up e.symm, flo_in (by omega), e]
      refine ok_neg (by decide) (ok_ck (inR_of (by omega)) (ok_bs (ok_ck (inR_of (by omega)) ?_)))
      rw [show (a : Int) + (k : Int) + 1 = (a : Int) + ((k + 1 : Nat) : Int) by omega]
      exact ih
    · have e : wid (sA s 302 i) (a + k) = 0 := if_neg (by omega)
      try simp only [m9, m203, m204, mI, mF, m300, m302, m11, m5, m301, m303, m6, m7, mk3_9, mk3_203, mk3_204, nnat, ion]
      rw [cn, if_pos e] at ih
      rw [flo_up e.symm, flo_in (by omega), e]
      refine ok_pos rfl (ok_ck (inR_of (by omega)) (ok_bs (ok_ck (inR_of (by omega)) ?_)))
      rw [show (a : Int) + (k : Int) + 1 = (a : Int) + ((k + 1 : Nat) : Int) by omega]
      exact ih
    · have e : wid (sA s 302 i) (a + k) = 1 := if_pos (by omega)
      try simp only [m9, m203, m204, mI, mF, m300, m302, m11, m5, m301, m303, m6, m7, mk3_9, mk3_203, mk3_204, nnat, ion]
      rw [cn, if_neg (by omega)] at ih
      rw [flo_up e.symm, flo_in (by omega), e]
      refine ok_neg (by decide) (ok_ck (inR_of (by omega)) (ok_bs (ok_ck (inR_of (by omega)) ?_)))
      rw [show (a : Int) + (k : Int) + 1 = (a : Int) + ((k + 1 : Nat) : Int) by omega]
      exact ih
  · rw [f_X2_chooseWide_8]
    refine ok_eq (k_endOf i j _ a n hj h1 h2 h3) ?_
    exact ok_pos (by omega) (ok_some rfl)
/-- what a spread over the n tracks behind a leaves of x -/
def spx (x g : UInt32) (b : Nat → UInt32) (a n : Nat) : UInt32 := subs (subs x (fun k => b (a + k)) n) (fun _ => g) (n - 1)
def spn (y : UInt32) (b : Nat → UInt32) (p : Nat → Int) : Nat → UInt32 := fun t => if p t = 0 then b t else FP.fadd (b t) y
def sprd (x g : UInt32) (b : Nat → UInt32) (p : Nat → Int) (a n : Nat) : Nat → UInt32 :=
  if cn p a n = 0 then b else if fk (spx x g b a n) ≤ 0 then b else flo a n (spn (FP.fdiv (spx x g b a n) (FP.i2f (Int32.ofInt (cn p a n : Int)))) b p) b
theorem spx_fb {m : Nat} {x g : UInt32} {b : Nat → UInt32} {a n : Nat} (hx : fb m x) (hg : fb m g) (hb : ∀ t, a ≤ t → t < a + n → fb m (b t)) (hn : n ≤ 4) (hm : m ≤ 100) : fb (m + 7) (spx x g b a n) := by
  have h1 := subs_fb (n := n) (b := fun k => b (a + k)) hx (fun t ht => hb _ (by omega) (by omega)) (by omega)
  have h2 := subs_fb (n := n - 1) (b := fun _ => g) h1 (fun _ _ => fb_le hg (by omega)) (by omega)
  exact fb_le h2 (by omega)
theorem spx_pos {m : Nat} {x g : UInt32} {b : Nat → UInt32} {a n : Nat} (hx : fb 12 x) (hxn : nn x) (hg : fb 12 g ∧ nn g) (hb : ∀ t, a ≤ t → t < a + n → fb m (b t) ∧ nn (b t)) (hn : n ≤ 4) (hm : m ≤ 100) (hm2 : 12 ≤ m) (h0 : 0 < fk (spx x g b a n)) : fb 12 (spx x g b a n) ∧ nn (spx x g b a n) := by
  have h1 := subs_fb (n := n) (b := fun k => b (a + k)) (fb_le hx hm2) (fun t ht => (hb _ (by omega) (by omega)).1) (by omega)
  have h2 := subs_le (n := n - 1) (b := fun _ => g) h1 (fun _ _ => ⟨fb_le hg.1 (by omega), hg.2⟩) (by omega)
  have h3 := subs_le (n := n) (b := fun k => b (a + k)) (fb_le hx hm2) (fun t ht => hb _ (by omega) (by omega)) (by omega)
  exact pos_fb hx hxn h0 (Int.le_trans h2 h3)
theorem i2f_pos {n : Nat} (h0 : n ≠ 0) (h : n ≤ 100) : 127 * 2 ^ 23 ≤ (FP.i2f (Int32.ofInt (n : Int))).toNat % 2 ^ 31 ∧ (FP.i2f (Int32.ofInt (n : Int))).toNat % 2 ^ 31 < 255 * 2 ^ 23 ∧ nn (FP.i2f (Int32.ofInt (n : Int))) ∧ FP.Core.FFin (FP.i2f (Int32.ofInt (n : Int))) := by
  have e : (Int32.ofInt (n : Int)).toInt = (n : Int) := Int32.toInt_ofInt_of_le (by omega) (by omega)
  obtain ⟨h1, h2⟩ := big_i2f (v := Int32.ofInt (n : Int)) (by omega)
  exact ⟨h1, h2, nn_i2f (by omega), fb_fin (fb_i2f _) (by decide)⟩
theorem part_fb {m : Nat} {x : UInt32} {n : Nat} (hx : fb m x) (hn : n ≠ 0) (hn2 : n ≤ 100) (hm : m ≤ 120) : fb (m + 2) (FP.fdiv x (FP.i2f (Int32.ofInt (n : Int)))) := by
  obtain ⟨h1, h2, -, -⟩ := i2f_pos hn hn2
  exact fb_div hx h1 h2 hm
theorem part_nn {m : Nat} {x : UInt32} {n : Nat} (hx : fb m x) (hxn : nn x) (hn : n ≠ 0) (hn2 : n ≤ 100) (hm : m ≤ 127) : nn (FP.fdiv x (FP.i2f (Int32.ofInt (n : Int)))) := by
  obtain ⟨h1, h2, h3, h4⟩ := i2f_pos hn hn2
  exact nn_div (fb_fin hx hm) h4 (by omega) hxn h3
theorem k_lessSizes_9 {m : Nat} (i j : Nat) (s : pS) (a n : Nat) (b l : Nat → UInt32) (c : Nat → Int) (x : UInt32) (hj : j < 10) (h1 : sA s 11 i j = (a : Int) + 1) (h2 : sA s 5 i j = (n : Int)) (h3 : a + n ≤ 12) (hx : fb m x) (hb : ∀ t, a ≤ t → t < a + n → fb m (b t)) (hm : m ≤ 110) :
    f_X2_lessSizes_9 i x i j (mk3 s i b l c) = some (subs x (fun k => b (a + k)) n, mk3 s i b l c) := by
  refine of_ok ?_
  unfold f_X2_lessSizes_9
  refine ok_eq (k_firstOf i j _ a hj h1 (by omega)) ?_
  have h := itS (fun r k => f_X2_lessSizes_9_10 i i (fun x4 s2 => some (x4, s2)) r j (subs x (fun k => b (a + k)) k) ((a : Int) + (k : Int)) (mk3 s i b l c)) n (fun y => y = (subs x (fun k => b (a + k)) n, mk3 s i b l c)) (fun r k hk ih => ?_) (fun r => ?_) 400 0 (by omega) (by omega)
  · rw [show ((a : Int) + ((0 : Nat) : Int)) = (a : Int) by omega] at h
    exact h
  · rw [f_X2_lessSizes_9_10]
    refine ok_eq (k_endOf i j _ a n hj h1 h2 h3) ?_
    try simp only [m9, m203, m204, mI, mF, m300, m302, m11, m5, m301, m303, m6, m7, mk3_9, mk3_203, mk3_204, nnat, ion]
    refine ok_neg (by omega) (ok_ck (by omega) (ok_ck (fb_n32 (subs_fb (n := k + 1) (b := fun k => b (a + k)) hx (fun t ht => hb _ (by omega) (by omega)) (by omega)) (by omega)) (ok_bs (ok_ck (inR_of (by omega)) ?_))))
    rw [show (a : Int) + (k : Int) + 1 = (a : Int) + ((k + 1 : Nat) : Int) by omega]
    exact ih
  · rw [f_X2_lessSizes_9_10]
    refine ok_eq (k_endOf i j _ a n hj h1 h2 h3) ?_
    exact ok_pos (by omega) (ok_some rfl)
theorem k_spread_9 {m : Nat} (i j : Nat) (s : pS) (a n : Nat) (b l : Nat → UInt32) (c p : Nat → Int) (x : UInt32) (hj : j < 10) (h1 : sA s 11 i j = (a : Int) + 1) (h2 : sA s 5 i j = (n : Int)) (h3 : a + n ≤ 12) (hn4 : n ≤ 4) (hx : fb 12 x) (hxn : nn x) (hg : fb 12 (sF s 2 i) ∧ nn (sF s 2 i)) (hb : ∀ t, a ≤ t → t < a + n → fb m (b t) ∧ nn (b t)) (hm : m ≤ 90) (hm2 : 14 ≤ m) (hp : ∀ t, a ≤ t → t < a + n → c t = p t) :
    f_X2_spread_9 i x i j (cn p a n : Int) (mk3 s i b l c) = some (mk3 s i (sprd x (sF s 2 i) b p a n) l c) := by
  refine of_ok ?_
  unfold f_X2_spread_9 sprd
  have hcn := cn_le p a n
  refine ok_if (fun g1 => ?_) (fun g1 => ?_)
  · rw [if_neg (by omega)]
    refine ok_eq (k_lessSizes_9 (m := m) i j s a n b l c x hj h1 h2 h3 (fb_le hx (by omega)) (fun t q1 q2 => (hb t q1 q2).1) (by omega)) (ok_ck (by omega) ?_)
    try simp only [m9, m203, m204, mI, mF, m300, m302, m11, m5, m301, m303, m6, m7, mk3_9, mk3_203, mk3_204, nnat, ion]
    rw [h2]
    have q1 := subs_fb (n := n) (b := fun k => b (a + k)) (fb_le hx (show 12 ≤ m by omega)) (fun t ht => (hb _ (by omega) (by omega)).1) (by omega)
    refine ok_eq (k_lessGaps (m := m + n) i _ n _ (by omega) q1 (fb_le hg.1 (by omega)) (by omega)) ?_
    show ok (@ite _ (pm_fc .l (spx x (sF s 2 i) b a n) FP.fconst0 ≤ 0) _ _ _) _
    have q2 := spx_fb (m := m) (fb_le hx (by omega)) (fb_le hg.1 (by omega)) (fun t q1 q2 => (hb t q1 q2).1) hn4 (by omega)
    have q3 := (fc_lt (fb_nan q2 (by omega)) (fb_nan (fb0 0) (by omega)) .l).2.1
    rw [show fk FP.fconst0 = 0 from rfl] at q3
    refine ok_if (fun g2 => ?_) (fun g2 => ?_)
    · rw [if_pos (q3.mp g2)]
      exact ok_some rfl
    · rw [if_neg (fun hx => g2 (q3.mpr hx))]
      have q4 := spx_pos (m := m) hx hxn hg hb hn4 (by omega) (by omega) (Int.not_le.mp (fun hx => g2 (q3.mpr hx)))
      have q5 := part_fb (n := cn p a n) q4.1 (by omega) (by omega) (by omega)
      refine ok_ck (fb_n32 q5 (by omega)) (ok_bs (ok_eq (k_firstOf i j _ a hj h1 (by omega)) ?_))
      have h := itS (fun r k => f_X2_spread_9_50 i i (fun s7 => f_X2_spread_9_87 i i s7) r j (FP.fdiv (spx x (sF s 2 i) b a n) (FP.i2f (Int32.ofInt (cn p a n : Int)))) ((a : Int) + (k : Int)) (mk3 s i (flo a k (spn (FP.fdiv (spx x (sF s 2 i) b a n) (FP.i2f (Int32.ofInt (cn p a n : Int)))) b p) b) l c)) n (fun y => y = (mk3 s i (flo a n (spn (FP.fdiv (spx x (sF s 2 i) b a n) (FP.i2f (Int32.ofInt (cn p a n : Int)))) b p) b) l c)) (fun r k hk ih => ?_) (fun r => ?_) 400 0 (by omega) (by omega)
      · rw [show ((a : Int) + ((0 : Nat) : Int)) = (a : Int) by omega, flo_0] at h
        exact h
      · rw [f_X2_spread_9_50]
        refine ok_eq (k_endOf i j _ a n hj h1 h2 h3) ?_
        unfold f_X2_spread_9_81
        try simp only [m9, m203, m204, mI, mF, m300, m302, m11, m5, m301, m303, m6, m7, mk3_9, mk3_203, mk3_204, nnat, ion]
        rw [hp (a + k) (by omega) (by omega), flo_at]
        refine ok_neg (by omega) (ok_ck (by omega) (ok_if (fun g3 => ok_ck (inR_of (by omega)) ?_) (fun g3 => ?_)))
        · rw [flo_skip (by unfold spn; rw [if_pos g3])] at ih
          rw [show (a : Int) + (k : Int) + 1 = (a : Int) + ((k + 1 : Nat) : Int) by omega]
          exact ih
        · refine ok_ck (by omega) (ok_ck (fb_n32 (fb_add (m := m) (hb _ (by omega) (by omega)).1 (fb_le q5 (by omega)) (by omega)) (by omega)) (ok_ck (by omega) (ok_bs ?_)))
          try simp only [m9, m203, m204, mI, mF, m300, m302, m11, m5, m301, m303, m6, m7, mk3_9, mk3_203, mk3_204, nnat, ion]
          refine ok_ck (inR_of (by omega)) ?_
          rw [flo_up (by unfold spn; rw [if_neg g3])]
          rw [show (a : Int) + (k : Int) + 1 = (a : Int) + ((k + 1 : Nat) : Int) by omega]
          exact ih
      · rw [f_X2_spread_9_50]
        refine ok_eq (k_endOf i j _ a n hj h1 h2 h3) ?_
        exact ok_pos (by omega) (ok_some rfl)
  · rw [if_pos (by omega)]
    exact ok_some rfl
theorem k_lessSizes_203 {m : Nat} (i j : Nat) (s : pS) (a n : Nat) (b l : Nat → UInt32) (c : Nat → Int) (x : UInt32) (hj : j < 10) (h1 : sA s 11 i j = (a : Int) + 1) (h2 : sA s 5 i j = (n : Int)) (h3 : a + n ≤ 12) (hx : fb m x) (hb : ∀ t, a ≤ t → t < a + n → fb m (l t)) (hm : m ≤ 110) :
    f_X2_lessSizes_203 i x i j (mk3 s i b l c) = some (subs x (fun k => l (a + k)) n, mk3 s i b l c) := by
  refine of_ok ?_
  unfold f_X2_lessSizes_203
  refine ok_eq (k_firstOf i j _ a hj h1 (by omega)) ?_
  have h := itS (fun r k => f_X2_lessSizes_203_10 i i (fun x4 s2 => some (x4, s2)) r j (subs x (fun k => l (a + k)) k) ((a : Int) + (k : Int)) (mk3 s i b l c)) n (fun y => y = (subs x (fun k => l (a + k)) n, mk3 s i b l c)) (fun r k hk ih => ?_) (fun r => ?_) 400 0 (by omega) (by omega)
  · rw [show ((a : Int) + ((0 : Nat) : Int)) = (a : Int) by omega] at h
    exact h
  · rw [f_X2_lessSizes_203_10]
    refine ok_eq (k_endOf i j _ a n hj h1 h2 h3) ?_
    try simp only [m9, m203, m204, mI, mF, m300, m302, m11, m5, m301, m303, m6, m7, mk3_9, mk3_203, mk3_204, nnat, ion]
    refine ok_neg (by omega) (ok_ck (by omega) (ok_ck (fb_n32 (subs_fb (n := k + 1) (b := fun k => l (a + k)) hx (fun t ht => hb _ (by omega) (by omega)) (by omega)) (by omega)) (ok_bs (ok_ck (inR_of (by omega)) ?_))))
    rw [show (a : Int) + (k : Int) + 1 = (a : Int) + ((k + 1 : Nat) : Int) by omega]
    exact ih
  · rw [f_X2_lessSizes_203_10]
    refine ok_eq (k_endOf i j _ a n hj h1 h2 h3) ?_
    exact ok_pos (by omega) (ok_some rfl)
theorem k_spread_203 {m : Nat} (i j : Nat) (s : pS) (a n : Nat) (b l : Nat → UInt32) (c p : Nat → Int) (x : UInt32) (hj : j < 10) (h1 : sA s 11 i j = (a : Int) + 1) (h2 : sA s 5 i j = (n : Int)) (h3 : a + n ≤ 12) (hn4 : n ≤ 4) (hx : fb 12 x) (hxn : nn x) (hg : fb 12 (sF s 2 i) ∧ nn (sF s 2 i)) (hb : ∀ t, a ≤ t → t < a + n → fb m (l t) ∧ nn (l t)) (hm : m ≤ 90) (hm2 : 14 ≤ m) (hp : ∀ t, a ≤ t → t < a + n → c t = p t) :
    f_X2_spread_203 i x i j (cn p a n : Int) (mk3 s i b l c) = some (mk3 s i b (sprd x (sF s 2 i) l p a n) c) := by
  refine of_ok ?_
  unfold f_X2_spread_203 sprd
  have hcn := cn_le p a n
  refine ok_if (fun g1 => ?_) (fun g1 => ?_)
  · rw [if_neg (by omega)]
    refine ok_eq (k_lessSizes_203 (m := m) i j s a n b l c x hj h1 h2 h3 (fb_le hx (by omega)) (fun t q1 q2 => (hb t q1 q2).1) (by omega)) (ok_ck (by omega) ?_)
    try simp only [m9, m203, m204, mI, mF, m300, m302, m11, m5, m301, m303, m6, m7, mk3_9, mk3_203, mk3_204, nnat, ion]
    rw [h2]
    have q1 := subs_fb (n := n) (b := fun k => l (a + k)) (fb_le hx (show 12 ≤ m by omega)) (fun t ht => (hb _ (by omega) (by omega)).1) (by omega)
    refine ok_eq (k_lessGaps (m := m + n) i _ n _ (by omega) q1 (fb_le hg.1 (by omega)) (by omega)) ?_
    show ok (@ite _ (pm_fc .l (spx x (sF s 2 i) l a n) FP.fconst0 ≤ 0) _ _ _) _
    have q2 := spx_fb (m := m) (fb_le hx (by omega)) (fb_le hg.1 (by omega)) (fun t q1 q2 => (hb t q1 q2).1) hn4 (by omega)
    have q3 := (fc_lt (fb_nan q2 (by omega)) (fb_nan (fb0 0) (by omega)) .l).2.1
    rw [show fk FP.fconst0 = 0 from rfl] at q3
    refine ok_if (fun g2 => ?_) (fun g2 => ?_)
    · rw [if_pos (q3.mp g2)]
      exact ok_some rfl
    · rw [if_neg (fun hx => g2 (q3.mpr hx))]
      have q4 := spx_pos (m := m) hx hxn hg hb hn4 (by omega) (by omega) (Int.not_le.mp (fun hx => g2 (q3.mpr hx)))
      have q5 := part_fb (n := cn p a n) q4.1 (by omega) (by omega) (by omega)
      refine ok_ck (fb_n32 q5 (by omega)) (ok_bs (ok_eq (k_firstOf i j _ a hj h1 (by omega)) ?_))
      have h := itS (fun r k => f_X2_spread_203_50 i i (fun s7 => f_X2_spread_203_87 i i s7) r j (FP.fdiv (spx x (sF s 2 i) l a n) (FP.i2f (Int32.ofInt (cn p a n : Int)))) ((a : Int) + (k : Int)) (mk3 s i b (flo a k (spn (FP.fdiv (spx x (sF s 2 i) l a n) (FP.i2f (Int32.ofInt (cn p a n : Int)))) l p) l) c)) n (fun y => y = (mk3 s i b (flo a n (spn (FP.fdiv (spx x (sF s 2 i) l a n) (FP.i2f (Int32.ofInt (cn p a n : Int)))) l p) l) c)) (fun r k hk ih => ?_) (fun r => ?_) 400 0 (by omega) (by omega)
      · rw [show ((a : Int) + ((0 : Nat) : Int)) = (a : Int) by omega, flo_0] at h
        exact h
      · rw [f_X2_spread_203_50]
        refine ok_eq (k_endOf i j _ a n hj h1 h2 h3) ?_
        unfold f_X2_spread_203_81
        try simp only [m9, m203, m204, mI, mF, m300, m302, m11, m5, m301, m303, m6, m7, mk3_9, mk3_203, mk3_204, nnat, ion]
        rw [hp (a + k) (by omega) (by omega), flo_at]
        refine ok_neg (by omega) (ok_ck (by omega) (ok_if (fun g3 => ok_ck (inR_of (by omega)) ?_) (fun g3 => ?_)))
        · rw [flo_skip (by unfold spn; rw [if_pos g3])] at ih
          rw [show (a : Int) + (k : Int) + 1 = (a : Int) + ((k + 1 : Nat) : Int) by omega]
          exact ih
        · refine ok_ck (by omega) (ok_ck (fb_n32 (fb_add (m := m) (hb _ (by omega) (by omega)).1 (fb_le q5 (by omega)) (by omega)) (by omega)) (ok_ck (by omega) (ok_bs ?_)))
          try simp only [m9, m203, m204, mI, mF, m300, m302, m11, m5, m301, m303, m6, m7, mk3_9, mk3_203, mk3_204, nnat, ion]
          refine ok_ck (inR_of (by omega)) ?_
          rw [flo_up (by unfold spn; rw [if_neg g3])]
          rw [show (a : Int) + (k : Int) + 1 = (a : Int) + ((k + 1 : Nat) : Int) by omega]
          exact ih
      · rw [f_X2_spread_203_50]
        refine ok_eq (k_endOf i j _ a n hj h1 h2 h3) ?_
        exact ok_pos (by omega) (ok_some rfl)
  · rw [if_pos (by omega)]
    exact ok_some rfl
