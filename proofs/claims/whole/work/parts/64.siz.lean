/-! ===== SIZING: the class (written by wip/whole/gen_siz.py) ===== -/
def mx (a b : UInt32) : UInt32 := if fk a < fk b then b else a
def mn (a b : UInt32) : UInt32 := if fk b < fk a then b else a
def flo {α : Type} (o k : Nat) (new old : Nat → α) : Nat → α := fun t => if o ≤ t ∧ t < o + k then new t else old t
theorem flo_0 {α : Type} (o : Nat) (new old : Nat → α) : flo o 0 new old = old := by
  funext t; unfold flo; rw [if_neg (by omega)]
theorem flo_at {α : Type} {o k : Nat} {new old : Nat → α} : flo o k new old (o + k) = old (o + k) := by
  unfold flo; rw [if_neg (by omega)]
theorem flo_at0 {α : Type} {k : Nat} {new old : Nat → α} : flo 0 k new old k = old k := by
  unfold flo; rw [if_neg (by omega)]
theorem flo_up {α : Type} {o k : Nat} {new old : Nat → α} {v : α} (h : v = new (o + k)) : pm_up (flo o k new old) (o + k) v = flo o (k + 1) new old := by
  funext t
  unfold flo pm_up
  by_cases ht : t = o + k
  · rw [if_pos ht, if_pos (by omega), h, ht]
  · rw [if_neg ht]
    show (if o ≤ t ∧ t < o + k then new t else old t) = _
    by_cases h2 : o ≤ t ∧ t < o + k
    · rw [if_pos h2, if_pos (by omega)]
    · rw [if_neg h2, if_neg (by omega)]
theorem flo_up0 {α : Type} {k : Nat} {new old : Nat → α} {v : α} (h : v = new k) : pm_up (flo 0 k new old) k v = flo 0 (k + 1) new old := by
  have := flo_up (o := 0) (k := k) (new := new) (old := old) (v := v) (by rw [Nat.zero_add]; exact h)
  rw [Nat.zero_add] at this
  exact this
theorem flo_skip {α : Type} {o k : Nat} {new old : Nat → α} (h : new (o + k) = old (o + k)) : flo o (k + 1) new old = flo o k new old := by
  rw [← flo_up (v := new (o + k)) rfl, h]
  exact up_self' flo_at.symm
theorem flo_skip0 {α : Type} {k : Nat} {new old : Nat → α} (h : new k = old k) : flo 0 (k + 1) new old = flo 0 k new old := by
  refine flo_skip (o := 0) ?_
  rw [Nat.zero_add]; exact h
theorem flo_in {α : Type} {o k t : Nat} {new old : Nat → α} (h : o ≤ t ∧ t < o + k) : flo o k new old t = new t := if_pos h
theorem flo_out {α : Type} {o k t : Nat} {new old : Nat → α} (h : ¬ (o ≤ t ∧ t < o + k)) : flo o k new old t = old t := if_neg h
/-- the state in which the axis i has these bases, limits and choice -/
def mk3 (s : pS) (i : Nat) (b l : Nat → UInt32) (c : Nat → Int) : pS := wB (wB (wA s 204 i c) 9 i b) 203 i l
theorem mk3_self (s : pS) (i : Nat) : mk3 s i (sB s 9 i) (sB s 203 i) (sA s 204 i) = s := by
  unfold mk3
  rw [wA_self]
  rw [wB_self]
  exact wB_self s 203 i
theorem mk3_9 (s : pS) (i : Nat) (b l b' : Nat → UInt32) (c : Nat → Int) : wB (mk3 s i b l c) 9 i b' = mk3 s i b' l c := by
  unfold mk3
  rw [wB_comm _ _ _ (by decide : 203 ≠ 9), wB_wB]
theorem mk3_203 (s : pS) (i : Nat) (b l l' : Nat → UInt32) (c : Nat → Int) : wB (mk3 s i b l c) 203 i l' = mk3 s i b l' c := by
  unfold mk3
  rw [wB_wB]
theorem mk3_204 (s : pS) (i : Nat) (b l : Nat → UInt32) (c c' : Nat → Int) : wA (mk3 s i b l c) 204 i c' = mk3 s i b l c' := by
  unfold mk3
  rw [← wA_wA s 204 i c c']
  rfl
theorem m9 (s : pS) (i : Nat) (b l : Nat → UInt32) (c : Nat → Int) : sB (mk3 s i b l c) 9 i = b := by
  unfold mk3
  rw [sB_wB, if_neg (by omega), sB_wB, if_pos ⟨rfl, rfl⟩]
theorem m203 (s : pS) (i : Nat) (b l : Nat → UInt32) (c : Nat → Int) : sB (mk3 s i b l c) 203 i = l := by
  unfold mk3
  rw [sB_wB, if_pos ⟨rfl, rfl⟩]
theorem m204 (s : pS) (i : Nat) (b l : Nat → UInt32) (c : Nat → Int) : sA (mk3 s i b l c) 204 i = c := by
  unfold mk3
  rw [sA_wB, sA_wB, sA_wA, if_pos ⟨rfl, rfl⟩]
theorem mI (s : pS) (i : Nat) (b l : Nat → UInt32) (c : Nat → Int) (f j : Nat) : sI (mk3 s i b l c) f j = sI s f j := rfl
theorem mF (s : pS) (i : Nat) (b l : Nat → UInt32) (c : Nat → Int) (f j : Nat) : sF (mk3 s i b l c) f j = sF s f j := rfl
theorem m300 (s : pS) (i : Nat) (b l : Nat → UInt32) (c : Nat → Int) : sA (mk3 s i b l c) 300 i = sA s 300 i := rfl
theorem m302 (s : pS) (i : Nat) (b l : Nat → UInt32) (c : Nat → Int) : sA (mk3 s i b l c) 302 i = sA s 302 i := rfl
theorem m11 (s : pS) (i : Nat) (b l : Nat → UInt32) (c : Nat → Int) : sA (mk3 s i b l c) 11 i = sA s 11 i := rfl
theorem m5 (s : pS) (i : Nat) (b l : Nat → UInt32) (c : Nat → Int) : sA (mk3 s i b l c) 5 i = sA s 5 i := rfl
theorem m301 (s : pS) (i : Nat) (b l : Nat → UInt32) (c : Nat → Int) : sB (mk3 s i b l c) 301 i = sB s 301 i := rfl
theorem m303 (s : pS) (i : Nat) (b l : Nat → UInt32) (c : Nat → Int) : sB (mk3 s i b l c) 303 i = sB s 303 i := rfl
theorem m6 (s : pS) (i : Nat) (b l : Nat → UInt32) (c : Nat → Int) : sB (mk3 s i b l c) 6 i = sB s 6 i := rfl
theorem m7 (s : pS) (i : Nat) (b l : Nat → UInt32) (c : Nat → Int) : sB (mk3 s i b l c) 7 i = sB s 7 i := rfl
/-- what is known of the axis i: c tracks, n items -/
def cax (s : pS) (i c n : Nat) : Prop := sI s 8 i = (c : Int) ∧ c ≤ 12 ∧ sI s 205 i = (n : Int) ∧ n ≤ 10
  ∧ (∀ j, j < n → 0 ≤ sA s 11 i j ∧ 1 ≤ sA s 5 i j ∧ sA s 5 i j ≤ 4 ∧ (sA s 11 i j ≠ 0 → sA s 11 i j - 1 + sA s 5 i j ≤ (c : Int)))
  ∧ (nn (sF s 1 i) ∧ fb 12 (sF s 1 i) ∧ nn (sF s 2 i) ∧ fb 12 (sF s 2 i))
  ∧ (∀ j, j < 10 → nn (sB s 6 i j) ∧ fb 12 (sB s 6 i j) ∧ nn (sB s 7 i j) ∧ fb 12 (sB s 7 i j))
  ∧ (∀ t, t < 12 → nn (sB s 301 i t) ∧ fb 14 (sB s 301 i t) ∧ nn (sB s 303 i t) ∧ fb 14 (sB s 303 i t))
theorem k_greater {m : Nat} {a b : UInt32} (s : pS) (hm : m ≤ 127) (ha : fb m a) (hb : fb m b) : f_X5_greater a b s = some (mx a b, s) := by
  unfold f_X5_greater mx
  have h := (fc_lt (fb_nan ha hm) (fb_nan hb hm) .l).1
  by_cases hc : fk a < fk b
  · rw [if_pos (h.mpr hc), if_pos hc]; rfl
  · rw [if_neg (fun hx => hc (h.mp hx)), if_neg hc]; rfl
theorem k_lesser {m : Nat} {a b : UInt32} (s : pS) (hm : m ≤ 127) (ha : fb m a) (hb : fb m b) : f_X5_lesser a b s = some (mn a b, s) := by
  unfold f_X5_lesser mn
  have h := (fc_lt (fb_nan ha hm) (fb_nan hb hm) .g).2.2.2.1
  by_cases hc : fk b < fk a
  · rw [if_pos (h.mpr hc), if_pos hc]; rfl
  · rw [if_neg (fun hx => hc (h.mp hx)), if_neg hc]; rfl
theorem mx_fb {m : Nat} {a b : UInt32} (ha : fb m a) (hb : fb m b) : fb m (mx a b) := by unfold mx; split <;> assumption
theorem mx_nn {a b : UInt32} (ha : nn a) (hb : nn b) : nn (mx a b) := by unfold mx; split <;> assumption
theorem mn_fb {m : Nat} {a b : UInt32} (ha : fb m a) (hb : fb m b) : fb m (mn a b) := by unfold mn; split <;> assumption
theorem mn_nn {a b : UInt32} (ha : nn a) (hb : nn b) : nn (mn a b) := by unfold mn; split <;> assumption
/-! gaps and rests -/
theorem k_lessGaps {m : Nat} (i : Nat) (x : UInt32) (n : Nat) (s : pS) (hn : n ≤ 12) (hx : fb m x) (hg : fb m (sF s 2 i)) (hm : m ≤ 114) :
    f_X2_lessGaps i x n s = some (subs x (fun _ => sF s 2 i) (n - 1), s) := by
  refine of_ok ?_
  unfold f_X2_lessGaps
  refine itS (fun r k => f_X2_lessGaps_5 i (fun x3 s1 => some (x3, s1)) r n (subs x (fun _ => sF s 2 i) k) ((k : Int) + 1) s) (n - 1) _ (fun r k hk ih => ?_) (fun r => ?_) 400 0 (by omega) (by omega)
  · rw [f_X2_lessGaps_5]
    refine ok_neg (by omega) ?_
    refine ok_ck (fb_n32 (subs_fb (n := k + 1) hx (fun _ _ => hg) (by omega)) (by omega)) ?_
    refine ok_bs (ok_ck (inR_of (by omega)) ?_)
    exact ih
  · rw [f_X2_lessGaps_5]
    exact ok_pos (by omega) (ok_some rfl)
/-- what is left of x behind the sizes and the gaps -/
def rst (x : UInt32) (b : Nat → UInt32) (g : UInt32) (c : Nat) : UInt32 := subs (subs x b c) (fun _ => g) (c - 1)
theorem k_restOfSpace {m : Nat} (i c : Nat) (s : pS) (hc : sI s 8 i = (c : Int)) (hc2 : c ≤ 12) (hx : fb m (sF s 1 i)) (hg : fb m (sF s 2 i)) (hb : ∀ t, t < c → fb m (sB s 9 i t)) (hm : m ≤ 100) :
    f_X2_restOfSpace i s = some (rst (sF s 1 i) (sB s 9 i) (sF s 2 i) c, s) := by
  refine of_ok ?_
  unfold f_X2_restOfSpace
  refine ok_bs ?_
  refine itS (fun r k => f_X2_restOfSpace_10 i (fun x1 s2 => (f_X2_lessGaps i x1 (sI s2 8 i) s2).bind (fun q3 => some (q3.1, q3.2))) r (subs (sF s 1 i) (sB s 9 i) k) (k : Int) s) c _ (fun r k hk ih => ?_) (fun r => ?_) 400 0 (by omega) (by omega)
  · rw [f_X2_restOfSpace_10]
    refine ok_neg (by omega) (ok_ck (by omega) ?_)
    rw [nnat]
    refine ok_ck (fb_n32 (subs_fb (n := k + 1) hx (fun t ht => hb t (by omega)) (by omega)) (by omega)) ?_
    exact ok_bs (ok_ck (inR_of (by omega)) ih)
  · rw [f_X2_restOfSpace_10]
    refine ok_pos (by omega) ?_
    have h1 := subs_fb (n := c) hx hb (by omega)
    refine ok_eq (q := (rst (sF s 1 i) (sB s 9 i) (sF s 2 i) c, s)) ?_ (ok_some rfl)
    rw [hc]
    exact k_lessGaps (m := m + c) i _ c s hc2 h1 (fb_le hg (by omega)) (by omega)
theorem rst_fb {m : Nat} {x g : UInt32} {b : Nat → UInt32} {c : Nat} (hx : fb m x) (hg : fb m g) (hb : ∀ t, t < c → fb m (b t)) (hc : c ≤ 12) (hm : m ≤ 100) : fb (m + 23) (rst x b g c) := by
  have h1 := subs_fb (n := c) hx hb (by omega)
  have h2 := subs_fb (n := c - 1) (b := fun _ => g) h1 (fun _ _ => fb_le hg (by omega)) (by omega)
  exact fb_le h2 (by omega)
theorem rst_le {m : Nat} {x g : UInt32} {b : Nat → UInt32} {c : Nat} (hx : fb m x) (hg : fb m g ∧ nn g) (hb : ∀ t, t < c → fb m (b t) ∧ nn (b t)) (hc : c ≤ 12) (hm : m ≤ 100) : fk (rst x b g c) ≤ fk x := by
  have h1 := subs_fb (n := c) hx (fun t ht => (hb t ht).1) (by omega)
  have h2 := subs_le (n := c - 1) (b := fun _ => g) h1 (fun _ _ => ⟨fb_le hg.1 (by omega), hg.2⟩) (by omega)
  exact Int.le_trans h2 (subs_le hx hb (by omega))
theorem rst_congr {x g : UInt32} {b b' : Nat → UInt32} {c : Nat} (h : ∀ t, t < c → b t = b' t) : rst x b g c = rst x b' g c := by
  unfold rst
  rw [subs_congr h]
/-! limits raised -/
def rz (b l : Nat → UInt32) (c : Nat) : Nat → UInt32 := flo 0 c (fun t => mx (l t) (b t)) l
theorem k_raiseLimits {m : Nat} (i c : Nat) (s : pS) (b l : Nat → UInt32) (ch : Nat → Int) (hc : sI s 8 i = (c : Int)) (hc2 : c ≤ 12) (hb : ∀ t, t < c → fb m (b t)) (hl : ∀ t, t < c → fb m (l t)) (hm : m ≤ 127) :
    f_X2_raiseLimits i (mk3 s i b l ch) = some (mk3 s i b (rz b l c) ch) := by
  refine of_ok ?_
  unfold f_X2_raiseLimits
  have h := itS (fun r k => f_X2_raiseLimits_2 i (fun s1 => some s1) r (k : Int) (mk3 s i b (flo 0 k (fun t => mx (l t) (b t)) l) ch)) c (fun x => x = mk3 s i b (rz b l c) ch) (fun r k hk ih => ?_) (fun r => ?_) 400 0 (by omega) (by omega)
  · rw [flo_0] at h
    exact h
  · rw [f_X2_raiseLimits_2]
    try simp only [m9, m203, m204, mI, mF, m300, m302, m11, m5, m301, m303, m6, m7, mk3_9, mk3_203, mk3_204, nnat]
    refine ok_neg (by omega) (ok_ck (by omega) (ok_ck (by omega) ?_))
    rw [flo_at0]
    refine ok_eq (k_greater _ hm (hl k (by omega)) (hb k (by omega))) (ok_ck (by omega) (ok_bs ?_))
    try simp only [m9, m203, m204, mI, mF, m300, m302, m11, m5, m301, m303, m6, m7, mk3_9, mk3_203, mk3_204, nnat]
    refine ok_ck (inR_of (by omega)) ?_
    rw [flo_up0 rfl]
    exact ih
  · rw [f_X2_raiseLimits_2]
    exact ok_pos (by rw [mI]; omega) (ok_some rfl)
/-! the beginning -/
def bgL (hi : Nat → Int) (ln hn : Nat → UInt32) : Nat → UInt32 := fun t => if hi t ≠ 0 then ln t else hn t
theorem k_beginSizes (i c n : Nat) (s : pS) (b l : Nat → UInt32) (ch : Nat → Int) (hX : cax s i c n) :
    f_X2_beginSizes i (mk3 s i b l ch) = some (mk3 s i (flo 0 c (sB s 301 i) b) (rz (flo 0 c (sB s 301 i) b) (flo 0 c (bgL (sA s 302 i) (sB s 301 i) (sB s 303 i)) l) c) ch) := by
  obtain ⟨hc, hc2, -, -, -, -, -, ht⟩ := hX
  refine of_ok ?_
  unfold f_X2_beginSizes
  have h := itS (fun r k => f_X2_beginSizes_2 i (fun s1 => (f_X2_raiseLimits i s1).bind (fun q2 => some q2)) r (k : Int) (mk3 s i (flo 0 k (sB s 301 i) b) (flo 0 k (bgL (sA s 302 i) (sB s 301 i) (sB s 303 i)) l) ch)) c (fun x => x = mk3 s i (flo 0 c (sB s 301 i) b) (rz (flo 0 c (sB s 301 i) b) (flo 0 c (bgL (sA s 302 i) (sB s 301 i) (sB s 303 i)) l) c) ch) (fun r k hk ih => ?_) (fun r => ?_) 400 0 (by omega) (by omega)
  · rw [flo_0, flo_0] at h
    exact h
  · rw [f_X2_beginSizes_2]
    try simp only [m9, m203, m204, mI, mF, m300, m302, m11, m5, m301, m303, m6, m7, mk3_9, mk3_203, mk3_204, nnat]
    refine ok_neg (by omega) (ok_ck (by omega) (ok_ck (by omega) (ok_bs ?_)))
    try simp only [m9, m203, m204, mI, mF, m300, m302, m11, m5, m301, m303, m6, m7, mk3_9, mk3_203, mk3_204, nnat]
    rw [flo_up0 rfl]
    refine ok_ck (by omega) (ok_if (fun h => ?_) (fun h => ?_))
    · refine ok_ck (by omega) ?_
      unfold f_X2_beginSizes_63
      refine ok_ck (by omega) (ok_bs ?_)
      try simp only [m9, m203, m204, mI, mF, m300, m302, m11, m5, m301, m303, m6, m7, mk3_9, mk3_203, mk3_204, nnat]
      refine ok_ck (inR_of (by omega)) ?_
      rw [flo_up0 (by rw [flo_in (by omega)]; unfold bgL; rw [if_pos h])]
      exact ih
    · refine ok_ck (by omega) ?_
      unfold f_X2_beginSizes_63
      refine ok_ck (by omega) (ok_bs ?_)
      try simp only [m9, m203, m204, mI, mF, m300, m302, m11, m5, m301, m303, m6, m7, mk3_9, mk3_203, mk3_204, nnat]
      refine ok_ck (inR_of (by omega)) ?_
      rw [flo_up0 (by unfold bgL; rw [if_neg h])]
      exact ih
  · rw [f_X2_beginSizes_2]
    refine ok_pos (by rw [mI]; omega) ?_
    refine ok_eq (k_raiseLimits (m := 14) i c s _ _ _ hc hc2 (fun t h => ?_) (fun t h => ?_) (by decide)) (ok_some rfl)
    · rw [flo_in (by omega)]; exact (ht t (by omega)).2.1
    · rw [flo_in (by omega)]; unfold bgL; split
      · exact (ht t (by omega)).2.1
      · exact (ht t (by omega)).2.2.2
/-! items of one track -/
def mlow (lo : Int) (x le mo : UInt32) : UInt32 := if lo = 1 ∨ lo = 3 then mx x le else if lo = 2 then mx x mo else x
def mhigh (hi : Int) (hn x le mo : UInt32) : UInt32 := if hi = 1 then mx x le else if hi = 2 ∨ hi = 3 then mx x mo else if hi = 5 then mx x (mn mo hn) else x
theorem k_meetLow {m : Nat} (i t : Nat) (s : pS) (b l : Nat → UInt32) (ch : Nat → Int) (le mo : UInt32) (ht : t < 12) (hm : m ≤ 127) (hb : fb m (b t)) (hle : fb m le) (hmo : fb m mo) :
    f_X2_meetLow i t le mo (mk3 s i b l ch) = some (mk3 s i (pm_up b t (mlow (sA s 300 i t) (b t) le mo)) l ch) := by
  refine of_ok ?_
  unfold f_X2_meetLow f_X2_meetLow_26 f_X2_meetLow_74 mlow
  try simp only [m9, m203, m204, mI, mF, m300, m302, m11, m5, m301, m303, m6, m7, mk3_9, mk3_203, mk3_204, nnat]
  refine ok_ck (by omega) (ok_if (fun h1 => ?_) (fun h1 => ok_ck (by omega) (ok_if (fun h2 => ok_ck (by omega) (ok_if (fun h3 => ?_) (fun h3 => ?_))) (fun h2 => ?_))))
  · rw [if_pos (Or.inl h1)]
    refine ok_ck (by omega) (ok_eq (k_greater _ hm hb hle) (ok_ck (by omega) (ok_bs ?_)))
    try simp only [m9, m203, m204, mI, mF, m300, m302, m11, m5, m301, m303, m6, m7, mk3_9, mk3_203, mk3_204, nnat]
    exact ok_some rfl
  · rw [if_neg (by omega), if_neg (by omega), up_self]
    exact ok_some rfl
  · rw [if_neg (by omega), if_pos (by omega)]
    refine ok_ck (by omega) (ok_eq (k_greater _ hm hb hmo) (ok_ck (by omega) (ok_bs ?_)))
    try simp only [m9, m203, m204, mI, mF, m300, m302, m11, m5, m301, m303, m6, m7, mk3_9, mk3_203, mk3_204, nnat]
    exact ok_some rfl
  · rw [if_pos (by omega)]
    refine ok_ck (by omega) (ok_eq (k_greater _ hm hb hle) (ok_ck (by omega) (ok_bs ?_)))
    try simp only [m9, m203, m204, mI, mF, m300, m302, m11, m5, m301, m303, m6, m7, mk3_9, mk3_203, mk3_204, nnat]
    exact ok_some rfl
theorem k_meetHigh {m : Nat} (i t : Nat) (s : pS) (b l : Nat → UInt32) (ch : Nat → Int) (le mo : UInt32) (ht : t < 12) (hm : m ≤ 127) (hl : fb m (l t)) (hle : fb m le) (hmo : fb m mo) (hhn : fb m (sB s 303 i t)) :
    f_X2_meetHigh i t le mo (mk3 s i b l ch) = some (mk3 s i b (pm_up l t (mhigh (sA s 302 i t) (sB s 303 i t) (l t) le mo)) ch) := by
  refine of_ok ?_
  unfold f_X2_meetHigh f_X2_meetHigh_58 f_X2_meetHigh_118 mhigh
  try simp only [m9, m203, m204, mI, mF, m300, m302, m11, m5, m301, m303, m6, m7, mk3_9, mk3_203, mk3_204, nnat]
  refine ok_ck (by omega) (ok_if (fun h1 => ok_ck (by omega) (ok_if (fun h2 => ?_) (fun h2 => ok_ck (by omega) (ok_if (fun h3 => ok_ck (by omega) (ok_if (fun h4 => ?_) (fun h4 => ?_))) (fun h3 => ?_))))) (fun h1 => ?_))
  · rw [if_neg (by omega), if_pos (by omega)]
    refine ok_ck (by omega) (ok_eq (k_greater _ hm hl hmo) (ok_ck (by omega) (ok_bs ?_)))
    try simp only [m9, m203, m204, mI, mF, m300, m302, m11, m5, m301, m303, m6, m7, mk3_9, mk3_203, mk3_204, nnat]
    exact ok_some rfl
  · rw [if_neg (by omega), if_neg (by omega), if_neg (by omega), up_self]
    exact ok_some rfl
  · rw [if_neg (by omega), if_neg (by omega), if_pos (by omega)]
    refine ok_ck (by omega) (ok_ck (by omega) (ok_eq (k_lesser _ hm hmo hhn) (ok_eq (k_greater _ hm hl (mn_fb hmo hhn)) (ok_ck (by omega) (ok_bs ?_)))))
    try simp only [m9, m203, m204, mI, mF, m300, m302, m11, m5, m301, m303, m6, m7, mk3_9, mk3_203, mk3_204, nnat]
    exact ok_some rfl
  · rw [if_neg (by omega), if_pos (by omega)]
    refine ok_ck (by omega) (ok_eq (k_greater _ hm hl hmo) (ok_ck (by omega) (ok_bs ?_)))
    try simp only [m9, m203, m204, mI, mF, m300, m302, m11, m5, m301, m303, m6, m7, mk3_9, mk3_203, mk3_204, nnat]
    exact ok_some rfl
  · rw [if_pos (by omega)]
    refine ok_ck (by omega) (ok_eq (k_greater _ hm hl hle) (ok_ck (by omega) (ok_bs ?_)))
    try simp only [m9, m203, m204, mI, mF, m300, m302, m11, m5, m301, m303, m6, m7, mk3_9, mk3_203, mk3_204, nnat]
    exact ok_some rfl
theorem mlow_fb {m : Nat} {lo : Int} {x le mo : UInt32} (hx : fb m x) (hle : fb m le) (hmo : fb m mo) : fb m (mlow lo x le mo) := by
  unfold mlow; split
  · exact mx_fb hx hle
  · split
    · exact mx_fb hx hmo
    · exact hx
theorem mlow_nn {lo : Int} {x le mo : UInt32} (hx : nn x) (hle : nn le) (hmo : nn mo) : nn (mlow lo x le mo) := by
  unfold mlow; split
  · exact mx_nn hx hle
  · split
    · exact mx_nn hx hmo
    · exact hx
theorem mhigh_fb {m : Nat} {hi : Int} {hn x le mo : UInt32} (hx : fb m x) (hle : fb m le) (hmo : fb m mo) (hh : fb m hn) : fb m (mhigh hi hn x le mo) := by
  unfold mhigh; split
  · exact mx_fb hx hle
  · split
    · exact mx_fb hx hmo
    · split
      · exact mx_fb hx (mn_fb hmo hh)
      · exact hx
theorem mhigh_nn {hi : Int} {hn x le mo : UInt32} (hx : nn x) (hle : nn le) (hmo : nn mo) (hh : nn hn) : nn (mhigh hi hn x le mo) := by
  unfold mhigh; split
  · exact mx_nn hx hle
  · split
    · exact mx_nn hx hmo
    · split
      · exact mx_nn hx (mn_nn hmo hh)
      · exact hx
/-- the bases behind the first j items -/
def sgB (lo ln sp : Nat → Int) (le mo : Nat → UInt32) (b : Nat → UInt32) : Nat → Nat → UInt32
  | 0 => b
  | j + 1 => if ln j ≠ 0 ∧ sp j = 1 then pm_up (sgB lo ln sp le mo b j) (ln j - 1).toNat (mlow (lo (ln j - 1).toNat) (sgB lo ln sp le mo b j (ln j - 1).toNat) (le j) (mo j)) else sgB lo ln sp le mo b j
def sgL (hi ln sp : Nat → Int) (hn le mo : Nat → UInt32) (l : Nat → UInt32) : Nat → Nat → UInt32
  | 0 => l
  | j + 1 => if ln j ≠ 0 ∧ sp j = 1 then pm_up (sgL hi ln sp hn le mo l j) (ln j - 1).toNat (mhigh (hi (ln j - 1).toNat) (hn (ln j - 1).toNat) (sgL hi ln sp hn le mo l j (ln j - 1).toNat) (le j) (mo j)) else sgL hi ln sp hn le mo l j
theorem up_all {α : Type} {f : Nat → α} {k c : Nat} {v : α} {Q : α → Prop} (hf : ∀ t, t < c → Q (f t)) (hv : Q v) : ∀ t, t < c → Q (pm_up f k v t) := by
  intro t ht
  unfold pm_up; split
  · exact hv
  · exact hf t ht
theorem sgB_q {lo ln sp : Nat → Int} {le mo : Nat → UInt32} {b : Nat → UInt32} {c : Nat} {Q : UInt32 → Prop} (hml : ∀ l x y z, Q x → Q y → Q z → Q (mlow l x y z)) (hb : ∀ t, t < c → Q (b t)) : ∀ {n : Nat}, (∀ j, j < n → Q (le j) ∧ Q (mo j)) → (∀ j, j < n → ln j ≠ 0 → sp j = 1 → (ln j - 1).toNat < c) → ∀ t, t < c → Q (sgB lo ln sp le mo b n t)
  | 0, _, _ => hb
  | n + 1, h1, h2 => by
    have ih := sgB_q (n := n) (lo := lo) hml hb (fun j hj => h1 j (by omega)) (fun j hj => h2 j (by omega))
    intro t ht
    show Q ((if ln n ≠ 0 ∧ sp n = 1 then pm_up (sgB lo ln sp le mo b n) (ln n - 1).toNat _ else sgB lo ln sp le mo b n) t)
    split
    · rename_i h
      exact up_all ih (hml _ _ _ _ (ih _ (h2 n (by omega) h.1 h.2)) (h1 n (by omega)).1 (h1 n (by omega)).2) t ht
    · exact ih t ht
theorem sgL_q {hi ln sp : Nat → Int} {hn le mo : Nat → UInt32} {l : Nat → UInt32} {c : Nat} {Q : UInt32 → Prop} (hml : ∀ h w x y z, Q w → Q x → Q y → Q z → Q (mhigh h w x y z)) (hl : ∀ t, t < c → Q (l t) ∧ Q (hn t)) : ∀ {n : Nat}, (∀ j, j < n → Q (le j) ∧ Q (mo j)) → (∀ j, j < n → ln j ≠ 0 → sp j = 1 → (ln j - 1).toNat < c) → ∀ t, t < c → Q (sgL hi ln sp hn le mo l n t)
  | 0, _, _ => fun t ht => (hl t ht).1
  | n + 1, h1, h2 => by
    have ih := sgL_q (n := n) (hi := hi) hml hl (fun j hj => h1 j (by omega)) (fun j hj => h2 j (by omega))
    intro t ht
    show Q ((if ln n ≠ 0 ∧ sp n = 1 then pm_up (sgL hi ln sp hn le mo l n) (ln n - 1).toNat _ else sgL hi ln sp hn le mo l n) t)
    split
    · rename_i h
      have hlt := h2 n (by omega) h.1 h.2
      exact up_all ih (hml _ _ _ _ _ (hl _ hlt).2 (ih _ hlt) (h1 n (by omega)).1 (h1 n (by omega)).2) t ht
    · exact ih t ht
theorem k_meetSingles {m : Nat} (i c n : Nat) (s : pS) (b l : Nat → UInt32) (ch : Nat → Int) (hX : cax s i c n) (hm : m ≤ 127) (hm2 : 14 ≤ m) (hb : ∀ t, t < c → fb m (b t)) (hl : ∀ t, t < c → fb m (l t)) :
    f_X2_meetSingles i (mk3 s i b l ch) = some (mk3 s i (sgB (sA s 300 i) (sA s 11 i) (sA s 5 i) (sB s 6 i) (sB s 7 i) b n) (rz (sgB (sA s 300 i) (sA s 11 i) (sA s 5 i) (sB s 6 i) (sB s 7 i) b n) (sgL (sA s 302 i) (sA s 11 i) (sA s 5 i) (sB s 303 i) (sB s 6 i) (sB s 7 i) l n) c) ch) := by
  obtain ⟨hc, hc2, hn, hn2, hit, -, hne, ht⟩ := hX
  have hin : ∀ j, j < n → sA s 11 i j ≠ 0 → sA s 5 i j = 1 → (sA s 11 i j - 1).toNat < c := by
    intro j hj h1 h2
    have := hit j hj
    have h3 := this.2.2.2 h1
    omega
  have B1 : ∀ k, k ≤ n → ∀ t, t < c → fb m (sgB (sA s 300 i) (sA s 11 i) (sA s 5 i) (sB s 6 i) (sB s 7 i) b k t) := fun k hk => sgB_q (fun _ _ _ _ => mlow_fb) hb (fun j hj => ⟨fb_le (hne j (by omega)).2.1 (by omega), fb_le (hne j (by omega)).2.2.2 (by omega)⟩) (fun j hj => hin j (by omega))
  have B2 : ∀ k, k ≤ n → ∀ t, t < c → fb m (sgL (sA s 302 i) (sA s 11 i) (sA s 5 i) (sB s 303 i) (sB s 6 i) (sB s 7 i) l k t) := fun k hk => sgL_q (fun _ _ _ _ _ hw hx hy hz => mhigh_fb hx hy hz hw) (fun t h => ⟨hl t h, fb_le (ht t (by omega)).2.2.2 (by omega)⟩) (fun j hj => ⟨fb_le (hne j (by omega)).2.1 (by omega), fb_le (hne j (by omega)).2.2.2 (by omega)⟩) (fun j hj => hin j (by omega))
  refine of_ok ?_
  unfold f_X2_meetSingles
  have h := itS (fun r k => f_X2_meetSingles_2 i (fun s1 => (f_X2_raiseLimits i s1).bind (fun q2 => some q2)) r (k : Int) (mk3 s i (sgB (sA s 300 i) (sA s 11 i) (sA s 5 i) (sB s 6 i) (sB s 7 i) b k) (sgL (sA s 302 i) (sA s 11 i) (sA s 5 i) (sB s 303 i) (sB s 6 i) (sB s 7 i) l k) ch)) n (fun x => x = mk3 s i (sgB (sA s 300 i) (sA s 11 i) (sA s 5 i) (sB s 6 i) (sB s 7 i) b n) (rz (sgB (sA s 300 i) (sA s 11 i) (sA s 5 i) (sB s 6 i) (sB s 7 i) b n) (sgL (sA s 302 i) (sA s 11 i) (sA s 5 i) (sB s 303 i) (sB s 6 i) (sB s 7 i) l n) c) ch) (fun r k hk ih => ?_) (fun r => ?_) 400 0 (by omega) (by omega)
  · exact h
  · rw [f_X2_meetSingles_2]
    unfold f_X2_meetSingles_93
    try simp only [m9, m203, m204, mI, mF, m300, m302, m11, m5, m301, m303, m6, m7, mk3_9, mk3_203, mk3_204, nnat]
    refine ok_neg (by omega) (ok_ck (by omega) (ok_if (fun h1 => ok_ck (inR_of (by omega)) ?_) (fun h1 => ok_ck (by omega) (ok_if (fun h2 => ok_ck (inR_of (by omega)) ?_) (fun h2 => ?_)))))
    · rw [sgB, sgL, if_neg (by omega), if_neg (by omega)] at ih
      exact ih
    · rw [sgB, sgL, if_neg (by omega), if_neg (by omega)] at ih
      exact ih
    · have hj := hin k hk h1 (by omega)
      have hj0 := (hit k hk).1
      rw [sgB, sgL, if_pos (by omega), if_pos (by omega)] at ih
      have e : sA s 11 i k - 1 = (((sA s 11 i k - 1).toNat : Nat) : Int) := by omega
      refine ok_ck (by omega) (ok_ck (inR_of (by omega)) (ok_bs (ok_ck (by omega) (ok_ck (by omega) ?_))))
      rw [e]
      refine ok_eq (k_meetLow (m := m) i _ s _ _ _ _ _ (by omega) hm (B1 k (by omega) _ hj) (fb_le (hne k (by omega)).2.1 (by omega)) (fb_le (hne k (by omega)).2.2.2 (by omega))) (ok_ck (by omega) (ok_ck (by omega) ?_))
      try simp only [m9, m203, m204, mI, mF, m300, m302, m11, m5, m301, m303, m6, m7, mk3_9, mk3_203, mk3_204, nnat]
      refine ok_eq (k_meetHigh (m := m) i _ s _ _ _ _ _ (by omega) hm (B2 k (by omega) _ hj) (fb_le (hne k (by omega)).2.1 (by omega)) (fb_le (hne k (by omega)).2.2.2 (by omega)) (fb_le (ht _ (by omega)).2.2.2 (by omega))) (ok_ck (inR_of (by omega)) ?_)
      exact ih
  · rw [f_X2_meetSingles_2]
    refine ok_pos (by rw [mI]; omega) ?_
    exact ok_eq (k_raiseLimits (m := m) i c s _ _ _ hc hc2 (B1 n (Nat.le_refl _)) (B2 n (Nat.le_refl _)) hm) (ok_some rfl)
