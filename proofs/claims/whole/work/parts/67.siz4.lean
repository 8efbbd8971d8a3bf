/-! ===== SIZING: shares, stretching, positions, extents (written by wip/whole/gen_siz4.py) ===== -/
theorem fk0 : fk FP.fconst0 = 0 := rfl
/-- is it one: no less than that -/
theorem fc0 {m : Nat} {x : UInt32} (op : CmpOp) (hx : fb m x) (hm : m ≤ 127) : (pm_fc op x FP.fconst0 ≤ 0 ↔ fk x ≤ 0) ∧ (0 < pm_fc op x FP.fconst0 ↔ 0 < fk x) := by
  have h := fc_lt (fb_nan hx hm) (fb_nan (fb0 0) (by omega)) op
  rw [fk0] at h
  exact ⟨h.2.1, h.2.2.2.1⟩
def shp (hi : Nat → Int) : Nat → Int := fun t => if hi t = 4 then 1 else 0
def aut (hi : Nat → Int) : Nat → Int := fun t => if hi t = 3 then 1 else 0
def sfs (x : UInt32) (hi : Nat → Int) (b : Nat → UInt32) : Nat → UInt32
  | 0 => x
  | k + 1 => if hi k = 4 then sfs x hi b k else FP.fsub (sfs x hi b k) (b k)
theorem sfs_q {m c : Nat} {x : UInt32} {hi : Nat → Int} {b : Nat → UInt32} (hx : fb m x) (hb : ∀ t, t < c → fb m (b t) ∧ nn (b t)) : ∀ {k : Nat}, k ≤ c → m + k ≤ 126 → fb (m + k) (sfs x hi b k) ∧ fk (sfs x hi b k) ≤ fk x
  | 0, _, _ => ⟨hx, Int.le_refl _⟩
  | k + 1, h1, h2 => by
    have ih := sfs_q hx hb (hi := hi) (k := k) (by omega) (by omega)
    show fb (m + (k + 1)) (if hi k = 4 then sfs x hi b k else FP.fsub (sfs x hi b k) (b k)) ∧ fk (if hi k = 4 then sfs x hi b k else FP.fsub (sfs x hi b k) (b k)) ≤ fk x
    split
    · exact ⟨fb_le ih.1 (by omega), ih.2⟩
    · have q := hb k (by omega)
      exact ⟨fb_sub (m := m + k) ih.1 (fb_le q.1 (by omega)) (by omega), Int.le_trans (sub_le ih.1 (fb_le q.1 (by omega)) (by omega) q.2) ih.2⟩
theorem k_spaceForShares {m : Nat} (i c : Nat) (s : pS) (b l : Nat → UInt32) (ch : Nat → Int) (hc : sI s 8 i = (c : Int)) (hc2 : c ≤ 12) (hx : fb m (sF s 1 i)) (hg : fb m (sF s 2 i)) (hb : ∀ t, t < c → fb m (b t) ∧ nn (b t)) (hm : m ≤ 100) :
    f_X2_spaceForShares i (mk3 s i b l ch) = some (sfs (subs (sF s 1 i) (fun _ => sF s 2 i) (c - 1)) (sA s 302 i) b c, mk3 s i b l ch) := by
  refine of_ok ?_
  unfold f_X2_spaceForShares
  have h0 := k_lessGaps (m := m) i (sF s 1 i) c (mk3 s i b l ch) hc2 hx hg (by omega)
  have h1 := subs_fb (n := c - 1) (b := fun _ => sF s 2 i) hx (fun _ _ => hg) (by omega)
  rw [mF, mI, hc]
  refine ok_eq h0 ?_
  refine itS (fun r k => f_X2_spaceForShares_21 i (fun x1 s2 => some (x1, s2)) r (sfs (subs (sF s 1 i) (fun _ => sF s 2 i) (c - 1)) (sA s 302 i) b k) (k : Int) (mk3 s i b l ch)) c _ (fun r k hk ih => ?_) (fun r => ?_) 400 0 (by omega) (by omega)
  · rw [f_X2_spaceForShares_21]
    unfold f_X2_spaceForShares_54
    try simp only [m9, m203, m204, mI, mF, m300, m302, m11, m5, m301, m303, m6, m7, mk3_9, mk3_203, mk3_204, nnat, ion]
    have hk2 := sfs_q (m := m + 11) (hi := sA s 302 i) (k := k) (c := c) (fb_le h1 (by omega)) (fun t ht => ⟨fb_le (hb t ht).1 (by omega), (hb t ht).2⟩) (by omega) (by omega)
    refine ok_neg (by omega) (ok_ck (by omega) (ok_if (fun g => ok_ck (inR_of (by omega)) ?_) (fun g => ok_ck (by omega) (ok_ck (fb_n32 (fb_sub hk2.1 (fb_le (hb k hk).1 (by omega)) (by omega)) (by omega)) (ok_bs (ok_ck (inR_of (by omega)) ?_))))))
    · rw [sfs, if_pos g] at ih
      exact ih
    · rw [sfs, if_neg g] at ih
      exact ih
  · rw [f_X2_spaceForShares_21]
    exact ok_pos (by rw [mI]; omega) (ok_some rfl)
/-- the sum of the chosen numbers -/
def ssm (ch : Nat → Int) (hn : Nat → UInt32) : Nat → UInt32
  | 0 => FP.fconst0
  | k + 1 => if ch k = 0 then ssm ch hn k else FP.fadd (ssm ch hn k) (hn k)
theorem ssm_q {c : Nat} {ch : Nat → Int} {hn : Nat → UInt32} (hh : ∀ t, t < c → fb 14 (hn t) ∧ nn (hn t)) : ∀ {k : Nat}, k ≤ c → k ≤ 12 → fb (14 + k) (ssm ch hn k) ∧ nn (ssm ch hn k)
  | 0, _, _ => ⟨fb0 _, nn0⟩
  | k + 1, h1, h2 => by
    have ih := ssm_q hh (ch := ch) (k := k) (by omega) (by omega)
    show fb (14 + (k + 1)) (if ch k = 0 then ssm ch hn k else FP.fadd (ssm ch hn k) (hn k)) ∧ nn (if ch k = 0 then ssm ch hn k else FP.fadd (ssm ch hn k) (hn k))
    split
    · exact ⟨fb_le ih.1 (by omega), ih.2⟩
    · have q := hh k (by omega)
      exact ⟨fb_add (m := 14 + k) ih.1 (fb_le q.1 (by omega)) (by omega), nn_add ih.1 (fb_le q.1 (by omega)) (by omega) ih.2 q.2⟩
theorem fb1 : fb 0 FP.fconst1 ∧ nn FP.fconst1 ∧ FP.fconst1.toNat = 127 * 2 ^ 23 := by
  refine ⟨?_, ?_, ?_⟩
  · unfold fb; decide
  · unfold nn; decide
  · decide
/-- one share of x -/
def one (ch : Nat → Int) (hn : Nat → UInt32) (c : Nat) (x : UInt32) : UInt32 := if fk x ≤ 0 then FP.fconst0 else FP.fdiv x (mx (ssm ch hn c) FP.fconst1)
theorem mx1_q {ch : Nat → Int} {hn : Nat → UInt32} {c : Nat} (hc : c ≤ 12) (hh : ∀ t, t < c → fb 14 (hn t) ∧ nn (hn t)) : 127 * 2 ^ 23 ≤ (mx (ssm ch hn c) FP.fconst1).toNat % 2 ^ 31 ∧ (mx (ssm ch hn c) FP.fconst1).toNat % 2 ^ 31 < 255 * 2 ^ 23 ∧ nn (mx (ssm ch hn c) FP.fconst1) ∧ fb 26 (mx (ssm ch hn c) FP.fconst1) := by
  have q := ssm_q hh (ch := ch) (k := c) (by omega) hc
  obtain ⟨o1, o2, o3⟩ := fb1
  have h1 : fb 26 (mx (ssm ch hn c) FP.fconst1) := mx_fb (fb_le q.1 (by omega)) (fb_le o1 (by omega))
  have h2 : nn (mx (ssm ch hn c) FP.fconst1) := mx_nn q.2 o2
  refine ⟨?_, ?_, h2, h1⟩
  · unfold mx
    split
    · rw [o3]; decide
    · rename_i h
      rw [fk_nn q.2, fk_nn o2, o3] at h
      have := q.2
      unfold nn at this
      omega
  · unfold fb at h1
    omega
theorem one_q {ch : Nat → Int} {hn : Nat → UInt32} {c : Nat} {x : UInt32} (hc : c ≤ 12) (hh : ∀ t, t < c → fb 14 (hn t) ∧ nn (hn t)) (hx : 0 < fk x → fb 12 x) : fb 14 (one ch hn c x) ∧ nn (one ch hn c x) := by
  unfold one
  split
  · exact ⟨fb0 _, nn0⟩
  · rename_i h
    have h0 : 0 < fk x := Int.not_le.mp h
    obtain ⟨q1, q2, q3, q4⟩ := mx1_q (ch := ch) hc hh
    have hxx := hx h0
    exact ⟨fb_div hxx q1 q2 (by omega), nn_div (fb_fin hxx (by omega)) (fb_fin q4 (by omega)) (by omega) (fk_pos_nn h0) q3⟩
theorem k_oneShare {m : Nat} (i c : Nat) (s : pS) (b l : Nat → UInt32) (ch : Nat → Int) (x : UInt32) (hc : sI s 8 i = (c : Int)) (hc2 : c ≤ 12) (hh : ∀ t, t < c → fb 14 (sB s 303 i t) ∧ nn (sB s 303 i t)) (hm : m ≤ 127) (hx : fb m x) (hx2 : 0 < fk x → fb 12 x) :
    f_X2_oneShare i x (mk3 s i b l ch) = some (one ch (sB s 303 i) c x, mk3 s i b l ch) := by
  refine of_ok ?_
  unfold f_X2_oneShare
  refine itS (fun r k => f_X2_oneShare_4 i (fun x1 x2 s1 => (if (pm_fc .l x1 FP.fconst0) ≤ 0 then f_X2_oneShare_59 i FP.fconst0 s1 else (f_X5_greater x2 FP.fconst1 s1).bind (fun q2 => ck (vf_n32 (FP.fdiv x1 q2.1)) (f_X2_oneShare_59 i (FP.fdiv x1 q2.1) q2.2)))) r x (ssm ch (sB s 303 i) k) (k : Int) (mk3 s i b l ch)) c _ (fun r k hk ih => ?_) (fun r => ?_) 400 0 (by omega) (by omega)
  · rw [f_X2_oneShare_4]
    unfold f_X2_oneShare_36
    try simp only [m9, m203, m204, mI, mF, m300, m302, m11, m5, m301, m303, m6, m7, mk3_9, mk3_203, mk3_204, nnat, ion]
    have hk2 := ssm_q hh (ch := ch) (k := k) (by omega) (by omega)
    refine ok_neg (by omega) (ok_ck (by omega) (ok_if (fun g => ok_ck (inR_of (by omega)) ?_) (fun g => ok_ck (by omega) (ok_ck (fb_n32 (fb_add hk2.1 (fb_le (hh k hk).1 (by omega)) (by omega)) (by omega)) (ok_bs (ok_ck (inR_of (by omega)) ?_))))))
    · rw [ssm, if_pos g] at ih
      exact ih
    · rw [ssm, if_neg g] at ih
      exact ih
  · rw [f_X2_oneShare_4]
    refine ok_pos (by rw [mI]; omega) ?_
    unfold f_X2_oneShare_59 one
    have q := (fc0 .l hx hm).1
    have hk2 := ssm_q hh (ch := ch) (k := c) (by omega) hc2
    refine ok_if (fun g => ?_) (fun g => ?_)
    · rw [if_pos (q.mp g)]
      exact ok_some rfl
    · rw [if_neg (fun h => g (q.mpr h))]
      obtain ⟨q1, q2, q3, q4⟩ := mx1_q (ch := ch) hc2 hh
      have hxx := hx2 (Int.not_le.mp (fun h => g (q.mpr h)))
      exact ok_eq (k_greater (m := 26) _ (by omega) (fb_le hk2.1 (by omega)) (fb_le fb1.1 (by omega))) (ok_ck (fb_n32 (fb_div hxx q1 q2 (by omega)) (by omega)) (ok_some rfl))
/-- too great for the share y -/
def tg (ch : Nat → Int) (hn b : Nat → UInt32) (y : UInt32) (t : Nat) : Bool := decide (ch t ≠ 0) && decide (fk (FP.fmul (hn t) y) < fk (b t))
theorem k_isTooGreat {m : Nat} (i t : Nat) (s : pS) (b l : Nat → UInt32) (ch : Nat → Int) (y : UInt32) (ht : t < 12) (hm : m ≤ 127) (hb : fb m (b t)) (hh : fb 14 (sB s 303 i t)) (hy : fb 14 y) :
    f_X2_isTooGreat i t y (mk3 s i b l ch) = some (if tg ch (sB s 303 i) b y t then 1 else 0, mk3 s i b l ch) := by
  refine of_ok ?_
  unfold f_X2_isTooGreat f_X2_isTooGreat_34 f_X2_isTooGreat_35 tg
  try simp only [m9, m203, m204, mI, mF, m300, m302, m11, m5, m301, m303, m6, m7, mk3_9, mk3_203, mk3_204, nnat, ion]
  have hmul := fb_mul hh hy (by omega)
  have q := (fc_lt (fb_nan hb hm) (fb_nan hmul (by omega)) .l).2.1
  refine ok_ck (by omega) (ok_if (fun g => ok_ck (by simp) (ok_some ?_)) (fun g => ok_ck (by omega) (ok_ck (by omega) (ok_ck (fb_n32 hmul (by omega)) (ok_if (fun g2 => ok_ck (by simp) (ok_some ?_)) (fun g2 => ok_ck (by simp) (ok_some ?_)))))))
  · rw [decide_eq_false (by omega)]; rfl
  · rw [decide_eq_true g, decide_eq_false (by have := q.mp g2; omega)]; rfl
  · rw [decide_eq_true g, decide_eq_true (Int.not_le.mp (fun h => g2 (q.mpr h)))]; rfl
/-- is one of the first k too great -/
def atg (ch : Nat → Int) (hn b : Nat → UInt32) (y : UInt32) : Nat → Bool
  | 0 => false
  | k + 1 => atg ch hn b y k || tg ch hn b y k
theorem k_hasTooGreat {m : Nat} (i c : Nat) (s : pS) (b l : Nat → UInt32) (ch : Nat → Int) (y : UInt32) (hc : sI s 8 i = (c : Int)) (hc2 : c ≤ 12) (hm : m ≤ 127) (hb : ∀ t, t < c → fb m (b t)) (hh : ∀ t, t < c → fb 14 (sB s 303 i t) ∧ nn (sB s 303 i t)) (hy : fb 14 y) :
    f_X2_hasTooGreat i y (mk3 s i b l ch) = some (if atg ch (sB s 303 i) b y c then 1 else 0, mk3 s i b l ch) := by
  refine of_ok ?_
  unfold f_X2_hasTooGreat
  have mono : ∀ k j, j ≤ k → atg ch (sB s 303 i) b y j = true → atg ch (sB s 303 i) b y k = true := by
    intro k
    induction k with
    | zero => intro j hj h; rw [show j = 0 by omega] at h; exact h
    | succ k ih =>
      intro j hj h
      by_cases hjk : j = k + 1
      · rw [hjk] at h; exact h
      · show (atg ch (sB s 303 i) b y k || tg ch (sB s 303 i) b y k) = true
        rw [ih j (by omega) h]; rfl
  refine itJ (fun r k (_ : Unit) => f_X2_hasTooGreat_2 i (fun s1 => some (0, s1)) r y (k : Int) (mk3 s i b l ch)) (fun k _ => atg ch (sB s 303 i) b y k = false) c _ (fun r k u hk hJ ih => ?_) (fun r u hJ => ?_) 400 0 () (by omega) (by omega) rfl
  · rw [f_X2_hasTooGreat_2]
    refine ok_neg (by rw [mI]; omega) (ok_eq (k_isTooGreat (m := m) i k s b l ch y (by omega) hm (hb k hk) (hh k hk).1 hy) ?_)
    dsimp only
    cases htg : tg ch (sB s 303 i) b y k with
    | false =>
      refine ok_pos rfl (ok_ck (inR_of (by omega)) ?_)
      refine ih () ?_
      show (atg ch (sB s 303 i) b y k || tg ch (sB s 303 i) b y k) = false
      rw [hJ, htg]; rfl
    | true =>
      refine ok_neg (by decide) (ok_some ?_)
      have : atg ch (sB s 303 i) b y c = true := mono c (k + 1) (by omega) (by
        show (atg ch (sB s 303 i) b y k || tg ch (sB s 303 i) b y k) = true
        rw [htg, Bool.or_true])
      rw [this]; rfl
  · rw [f_X2_hasTooGreat_2]
    refine ok_pos (by rw [mI]; omega) (ok_some ?_)
    rw [hJ]; rfl
/-- what is left behind those set aside, and who is left -/
def sax (ch : Nat → Int) (hn b : Nat → UInt32) (y x : UInt32) : Nat → UInt32
  | 0 => x
  | k + 1 => if tg ch hn b y k then FP.fsub (sax ch hn b y x k) (b k) else sax ch hn b y x k
def sac (ch : Nat → Int) (hn b : Nat → UInt32) (y : UInt32) : Nat → Int := fun t => if tg ch hn b y t then 0 else ch t
/-- how many of the first k are too great -/
def ntg (ch : Nat → Int) (hn b : Nat → UInt32) (y : UInt32) : Nat → Nat
  | 0 => 0
  | k + 1 => ntg ch hn b y k + (if tg ch hn b y k then 1 else 0)
theorem sax_q {m c : Nat} {ch : Nat → Int} {hn b : Nat → UInt32} {x y : UInt32} (hx : fb m x) (hb : ∀ t, t < c → fb m (b t) ∧ nn (b t)) : ∀ {k : Nat}, k ≤ c → m + ntg ch hn b y k ≤ 126 → fb (m + ntg ch hn b y k) (sax ch hn b y x k) ∧ fk (sax ch hn b y x k) ≤ fk x
  | 0, _, _ => ⟨hx, Int.le_refl _⟩
  | k + 1, h1, h2 => by
    have e : ntg ch hn b y (k + 1) = ntg ch hn b y k + (if tg ch hn b y k then 1 else 0) := rfl
    have ih := sax_q hx hb (ch := ch) (hn := hn) (y := y) (k := k) (by omega) (by rw [e] at h2; omega)
    show fb (m + ntg ch hn b y (k + 1)) (if tg ch hn b y k then FP.fsub (sax ch hn b y x k) (b k) else sax ch hn b y x k) ∧ fk (if tg ch hn b y k then FP.fsub (sax ch hn b y x k) (b k) else sax ch hn b y x k) ≤ fk x
    rw [e] at h2 ⊢
    cases htg : tg ch hn b y k with
    | false =>
      rw [htg] at h2
      exact ⟨ih.1, ih.2⟩
    | true =>
      rw [htg] at h2
      have q := hb k (by omega)
      have h3 : m + (ntg ch hn b y k + 1) ≤ 126 := h2
      exact ⟨fb_sub (m := m + ntg ch hn b y k) ih.1 (fb_le q.1 (by omega)) (by omega), Int.le_trans (sub_le ih.1 (fb_le q.1 (by omega)) (by omega) q.2) ih.2⟩
theorem ntg_cn {ch : Nat → Int} {hn b : Nat → UInt32} {y : UInt32} : ∀ k, cn (sac ch hn b y) 0 k + ntg ch hn b y k = cn ch 0 k
  | 0 => rfl
  | k + 1 => by
    have ih := ntg_cn (ch := ch) (hn := hn) (b := b) (y := y) k
    show cn (sac ch hn b y) 0 k + (if sac ch hn b y (0 + k) = 0 then 0 else 1) + (ntg ch hn b y k + (if tg ch hn b y k then 1 else 0)) = cn ch 0 k + (if ch (0 + k) = 0 then 0 else 1)
    rw [Nat.zero_add, show sac ch hn b y k = if tg ch hn b y k then 0 else ch k from rfl]
    cases htg : tg ch hn b y k with
    | false =>
      rw [if_neg (show ¬ (false = true) by decide), if_neg (show ¬ (false = true) by decide)]
      omega
    | true =>
      have hne : ch k ≠ 0 := by
        intro h0
        unfold tg at htg
        rw [decide_eq_false (by omega)] at htg
        cases htg
      rw [if_pos rfl, if_pos rfl, if_pos rfl, if_neg hne]
      omega
theorem ntg_pos {ch : Nat → Int} {hn b : Nat → UInt32} {y : UInt32} : ∀ k, atg ch hn b y k = true → 1 ≤ ntg ch hn b y k
  | 0, h => by cases h
  | k + 1, h => by
    have h' : (atg ch hn b y k || tg ch hn b y k) = true := h
    show 1 ≤ ntg ch hn b y k + (if tg ch hn b y k then 1 else 0)
    cases htg : tg ch hn b y k with
    | true => rw [if_pos rfl]; omega
    | false =>
      rw [htg, Bool.or_false] at h'
      have := ntg_pos k h'
      omega
theorem k_setAside {m : Nat} (i c : Nat) (s : pS) (b l : Nat → UInt32) (ch : Nat → Int) (x y : UInt32) (hc : sI s 8 i = (c : Int)) (hc2 : c ≤ 12) (hm : m + ntg ch (sB s 303 i) b y c ≤ 126) (hx : fb m x) (hb : ∀ t, t < c → fb m (b t) ∧ nn (b t)) (hh : ∀ t, t < c → fb 14 (sB s 303 i t) ∧ nn (sB s 303 i t)) (hy : fb 14 y) :
    f_X2_setAside i y x (mk3 s i b l ch) = some (sax ch (sB s 303 i) b y x c, mk3 s i b l (flo 0 c (sac ch (sB s 303 i) b y) ch)) := by
  have nm : ∀ k, k ≤ c → ntg ch (sB s 303 i) b y k ≤ ntg ch (sB s 303 i) b y c := by
    intro k hk
    induction c with
    | zero => rw [show k = 0 by omega]; exact Nat.le_refl _
    | succ c ih =>
      clear ih
      have : ∀ j k, ntg ch (sB s 303 i) b y k ≤ ntg ch (sB s 303 i) b y (k + j) := by
        intro j
        induction j with
        | zero => intro k; exact Nat.le_refl _
        | succ j ih =>
          intro k
          have := ih k
          have e : ntg ch (sB s 303 i) b y (k + (j + 1)) = ntg ch (sB s 303 i) b y (k + j) + (if tg ch (sB s 303 i) b y (k + j) then 1 else 0) := rfl
          omega
      have := this (c + 1 - k) k
      rw [show k + (c + 1 - k) = c + 1 by omega] at this
      exact this
  refine of_ok ?_
  unfold f_X2_setAside
  have h := itS (fun r k => f_X2_setAside_5 i (fun x3 s1 => some (x3, s1)) r y (sax ch (sB s 303 i) b y x k) (k : Int) (mk3 s i b l (flo 0 k (sac ch (sB s 303 i) b y) ch))) c (fun z => z = (sax ch (sB s 303 i) b y x c, mk3 s i b l (flo 0 c (sac ch (sB s 303 i) b y) ch))) (fun r k hk ih => ?_) (fun r => ?_) 400 0 (by omega) (by omega)
  · rw [flo_0] at h
    exact h
  · rw [f_X2_setAside_5]
    unfold f_X2_setAside_45
    have n1 := nm k (by omega)
    have n2 := nm (k + 1) (by omega)
    have e1 : ntg ch (sB s 303 i) b y (k + 1) = ntg ch (sB s 303 i) b y k + (if tg ch (sB s 303 i) b y k then 1 else 0) := rfl
    have hsx := sax_q hx hb (ch := ch) (hn := sB s 303 i) (y := y) (k := k) (by omega) (by omega)
    have etg : tg (flo 0 k (sac ch (sB s 303 i) b y) ch) (sB s 303 i) b y k = tg ch (sB s 303 i) b y k := by
      unfold tg
      rw [flo_at0]
    refine ok_neg (by rw [mI]; omega) (ok_eq (k_isTooGreat (m := 126) i k s b l _ y (by omega) (by omega) (fb_le (hb k hk).1 (by omega)) (hh k hk).1 hy) ?_)
    rw [etg]
    dsimp only
    cases htg : tg ch (sB s 303 i) b y k with
    | false =>
      refine ok_pos rfl (ok_ck (inR_of (by omega)) ?_)
      rw [sax, if_neg (by rw [htg]; decide), flo_skip0 (by unfold sac; rw [if_neg (by rw [htg]; decide)])] at ih
      exact ih
    | true =>
      rw [htg, if_pos rfl] at e1
      refine ok_neg (by decide) (ok_ck (by omega) (ok_bs ?_))
      try simp only [m9, m203, m204, mI, mF, m300, m302, m11, m5, m301, m303, m6, m7, mk3_9, mk3_203, mk3_204, nnat, ion]
      refine ok_ck (by omega) (ok_ck (fb_n32 (fb_sub hsx.1 (fb_le (hb k hk).1 (by omega)) (by omega)) (by omega)) (ok_bs (ok_ck (inR_of (by omega)) ?_)))
      rw [sax, if_pos htg] at ih
      rw [flo_up0 (by unfold sac; rw [if_pos htg])]
      exact ih
  · rw [f_X2_setAside_5]
    exact ok_pos (by rw [mI]; omega) (ok_some rfl)
/-- at most r times: some are set aside -/
def shl (hn b : Nat → UInt32) (c : Nat) : Nat → (Nat → Int) → UInt32 → (Nat → Int) × UInt32
  | 0, ch, x => (ch, x)
  | r + 1, ch, x => if atg ch hn b (one ch hn c x) c then shl hn b c r (flo 0 c (sac ch hn b (one ch hn c x)) ch) (sax ch hn b (one ch hn c x) x c) else (ch, x)
theorem cn_flo {p q : Nat → Int} {c : Nat} : cn (flo 0 c p q) 0 c = cn p 0 c := cn_congr (fun t h1 h2 => by rw [flo_in (by omega)])
theorem k_giveShares_50 {i c : Nat} {s : pS} {b l : Nat → UInt32} (hc : sI s 8 i = (c : Int)) (hc2 : c ≤ 12) (hb : ∀ t, t < c → fb 100 (b t) ∧ nn (b t)) (hh : ∀ t, t < c → fb 14 (sB s 303 i t) ∧ nn (sB s 303 i t)) (hsp : fb 12 (sF s 1 i) ∧ nn (sF s 1 i)) (P : pS → Prop) (K : UInt32 → pS → Option pS) (ch0 : Nat → Int) (x0 : UInt32) (R : Nat)
    (hK : ∀ ch x, (ch, x) = shl (sB s 303 i) b c R ch0 x0 → fb 114 x → fk x ≤ fk (sF s 1 i) → ok (K x (mk3 s i b l ch)) P) : ∀ (r n : Nat) (ch : Nat → Int) (x : UInt32), r < n → r ≤ 12 → shl (sB s 303 i) b c r ch x = shl (sB s 303 i) b c R ch0 x0 → fb (114 - cn ch 0 c) x → fk x ≤ fk (sF s 1 i) → ok (f_X2_giveShares_50 i K n x (12 - (r : Int)) (mk3 s i b l ch)) P
  | 0, n, ch, x, h1, h2, h3, hx, hx2 => by
    obtain ⟨n, rfl⟩ : ∃ k, n = k + 1 := ⟨n - 1, by omega⟩
    rw [f_X2_giveShares_50]
    exact ok_pos (by omega) (hK ch x h3 (fb_le hx (by omega)) hx2)
  | r + 1, n, ch, x, h1, h2, h3, hx, hx2 => by
    obtain ⟨n, rfl⟩ : ∃ k, n = k + 1 := ⟨n - 1, by omega⟩
    have hx12 : 0 < fk x → fb 12 x := fun h0 => (pos_fb hsp.1 hsp.2 h0 hx2).1
    have hcc := cn_le ch 0 c
    have ho := one_q (ch := ch) (x := x) hc2 hh hx12
    rw [f_X2_giveShares_50]
    refine ok_neg (by omega) (ok_eq (k_oneShare (m := 114) i c s b l ch x hc hc2 hh (by omega) (fb_le hx (by omega)) hx12) (ok_eq (k_hasTooGreat (m := 100) i c s b l ch _ hc hc2 (by omega) (fun t ht => (hb t ht).1) hh ho.1) ?_))
    dsimp only
    rw [shl] at h3
    cases ha : atg ch (sB s 303 i) b (one ch (sB s 303 i) c x) c with
    | false =>
      rw [ha, if_neg (by decide)] at h3
      exact ok_pos rfl (hK ch x h3 (fb_le hx (by omega)) hx2)
    | true =>
      rw [ha, if_pos rfl] at h3
      have hnt := ntg_cn (ch := ch) (hn := sB s 303 i) (b := b) (y := one ch (sB s 303 i) c x) c
      have hnp := ntg_pos c ha
      have hsx := sax_q (m := 114 - cn ch 0 c) (c := c) hx (fun t ht => ⟨fb_le (hb t ht).1 (by omega), (hb t ht).2⟩) (ch := ch) (hn := sB s 303 i) (y := one ch (sB s 303 i) c x) (k := c) (Nat.le_refl _) (by omega)
      refine ok_neg (by decide) (ok_eq (k_oneShare (m := 114) i c s b l ch x hc hc2 hh (by omega) (fb_le hx (by omega)) hx12) (ok_eq (k_setAside (m := 114 - cn ch 0 c) i c s b l ch x (one ch (sB s 303 i) c x) hc hc2 (by omega) hx (fun t ht => ⟨fb_le (hb t ht).1 (by omega), (hb t ht).2⟩) hh ho.1) (ok_ck (inR_of (by omega)) ?_)))
      have h := k_giveShares_50 hc hc2 hb hh hsp P K ch0 x0 R hK r n _ _ (by omega) (by omega) h3 (by rw [cn_flo]; exact fb_le hsx.1 (by omega)) (Int.le_trans hsx.2 hx2)
      rw [show (12 : Int) - ((r + 1 : Nat) : Int) + 1 = 12 - (r : Int) by omega]
      exact h
def shB (hn b : Nat → UInt32) (ch : Nat → Int) (y : UInt32) : Nat → UInt32 := fun t => if ch t = 0 then b t else FP.fmul (hn t) y
theorem k_setShares (i c : Nat) (s : pS) (b l : Nat → UInt32) (ch : Nat → Int) (y : UInt32) (hc : sI s 8 i = (c : Int)) (hc2 : c ≤ 12) (hh : ∀ t, t < c → fb 14 (sB s 303 i t) ∧ nn (sB s 303 i t)) (hy : fb 14 y) :
    f_X2_setShares i y (mk3 s i b l ch) = some (mk3 s i (flo 0 c (shB (sB s 303 i) b ch y) b) l ch) := by
  refine of_ok ?_
  unfold f_X2_setShares
  have h := itS (fun r k => f_X2_setShares_2 i (fun s1 => some s1) r y (k : Int) (mk3 s i (flo 0 k (shB (sB s 303 i) b ch y) b) l ch)) c (fun z => z = mk3 s i (flo 0 c (shB (sB s 303 i) b ch y) b) l ch) (fun r k hk ih => ?_) (fun r => ?_) 400 0 (by omega) (by omega)
  · rw [flo_0] at h
    exact h
  · rw [f_X2_setShares_2]
    unfold f_X2_setShares_39
    try simp only [m9, m203, m204, mI, mF, m300, m302, m11, m5, m301, m303, m6, m7, mk3_9, mk3_203, mk3_204, nnat, ion]
    refine ok_neg (by omega) (ok_ck (by omega) (ok_if (fun g => ok_ck (inR_of (by omega)) ?_) (fun g => ok_ck (by omega) (ok_ck (fb_n32 (fb_mul (hh k hk).1 hy (by omega)) (by omega)) (ok_ck (by omega) (ok_bs ?_))))))
    · rw [flo_skip0 (by unfold shB; rw [if_pos g])] at ih
      exact ih
    · refine ok_ck (inR_of (by omega)) ?_
      rw [flo_up0 (by unfold shB; rw [if_neg g])]
      exact ih
  · rw [f_X2_setShares_2]
    exact ok_pos (by rw [mI]; omega) (ok_some rfl)
/-- the bases behind the shares -/
def shA (hi : Nat → Int) (hn b : Nat → UInt32) (sp g : UInt32) (c : Nat) (ch0 : Nat → Int) : Nat → UInt32 :=
  flo 0 c (shB hn b (shl hn b c 12 ch0 (sfs (subs sp (fun _ => g) (c - 1)) hi b c)).1 (one (shl hn b c 12 ch0 (sfs (subs sp (fun _ => g) (c - 1)) hi b c)).1 hn c (shl hn b c 12 ch0 (sfs (subs sp (fun _ => g) (c - 1)) hi b c)).2)) b
theorem shA_q {hi : Nat → Int} {hn b : Nat → UInt32} {sp g : UInt32} {c : Nat} {ch0 : Nat → Int} (hb : ∀ t, t < c → fb 90 (b t) ∧ nn (b t)) (hh : ∀ t, t < c → fb 14 (hn t) ∧ nn (hn t)) (ho : fb 14 (one (shl hn b c 12 ch0 (sfs (subs sp (fun _ => g) (c - 1)) hi b c)).1 hn c (shl hn b c 12 ch0 (sfs (subs sp (fun _ => g) (c - 1)) hi b c)).2) ∧ nn (one (shl hn b c 12 ch0 (sfs (subs sp (fun _ => g) (c - 1)) hi b c)).1 hn c (shl hn b c 12 ch0 (sfs (subs sp (fun _ => g) (c - 1)) hi b c)).2)) : ∀ t, t < c → fb 90 (shA hi hn b sp g c ch0 t) ∧ nn (shA hi hn b sp g c ch0 t) := by
  intro t ht
  unfold shA
  rw [flo_in (by omega)]
  unfold shB
  split
  · exact hb t ht
  · exact ⟨fb_le (fb_mul (hh t ht).1 ho.1 (by omega)) (by omega), nn_mul (fb_fin (hh t ht).1 (by omega)) (fb_fin ho.1 (by omega)) (hh t ht).2 ho.2⟩
theorem k_giveShares (i c n : Nat) (s : pS) (b l : Nat → UInt32) (ch : Nat → Int) (hX : cax s i c n) (hb : ∀ t, t < c → fb 90 (b t) ∧ nn (b t)) :
    ok (f_X2_giveShares i (mk3 s i b l ch)) (fun u => ∃ ch', u = mk3 s i (shA (sA s 302 i) (sB s 303 i) b (sF s 1 i) (sF s 2 i) c (flo 0 c (shp (sA s 302 i)) ch)) l ch' ∧ ∀ t, t < c → fb 90 (shA (sA s 302 i) (sB s 303 i) b (sF s 1 i) (sF s 2 i) c (flo 0 c (shp (sA s 302 i)) ch) t) ∧ nn (shA (sA s 302 i) (sB s 303 i) b (sF s 1 i) (sF s 2 i) c (flo 0 c (shp (sA s 302 i)) ch) t)) := by
  obtain ⟨hc, hc2, hn, hn2, hit, hsg, hne, ht⟩ := hX
  have hh : ∀ t, t < c → fb 14 (sB s 303 i t) ∧ nn (sB s 303 i t) := fun t h => ⟨(ht t (by omega)).2.2.2, (ht t (by omega)).2.2.1⟩
  have hb' : ∀ t, t < c → fb 100 (b t) ∧ nn (b t) := fun t h => ⟨fb_le (hb t h).1 (by omega), (hb t h).2⟩
  unfold f_X2_giveShares
  have h := itS (fun r k => f_X2_giveShares_2 i (fun s1 => (f_X2_spaceForShares i s1).bind (fun q2 => f_X2_giveShares_50 i (fun x1 s3 => f_X2_giveShares_85 i x1 s3) 400 q2.1 0 q2.2)) r (k : Int) (mk3 s i b l (flo 0 k (shp (sA s 302 i)) ch))) c (fun u => ∃ ch', u = mk3 s i (shA (sA s 302 i) (sB s 303 i) b (sF s 1 i) (sF s 2 i) c (flo 0 c (shp (sA s 302 i)) ch)) l ch' ∧ ∀ t, t < c → fb 90 (shA (sA s 302 i) (sB s 303 i) b (sF s 1 i) (sF s 2 i) c (flo 0 c (shp (sA s 302 i)) ch) t) ∧ nn (shA (sA s 302 i) (sB s 303 i) b (sF s 1 i) (sF s 2 i) c (flo 0 c (shp (sA s 302 i)) ch) t)) (fun r k hk ih => ?_) (fun r => ?_) 400 0 (by omega) (by omega)
  · rw [flo_0] at h
    exact h
  · rw [f_X2_giveShares_2]
    unfold f_X2_giveShares_36
    try simp only [m9, m203, m204, mI, mF, m300, m302, m11, m5, m301, m303, m6, m7, mk3_9, mk3_203, mk3_204, nnat, ion]
    refine ok_neg (by omega) (ok_ck (by omega) (ok_if (fun g => ok_ck (by omega) (ok_ck (by simp) (ok_bs (ok_ck (inR_of (by omega)) ?_)))) (fun g => ok_ck (by omega) (ok_ck (by simp) (ok_bs (ok_ck (inR_of (by omega)) ?_))))))
    · rw [flo_up0 (by unfold shp; rw [if_neg g])]
      exact ih
    · rw [flo_up0 (by unfold shp; rw [if_pos (by omega)])]
      exact ih
  · rw [f_X2_giveShares_2]
    refine ok_pos (by rw [mI]; omega) ?_
    have s1 := subs_fb (n := c - 1) (b := fun _ => sF s 2 i) hsg.2.1 (fun _ _ => hsg.2.2.2) (by omega)
    have s2 := subs_le (n := c - 1) (b := fun _ => sF s 2 i) hsg.2.1 (fun _ _ => ⟨hsg.2.2.2, hsg.2.2.1⟩) (by omega)
    have s3 := sfs_q (m := 90) (hi := sA s 302 i) (k := c) (c := c) (fb_le s1 (by omega)) hb (Nat.le_refl _) (by omega)
    have hcc := cn_le (flo 0 c (shp (sA s 302 i)) ch) 0 c
    refine ok_eq (k_spaceForShares (m := 90) i c s b l _ hc hc2 (fb_le hsg.2.1 (by omega)) (fb_le hsg.2.2.2 (by omega)) hb (by omega)) ?_
    refine k_giveShares_50 hc hc2 hb' hh ⟨hsg.2.1, hsg.1⟩ _ _ (flo 0 c (shp (sA s 302 i)) ch) (sfs (subs (sF s 1 i) (fun _ => sF s 2 i) (c - 1)) (sA s 302 i) b c) 12 (fun ch' x e hx hx2 => ?_) 12 400 _ _ (by omega) (by omega) rfl (fb_le s3.1 (by omega)) (Int.le_trans s3.2 s2)
    have hx12 : 0 < fk x → fb 12 x := fun h0 => (pos_fb hsg.2.1 hsg.1 h0 hx2).1
    have ho := one_q (ch := ch') (x := x) hc2 hh hx12
    unfold f_X2_giveShares_85
    refine ok_eq (k_oneShare (m := 114) i c s b l ch' x hc hc2 hh (by omega) hx hx12) (ok_eq (k_setShares i c s b l ch' _ hc hc2 hh ho.1) (ok_some ?_))
    have e1 : (shl (sB s 303 i) b c 12 (flo 0 c (shp (sA s 302 i)) ch) (sfs (subs (sF s 1 i) (fun _ => sF s 2 i) (c - 1)) (sA s 302 i) b c)).1 = ch' := by rw [← e]
    have e2 : (shl (sB s 303 i) b c 12 (flo 0 c (shp (sA s 302 i)) ch) (sfs (subs (sF s 1 i) (fun _ => sF s 2 i) (c - 1)) (sA s 302 i) b c)).2 = x := by rw [← e]
    refine ⟨ch', ?_, shA_q hb hh (by rw [e1, e2]; exact ho)⟩
    unfold shA
    rw [e1, e2]
