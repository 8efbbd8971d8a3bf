/-! ===== SIZING: stretching, positions, extents (written by wip/whole/gen_siz5.py) ===== -/
/-- the state in which free space, positions and extents stand too -/
def mk4 (s : pS) (i : Nat) (b l : Nat → UInt32) (c : Nat → Int) (fr : UInt32) (ps ex : Nat → UInt32) : pS := wB (wB (wF (mk3 s i b l c) 13 i fr) 10 i ps) 12 i ex
theorem mk3_13 (s : pS) (i : Nat) (b l : Nat → UInt32) (c : Nat → Int) (v : UInt32) : wF (mk3 s i b l c) 13 i v = mk3 (wF s 13 i v) i b l c := rfl
/-- the bases and what is free behind the stretching -/
def stB (hi : Nat → Int) (how : Int) (b : Nat → UInt32) (sp g : UInt32) (c : Nat) : Nat → UInt32 :=
  if how = 3 ∧ cn (aut hi) 0 c ≠ 0 ∧ 0 < fk (rst sp b g c) then flo 0 c (spn (FP.fdiv (rst sp b g c) (FP.i2f (Int32.ofInt (cn (aut hi) 0 c : Int)))) b (aut hi)) b else b
theorem stB_q {hi : Nat → Int} {how : Int} {b : Nat → UInt32} {sp g : UInt32} {c : Nat} (hc : c ≤ 12) (hb : ∀ t, t < c → fb 90 (b t) ∧ nn (b t)) (hs : fb 12 sp ∧ nn sp) (hg : fb 12 g ∧ nn g) : ∀ t, t < c → fb 91 (stB hi how b sp g c t) ∧ nn (stB hi how b sp g c t) := by
  intro t ht
  have h1 := hb t ht
  have hcn := cn_le (aut hi) 0 c
  unfold stB
  split
  · rename_i h
    have r := rst_le (m := 90) (c := c) (b := b) (fb_le hs.1 (by omega)) ⟨fb_le hg.1 (by omega), hg.2⟩ hb hc (by omega)
    have p := pos_fb hs.1 hs.2 h.2.2 r
    have q5 := part_fb (n := cn (aut hi) 0 c) p.1 h.2.1 (by omega) (by omega)
    have q6 := part_nn (n := cn (aut hi) 0 c) p.1 p.2 h.2.1 (by omega) (by omega)
    rw [flo_in (by omega)]
    unfold spn
    split
    · exact ⟨fb_le h1.1 (by omega), h1.2⟩
    · exact ⟨fb_add (m := 90) h1.1 (fb_le q5 (by omega)) (by omega), nn_add (m := 90) h1.1 (fb_le q5 (by omega)) (by omega) h1.2 q6⟩
  · exact ⟨fb_le h1.1 (by omega), h1.2⟩
theorem k_stretch (i c n : Nat) (s : pS) (b l : Nat → UInt32) (ch : Nat → Int) (hX : cax s i c n) (hb : ∀ t, t < c → fb 90 (b t) ∧ nn (b t)) :
    f_X2_stretch i (mk3 s i b l ch) = some (mk3 (wF s 13 i (rst (sF s 1 i) (stB (sA s 302 i) (sI s 3 i) b (sF s 1 i) (sF s 2 i) c) (sF s 2 i) c)) i (stB (sA s 302 i) (sI s 3 i) b (sF s 1 i) (sF s 2 i) c) l ch) := by
  obtain ⟨hc, hc2, hn, hn2, hit, hsg, hne, ht⟩ := hX
  have hcn := cn_le (aut (sA s 302 i)) 0 c
  have r1 := rst_le (m := 90) (c := c) (b := b) (fb_le hsg.2.1 (by omega)) ⟨fb_le hsg.2.2.2 (by omega), hsg.2.2.1⟩ hb hc2 (by omega)
  have r2 := rst_fb (m := 90) (c := c) (b := b) (fb_le hsg.2.1 (by omega)) (fb_le hsg.2.2.2 (by omega)) (fun t h => (hb t h).1) hc2 (by omega)
  have e13 : ∀ v, sF (wF s 13 i v) 13 i = v := fun v => by rw [sF_wF, if_pos ⟨rfl, rfl⟩]
  have q := (fc0 .g r2 (by omega)).2
  refine of_ok ?_
  unfold f_X2_stretch
  have h1 := k_restOfSpace (m := 90) i c (mk3 s i b l ch) hc hc2 (fb_le hsg.2.1 (by omega)) (fb_le hsg.2.2.2 (by omega)) (fun t h => by rw [m9]; exact (hb t h).1) (by omega)
  rw [m9] at h1
  refine ok_eq h1 (ok_bs ?_)
  rw [mF, mF, mk3_13]
  have h := itS (fun r k => f_X2_stretch_15 i (fun x1 s3 => (if (sI s3 3 i) ≠ 3 then f_X2_stretch_80 i s3 else (if x1 = 0 then f_X2_stretch_80 i s3 else (if 0 < (pm_fc .g (sF s3 13 i) FP.fconst0) then ck (vf_n32 (FP.fdiv (sF s3 13 i) (FP.i2f (Int32.ofInt x1)))) (bs ((FP.fdiv (sF s3 13 i) (FP.i2f (Int32.ofInt x1)))) (fun v5 => f_X2_stretch_94 i (fun s6 => (f_X2_restOfSpace i s6).bind (fun q7 => bs (wF q7.2 13 i q7.1) (fun s8 => some s8))) 400 v5 0 s3)) else f_X2_stretch_80 i s3)))) r (cn (aut (sA s 302 i)) 0 k : Int) (k : Int) (mk3 (wF s 13 i (rst (sF s 1 i) b (sF s 2 i) c)) i b l ch)) c (fun z => z = mk3 (wF s 13 i (rst (sF s 1 i) (stB (sA s 302 i) (sI s 3 i) b (sF s 1 i) (sF s 2 i) c) (sF s 2 i) c)) i (stB (sA s 302 i) (sI s 3 i) b (sF s 1 i) (sF s 2 i) c) l ch) (fun r k hk ih => ?_) (fun r => ?_) 400 0 (by omega) (by omega)
  · exact h
  · rw [f_X2_stretch_15]
    have hk2 := cn_le (aut (sA s 302 i)) 0 k
    unfold f_X2_stretch_45
    try simp only [m9, m203, m204, mI, mF, m300, m302, m11, m5, m301, m303, m6, m7, mk3_9, mk3_203, mk3_204, nnat, ion]
    refine ok_neg (by rw [sI_wF]; omega) (ok_ck (by omega) (ok_if (fun g => ok_ck (inR_of (by omega)) (ok_bs (ok_ck (inR_of (by omega)) ?_))) (fun g => ok_ck (inR_of (by omega)) (ok_bs (ok_ck (inR_of (by omega)) ?_)))))
    · replace g : sA s 302 i k ≠ 3 := g
      rw [cn, Nat.zero_add, if_pos (by unfold aut; rw [if_neg g])] at ih
      exact ih
    · rw [cn, Nat.zero_add, if_neg (by unfold aut; rw [if_pos (show sA s 302 i k = 3 by exact Classical.not_not.mp g)]; decide)] at ih
      exact ih
  · rw [f_X2_stretch_15]
    unfold f_X2_stretch_80
    refine ok_pos (by rw [mI, sI_wF]; omega) ?_
    try simp only [m9, m203, m204, mI, mF, m300, m302, m11, m5, m301, m303, m6, m7, mk3_9, mk3_203, mk3_204, nnat, ion]
    simp only [sI_wF, e13]
    unfold stB
    refine ok_if (fun g => ?_) (fun g => ok_if (fun g2 => ?_) (fun g2 => ok_if (fun g3 => ?_) (fun g3 => ?_)))
    · rw [if_neg (fun h => g h.1)]
      exact ok_some rfl
    · rw [if_neg (fun h => h.2.1 (by omega))]
      exact ok_some rfl
    · have g4 := q.mp g3
      rw [if_pos ⟨Classical.not_not.mp g, by omega, g4⟩]
      have p := pos_fb hsg.2.1 hsg.1 g4 r1
      have q5 := part_fb (n := cn (aut (sA s 302 i)) 0 c) p.1 (by omega) (by omega) (by omega)
      have q6 := part_nn (n := cn (aut (sA s 302 i)) 0 c) p.1 p.2 (by omega) (by omega) (by omega)
      refine ok_ck (fb_n32 q5 (by omega)) (ok_bs ?_)
      have h := itS (fun r k => f_X2_stretch_94 i (fun s6 => (f_X2_restOfSpace i s6).bind (fun q7 => bs (wF q7.2 13 i q7.1) (fun s8 => some s8))) r (FP.fdiv (rst (sF s 1 i) b (sF s 2 i) c) (FP.i2f (Int32.ofInt (cn (aut (sA s 302 i)) 0 c : Int)))) (k : Int) (mk3 (wF s 13 i (rst (sF s 1 i) b (sF s 2 i) c)) i (flo 0 k (spn (FP.fdiv (rst (sF s 1 i) b (sF s 2 i) c) (FP.i2f (Int32.ofInt (cn (aut (sA s 302 i)) 0 c : Int)))) b (aut (sA s 302 i))) b) l ch)) c (fun z => z = mk3 (wF s 13 i (rst (sF s 1 i) (flo 0 c (spn (FP.fdiv (rst (sF s 1 i) b (sF s 2 i) c) (FP.i2f (Int32.ofInt (cn (aut (sA s 302 i)) 0 c : Int)))) b (aut (sA s 302 i))) b) (sF s 2 i) c)) i (flo 0 c (spn (FP.fdiv (rst (sF s 1 i) b (sF s 2 i) c) (FP.i2f (Int32.ofInt (cn (aut (sA s 302 i)) 0 c : Int)))) b (aut (sA s 302 i))) b) l ch) (fun r k hk ih => ?_) (fun r => ?_) 400 0 (by omega) (by omega)
      · rw [flo_0] at h
        exact h
      · rw [f_X2_stretch_94]
        unfold f_X2_stretch_132
        try simp only [m9, m203, m204, mI, mF, m300, m302, m11, m5, m301, m303, m6, m7, mk3_9, mk3_203, mk3_204, nnat, ion]
        rw [flo_at0]
        refine ok_neg (by rw [sI_wF]; omega) (ok_ck (by omega) (ok_if (fun g5 => ok_ck (inR_of (by omega)) ?_) (fun g5 => ok_ck (by omega) (ok_ck (fb_n32 (fb_add (m := 90) (hb k hk).1 (fb_le q5 (by omega)) (by omega)) (by omega)) (ok_ck (by omega) (ok_bs ?_))))))
        · replace g5 : sA s 302 i k ≠ 3 := g5
          rw [flo_skip0 (by unfold spn aut; rw [if_pos (by rw [if_neg g5])])] at ih
          exact ih
        · replace g5 : ¬ sA s 302 i k ≠ 3 := g5
          try simp only [m9, m203, m204, mI, mF, m300, m302, m11, m5, m301, m303, m6, m7, mk3_9, mk3_203, mk3_204, nnat, ion]
          refine ok_ck (inR_of (by omega)) ?_
          rw [flo_up0 (by unfold spn aut; rw [if_neg (by rw [if_pos (Classical.not_not.mp g5)]; decide)])]
          exact ih
      · rw [f_X2_stretch_94]
        refine ok_pos (by rw [mI, sI_wF]; omega) ?_
        have hs := stB_q (hi := sA s 302 i) (how := sI s 3 i) hc2 hb ⟨hsg.2.1, hsg.1⟩ ⟨hsg.2.2.2, hsg.2.2.1⟩
        unfold stB at hs
        rw [if_pos ⟨Classical.not_not.mp g, by omega, g4⟩] at hs
        have h5 := k_restOfSpace (m := 91) i c (mk3 (wF s 13 i (rst (sF s 1 i) b (sF s 2 i) c)) i (flo 0 c (spn (FP.fdiv (rst (sF s 1 i) b (sF s 2 i) c) (FP.i2f (Int32.ofInt (cn (aut (sA s 302 i)) 0 c : Int)))) b (aut (sA s 302 i))) b) l ch) hc hc2 (fb_le hsg.2.1 (by omega)) (fb_le hsg.2.2.2 (by omega)) (fun t h => by rw [m9]; exact (hs t h).1) (by omega)
        rw [m9] at h5
        refine ok_eq h5 (ok_bs ?_)
        rw [mk3_13, wF_wF]
        exact ok_some rfl
    · rw [if_neg (fun h => g3 (q.mpr h.2.2))]
      exact ok_some rfl
/-! positions -/
def pos1 (fr : UInt32) (how : Int) : UInt32 := if fk fr ≤ 0 then FP.fconst0 else if how = 1 then FP.fdiv fr FP.fconst2 else if how = 2 then fr else FP.fconst0
def posn (x g : UInt32) (b : Nat → UInt32) : Nat → UInt32
  | 0 => x
  | k + 1 => FP.fadd (FP.fadd (posn x g b k) (b k)) g
theorem posn_q {c : Nat} {x g : UInt32} {b : Nat → UInt32} (hx : fb 91 x) (hg : fb 91 g) (hb : ∀ t, t < c → fb 91 (b t)) : ∀ {k : Nat}, k ≤ c → k ≤ 12 → fb (91 + 2 * k) (posn x g b k)
  | 0, _, _ => hx
  | k + 1, h1, h2 => by
    have ih := posn_q hx hg hb (k := k) (by omega) (by omega)
    have h3 := fb_add (m := 91 + 2 * k) ih (fb_le (hb k (by omega)) (by omega)) (by omega)
    exact fb_add (m := 91 + 2 * k + 1) h3 (fb_le hg (by omega)) (by omega)
theorem fb2 : 127 * 2 ^ 23 ≤ FP.fconst2.toNat % 2 ^ 31 ∧ FP.fconst2.toNat % 2 ^ 31 < 255 * 2 ^ 23 := by decide
theorem pos1_q {fr : UInt32} {how : Int} (h : 0 < fk fr → fb 12 fr) : fb 14 (pos1 fr how) := by
  unfold pos1
  split
  · exact fb0 _
  · rename_i g
    have := h (Int.not_le.mp g)
    split
    · exact fb_div this fb2.1 fb2.2 (by omega)
    · split
      · exact fb_le this (by omega)
      · exact fb0 _
theorem k_firstPosition {m : Nat} (i : Nat) (s : pS) (hm : m ≤ 127) (hf : fb m (sF s 13 i)) (hf2 : 0 < fk (sF s 13 i) → fb 12 (sF s 13 i)) : f_X2_firstPosition i s = some (pos1 (sF s 13 i) (sI s 3 i), s) := by
  refine of_ok ?_
  unfold f_X2_firstPosition f_X2_firstPosition_57 pos1
  have q := (fc0 .g hf hm).2
  refine ok_if (fun g => ?_) (fun g => ?_)
  · have g1 := q.mp g
    rw [if_neg (show ¬ fk (sF s 13 i) ≤ 0 by omega)]
    refine ok_if (fun g2 => ?_) (fun g2 => ?_)
    · rw [if_neg g2]
      refine ok_if (fun g3 => ?_) (fun g3 => ?_)
      · rw [if_neg g3]; exact ok_some rfl
      · rw [if_pos (Classical.not_not.mp g3)]; exact ok_some rfl
    · rw [if_pos (Classical.not_not.mp g2)]
      exact ok_ck (fb_n32 (fb_div (hf2 g1) fb2.1 fb2.2 (by omega)) (by omega)) (ok_some rfl)
  · rw [if_pos (Int.not_lt.mp (fun h => g (q.mpr h)))]
    exact ok_some rfl
theorem k_findPositions {m : Nat} (i c : Nat) (s : pS) (hc : sI s 8 i = (c : Int)) (hc2 : c ≤ 12) (hm : m ≤ 127) (hf : fb m (sF s 13 i)) (hf2 : 0 < fk (sF s 13 i) → fb 12 (sF s 13 i)) (hg : fb 12 (sF s 2 i)) (hb : ∀ t, t < c → fb 91 (sB s 9 i t)) :
    f_X2_findPositions i s = some (wB s 10 i (flo 0 c (posn (pos1 (sF s 13 i) (sI s 3 i)) (sF s 2 i) (sB s 9 i)) (sB s 10 i))) := by
  refine of_ok ?_
  unfold f_X2_findPositions
  refine ok_eq (k_firstPosition i s hm hf hf2) ?_
  have p1 := pos1_q (how := sI s 3 i) hf2
  have r9 : ∀ v, sB (wB s 10 i v) 9 i = sB s 9 i := fun v => by rw [sB_wB, if_neg (by omega)]
  have r10 : ∀ v, sB (wB s 10 i v) 10 i = v := fun v => by rw [sB_wB, if_pos ⟨rfl, rfl⟩]
  have h := itS (fun r k => f_X2_findPositions_7 i (fun s2 => some s2) r (posn (pos1 (sF s 13 i) (sI s 3 i)) (sF s 2 i) (sB s 9 i) k) (k : Int) (wB s 10 i (flo 0 k (posn (pos1 (sF s 13 i) (sI s 3 i)) (sF s 2 i) (sB s 9 i)) (sB s 10 i)))) c (fun z => z = wB s 10 i (flo 0 c (posn (pos1 (sF s 13 i) (sI s 3 i)) (sF s 2 i) (sB s 9 i)) (sB s 10 i))) (fun r k hk ih => ?_) (fun r => ?_) 400 0 (by omega) (by omega)
  · rw [flo_0, wB_self] at h
    exact h
  · rw [f_X2_findPositions_7]
    have q1 := posn_q (k := k) (fb_le p1 (by omega)) (fb_le hg (by omega)) hb (by omega) (by omega)
    have q2 := fb_add (m := 91 + 2 * k) q1 (fb_le (hb k hk) (by omega)) (by omega)
    have q3 := fb_add (m := 91 + 2 * k + 1) q2 (fb_le hg (by omega)) (by omega)
    refine ok_neg (by rw [sI_wB]; omega) (ok_ck (by omega) (ok_bs ?_))
    simp only [r10, r9, wB_wB, sF_wB, nnat]
    refine ok_ck (by omega) (ok_ck (fb_n32 q2 (by omega)) (ok_ck (fb_n32 q3 (by omega)) (ok_bs (ok_ck (inR_of (by omega)) ?_))))
    rw [flo_up0 rfl]
    exact ih
  · rw [f_X2_findPositions_7]
    exact ok_pos (by rw [sI_wB]; omega) (ok_some rfl)
/-! extents -/
def ext (b : Nat → UInt32) (g : UInt32) (a n : Nat) : UInt32 := adds (adds FP.fconst0 (fun k => b (a + k)) n) (fun _ => g) (n - 1)
theorem ext_q {b : Nat → UInt32} {g : UInt32} {a n : Nat} (hb : ∀ t, a ≤ t → t < a + n → fb 91 (b t)) (hg : fb 12 g) (hn : n ≤ 4) : fb 100 (ext b g a n) := by
  have h1 := adds_fb (n := n) (b := fun k => b (a + k)) (fb0 91) (fun t ht => hb _ (by omega) (by omega)) (by omega)
  have h2 := adds_fb (n := n - 1) (b := fun _ => g) h1 (fun _ _ => fb_le hg (by omega)) (by omega)
  exact fb_le h2 (by omega)
theorem k_extentOf (i j : Nat) (s : pS) (a n : Nat) (hj : j < 10) (h1 : sA s 11 i j = (a : Int) + 1) (h2 : sA s 5 i j = (n : Int)) (h3 : a + n ≤ 12) (hn4 : n ≤ 4) (hg : fb 12 (sF s 2 i)) (hb : ∀ t, a ≤ t → t < a + n → fb 91 (sB s 9 i t)) :
    f_X2_extentOf i j s = some (ext (sB s 9 i) (sF s 2 i) a n, s) := by
  refine of_ok ?_
  unfold f_X2_extentOf
  refine ok_eq (k_firstOf i j _ a hj h1 (by omega)) ?_
  have h := itS (fun r k => f_X2_extentOf_8 i (fun x1 x2 s2 => f_X2_extentOf_34 i (fun x2 s3 => some (x2, s3)) 400 x1 x2 1 s2) r j (adds FP.fconst0 (fun k => sB s 9 i (a + k)) k) ((a : Int) + (k : Int)) s) n (fun y => y = (ext (sB s 9 i) (sF s 2 i) a n, s)) (fun r k hk ih => ?_) (fun r => ?_) 400 0 (by omega) (by omega)
  · rw [show ((a : Int) + ((0 : Nat) : Int)) = (a : Int) by omega] at h
    exact h
  · rw [f_X2_extentOf_8]
    refine ok_eq (k_endOf i j _ a n hj h1 h2 h3) ?_
    try simp only [ion]
    refine ok_neg (by omega) (ok_ck (by omega) (ok_ck (fb_n32 (adds_fb (n := k + 1) (b := fun k => sB s 9 i (a + k)) (fb0 91) (fun t ht => hb _ (by omega) (by omega)) (by omega)) (by omega)) (ok_bs (ok_ck (inR_of (by omega)) ?_))))
    rw [show (a : Int) + (k : Int) + 1 = (a : Int) + ((k + 1 : Nat) : Int) by omega]
    exact ih
  · rw [f_X2_extentOf_8]
    refine ok_eq (k_endOf i j _ a n hj h1 h2 h3) (ok_pos (Int.le_refl _) ?_)
    have q1 := adds_fb (n := n) (b := fun k => sB s 9 i (a + k)) (fb0 91) (fun t ht => hb _ (by omega) (by omega)) (by omega)
    refine itS (fun r k => f_X2_extentOf_34 i (fun x2 s3 => some (x2, s3)) r j (adds (adds FP.fconst0 (fun k => sB s 9 i (a + k)) n) (fun _ => sF s 2 i) k) ((k : Int) + 1) s) (n - 1) _ (fun r k hk ih => ?_) (fun r => ?_) 400 0 (by omega) (by omega)
    · rw [f_X2_extentOf_34]
      rw [nnat, h2]
      refine ok_ck (by omega) (ok_neg (by omega) (ok_ck (fb_n32 (adds_fb (n := k + 1) (b := fun _ => sF s 2 i) q1 (fun _ _ => fb_le hg (by omega)) (by omega)) (by omega)) (ok_bs (ok_ck (inR_of (by omega)) ih))))
    · rw [f_X2_extentOf_34]
      rw [nnat, h2]
      exact ok_ck (by omega) (ok_pos (by omega) (ok_some rfl))
/-- the extents -/
def exI (ln sp : Nat → Int) (b : Nat → UInt32) (g : UInt32) (old : Nat → UInt32) : Nat → UInt32 := fun j => if ln j = 0 then old j else ext b g (ln j - 1).toNat (sp j).toNat
theorem k_findExtents (i c n : Nat) (s : pS) (hn : sI s 205 i = (n : Int)) (hn2 : n ≤ 10) (hc2 : c ≤ 12) (hit : ∀ j, j < n → 0 ≤ sA s 11 i j ∧ 1 ≤ sA s 5 i j ∧ sA s 5 i j ≤ 4 ∧ (sA s 11 i j ≠ 0 → sA s 11 i j - 1 + sA s 5 i j ≤ (c : Int))) (hg : fb 12 (sF s 2 i)) (hb : ∀ t, t < c → fb 91 (sB s 9 i t)) :
    f_X2_findExtents i s = some (wB s 12 i (flo 0 n (exI (sA s 11 i) (sA s 5 i) (sB s 9 i) (sF s 2 i) (sB s 12 i)) (sB s 12 i))) := by
  refine of_ok ?_
  unfold f_X2_findExtents
  have r12 : ∀ v, sB (wB s 12 i v) 12 i = v := fun v => by rw [sB_wB, if_pos ⟨rfl, rfl⟩]
  have r9 : ∀ v, sB (wB s 12 i v) 9 i = sB s 9 i := fun v => by rw [sB_wB, if_neg (by omega)]
  have h := itS (fun r k => f_X2_findExtents_2 i (fun s1 => some s1) r (k : Int) (wB s 12 i (flo 0 k (exI (sA s 11 i) (sA s 5 i) (sB s 9 i) (sF s 2 i) (sB s 12 i)) (sB s 12 i)))) n (fun z => z = wB s 12 i (flo 0 n (exI (sA s 11 i) (sA s 5 i) (sB s 9 i) (sF s 2 i) (sB s 12 i)) (sB s 12 i))) (fun r k hk ih => ?_) (fun r => ?_) 400 0 (by omega) (by omega)
  · rw [flo_0, wB_self] at h
    exact h
  · rw [f_X2_findExtents_2]
    unfold f_X2_findExtents_36
    simp only [sI_wB, sA_wB, nnat]
    have hk2 := hit k hk
    refine ok_neg (by omega) (ok_ck (by omega) (ok_if (fun g => ok_ck (inR_of (by omega)) ?_) (fun g => ?_)))
    · rw [flo_skip0 (by unfold exI; rw [if_pos g])] at ih
      exact ih
    · have hk3 := hk2.2.2.2 g
      have e1 : sA s 11 i k = (((sA s 11 i k - 1).toNat : Nat) : Int) + 1 := by omega
      have e2 : sA s 5 i k = (((sA s 5 i k).toNat : Nat) : Int) := by omega
      have h5 := k_extentOf i k (wB s 12 i (flo 0 k (exI (sA s 11 i) (sA s 5 i) (sB s 9 i) (sF s 2 i) (sB s 12 i)) (sB s 12 i))) (sA s 11 i k - 1).toNat (sA s 5 i k).toNat (by omega) e1 e2 (by omega) (by omega) hg (fun t q1 q2 => by rw [r9]; exact hb t (by omega))
      rw [r9, sF_wB] at h5
      refine ok_eq h5 (ok_ck (by omega) (ok_bs ?_))
      simp only [r12, wB_wB]
      refine ok_ck (inR_of (by omega)) ?_
      rw [flo_up0 (by unfold exI; rw [if_neg g])]
      exact ih
  · rw [f_X2_findExtents_2]
    exact ok_pos (by rw [sI_wB]; omega) (ok_some rfl)
/-! ===== all of it ===== -/
/-- the bases and limits behind the spreads, as the class works them out -/
def w1B (s : pS) (i c n : Nat) : Nat → UInt32 := sgB (sA s 300 i) (sA s 11 i) (sA s 5 i) (sB s 6 i) (sB s 7 i) (flo 0 c (sB s 301 i) (sB s 9 i)) n
def w1L (s : pS) (i c n : Nat) : Nat → UInt32 := rz (w1B s i c n) (sgL (sA s 302 i) (sA s 11 i) (sA s 5 i) (sB s 303 i) (sB s 6 i) (sB s 7 i) (rz (flo 0 c (sB s 301 i) (sB s 9 i)) (flo 0 c (bgL (sA s 302 i) (sB s 301 i) (sB s 303 i)) (sB s 203 i)) c) n) c
def w2B (s : pS) (i c n : Nat) : Nat → UInt32 := spA (ndy (sA s 300 i) (sA s 302 i)) (sA s 11 i) (sA s 5 i) (sB s 6 i) (sF s 2 i) n (w1B s i c n)
def w2L (s : pS) (i c n : Nat) : Nat → UInt32 := rz (w2B s i c n) (w1L s i c n) c
def w3L (s : pS) (i c n : Nat) : Nat → UInt32 := spA (wid (sA s 302 i)) (sA s 11 i) (sA s 5 i) (sB s 7 i) (sF s 2 i) n (w2L s i c n)
def w4B (s : pS) (i c n : Nat) : Nat → UInt32 := grw (w3L s i c n) c 16 (w2B s i c n) (rst (sF s 1 i) (w2B s i c n) (sF s 2 i) c)
theorem rz_q {b l : Nat → UInt32} {c : Nat} {Q : UInt32 → Prop} (hm : ∀ x y, Q x → Q y → Q (mx x y)) (hb : ∀ t, t < c → Q (b t)) (hl : ∀ t, t < c → Q (l t)) : ∀ t, t < c → Q (rz b l c t) := by
  intro t ht
  unfold rz
  rw [flo_in (by omega)]
  exact hm _ _ (hl t ht) (hb t ht)
theorem and_all {c : Nat} {m : Nat} {f : Nat → UInt32} (h1 : ∀ t, t < c → fb m (f t)) (h2 : ∀ t, t < c → nn (f t)) : ∀ t, t < c → fb m (f t) ∧ nn (f t) := fun t ht => ⟨h1 t ht, h2 t ht⟩
theorem and_1 {c : Nat} {m : Nat} {f : Nat → UInt32} (h : ∀ t, t < c → fb m (f t) ∧ nn (f t)) : ∀ t, t < c → fb m (f t) := fun t ht => (h t ht).1
theorem and_2 {c : Nat} {m : Nat} {f : Nat → UInt32} (h : ∀ t, t < c → fb m (f t) ∧ nn (f t)) : ∀ t, t < c → nn (f t) := fun t ht => (h t ht).2
theorem w_q (i c n : Nat) (s : pS) (hX : cax s i c n) : (∀ t, t < c → fb 14 (w1B s i c n t) ∧ nn (w1B s i c n t)) ∧ (∀ t, t < c → fb 14 (w1L s i c n t) ∧ nn (w1L s i c n t)) ∧ (∀ t, t < c → fb 44 (w2B s i c n t) ∧ nn (w2B s i c n t)) ∧ (∀ t, t < c → fb 44 (w2L s i c n t) ∧ nn (w2L s i c n t)) ∧ (∀ t, t < c → fb 74 (w3L s i c n t) ∧ nn (w3L s i c n t)) := by
  obtain ⟨hc, hc2, hn, hn2, hit, hsg, hne, ht⟩ := hX
  have hin : ∀ j, j < n → sA s 11 i j ≠ 0 → sA s 5 i j = 1 → (sA s 11 i j - 1).toNat < c := by
    intro j hj h1 h2
    have := hit j hj
    have h3 := this.2.2.2 h1
    omega
  have b0 : ∀ t, t < c → fb 14 (flo 0 c (sB s 301 i) (sB s 9 i) t) ∧ nn (flo 0 c (sB s 301 i) (sB s 9 i) t) := by
    intro t h
    rw [flo_in (by omega)]
    exact ⟨(ht t (by omega)).2.1, (ht t (by omega)).1⟩
  have l0 : ∀ t, t < c → fb 14 (flo 0 c (bgL (sA s 302 i) (sB s 301 i) (sB s 303 i)) (sB s 203 i) t) ∧ nn (flo 0 c (bgL (sA s 302 i) (sB s 301 i) (sB s 303 i)) (sB s 203 i) t) := by
    intro t h
    rw [flo_in (by omega)]
    unfold bgL
    split
    · exact ⟨(ht t (by omega)).2.1, (ht t (by omega)).1⟩
    · exact ⟨(ht t (by omega)).2.2.2, (ht t (by omega)).2.2.1⟩
  have l1 := and_all (rz_q (Q := fb 14) (fun _ _ => mx_fb) (and_1 b0) (and_1 l0)) (rz_q (Q := nn) (fun _ _ => mx_nn) (and_2 b0) (and_2 l0))
  have W1 : ∀ t, t < c → fb 14 (w1B s i c n t) ∧ nn (w1B s i c n t) := and_all
    (sgB_q (fun _ _ _ _ => mlow_fb) (and_1 b0) (fun j hj => ⟨fb_le (hne j (by omega)).2.1 (by omega), fb_le (hne j (by omega)).2.2.2 (by omega)⟩) hin)
    (sgB_q (fun _ _ _ _ => mlow_nn) (and_2 b0) (fun j hj => ⟨(hne j (by omega)).1, (hne j (by omega)).2.2.1⟩) hin)
  have L1 : ∀ t, t < c → fb 14 (w1L s i c n t) ∧ nn (w1L s i c n t) := and_all
    (rz_q (Q := fb 14) (fun _ _ => mx_fb) (and_1 W1) (sgL_q (fun _ _ _ _ _ hw hx hy hz => mhigh_fb hx hy hz hw) (fun t h => ⟨(l1 t h).1, (ht t (by omega)).2.2.2⟩) (fun j hj => ⟨fb_le (hne j (by omega)).2.1 (by omega), fb_le (hne j (by omega)).2.2.2 (by omega)⟩) hin))
    (rz_q (Q := nn) (fun _ _ => mx_nn) (and_2 W1) (sgL_q (fun _ _ _ _ _ hw hx hy hz => mhigh_nn hx hy hz hw) (fun t h => ⟨(l1 t h).2, (ht t (by omega)).2.2.1⟩) (fun j hj => ⟨(hne j (by omega)).1, (hne j (by omega)).2.2.1⟩) hin))
  have W2 : ∀ t, t < c → fb 44 (w2B s i c n t) ∧ nn (w2B s i c n t) := spA_q W1 ⟨hsg.2.2.2, hsg.2.2.1⟩ (by omega) hn2 (by omega) (fun j hj => (hit j hj).2.2.2) (fun j hj => (hit j hj).1) (fun j hj => ⟨(hne j (by omega)).2.1, (hne j (by omega)).1⟩)
  have L2 : ∀ t, t < c → fb 44 (w2L s i c n t) ∧ nn (w2L s i c n t) := and_all (rz_q (Q := fb 44) (fun _ _ => mx_fb) (and_1 W2) (fun t h => fb_le (L1 t h).1 (by omega))) (rz_q (Q := nn) (fun _ _ => mx_nn) (and_2 W2) (and_2 L1))
  exact ⟨W1, L1, W2, L2, spA_q L2 ⟨hsg.2.2.2, hsg.2.2.1⟩ (by omega) hn2 (by omega) (fun j hj => (hit j hj).2.2.2) (fun j hj => (hit j hj).1) (fun j hj => ⟨(hne j (by omega)).2.2.2, (hne j (by omega)).2.2.1⟩)⟩
/-- the bases behind the shares and behind the stretching; chs is what stood in the choice -/
def w5B (s : pS) (i c n : Nat) (ch : Nat → Int) : Nat → UInt32 := shA (sA s 302 i) (sB s 303 i) (w4B s i c n) (sF s 1 i) (sF s 2 i) c (flo 0 c (shp (sA s 302 i)) ch)
def w6B (s : pS) (i c n : Nat) (ch : Nat → Int) : Nat → UInt32 := stB (sA s 302 i) (sI s 3 i) (w5B s i c n ch) (sF s 1 i) (sF s 2 i) c
def w6F (s : pS) (i c n : Nat) (ch : Nat → Int) : UInt32 := rst (sF s 1 i) (w6B s i c n ch) (sF s 2 i) c
/-- the class's sizing of the axis i -/
theorem k_workOut (i c n : Nat) (s : pS) (hX : cax (wI s 205 i n) i c n) :
    ok (f_X2_workOut i n s) (fun u => ∃ ch ch', u = wB (wB (mk3 (wF (wI s 205 i n) 13 i (w6F (wI s 205 i n) i c n ch)) i (w6B (wI s 205 i n) i c n ch) (w3L (wI s 205 i n) i c n) ch') 10 i (flo 0 c (posn (pos1 (w6F (wI s 205 i n) i c n ch) (sI (wI s 205 i n) 3 i)) (sF s 2 i) (w6B (wI s 205 i n) i c n ch)) (sB s 10 i))) 12 i (flo 0 n (exI (sA s 11 i) (sA s 5 i) (w6B (wI s 205 i n) i c n ch) (sF s 2 i) (sB s 12 i)) (sB s 12 i))
      ∧ (∀ t, t < c → fb 91 (w6B (wI s 205 i n) i c n ch t) ∧ nn (w6B (wI s 205 i n) i c n ch t)) ∧ fb 114 (w6F (wI s 205 i n) i c n ch) ∧ (0 < fk (w6F (wI s 205 i n) i c n ch) → fb 12 (w6F (wI s 205 i n) i c n ch))) := by
  unfold f_X2_workOut
  refine ok_bs ?_
  generalize hs' : wI s 205 i (n : Int) = z at *
  have hX' := hX
  obtain ⟨W1, L1, W2, L2, L3⟩ := w_q i c n z hX
  obtain ⟨hc, hc2, hn, hn2, hit, hsg, hne, ht⟩ := hX'
  have e0 := mk3_self z i
  have k1 := k_beginSizes i c n z (sB z 9 i) (sB z 203 i) (sA z 204 i) hX
  rw [e0] at k1
  refine ok_eq k1 ?_
  have b0 : ∀ t, t < c → fb 14 (flo 0 c (sB z 301 i) (sB z 9 i) t) := by
    intro t h
    rw [flo_in (by omega)]
    exact (ht t (by omega)).2.1
  have l0 : ∀ t, t < c → fb 14 (flo 0 c (bgL (sA z 302 i) (sB z 301 i) (sB z 303 i)) (sB z 203 i) t) := by
    intro t h
    rw [flo_in (by omega)]
    unfold bgL
    split
    · exact (ht t (by omega)).2.1
    · exact (ht t (by omega)).2.2.2
  refine ok_eq (k_meetSingles (m := 14) i c n z _ _ _ hX (by omega) (by omega) b0 (rz_q (Q := fb 14) (fun _ _ => mx_fb) b0 l0)) ?_
  refine ok_seq (k_spreadLeast (m := 14) i c n z (w1B z i c n) (w1L z i c n) _ hX (by omega) (by omega) W1 (fun t h => fb_le (L1 t h).1 (by omega))) (fun q4 h4 => ?_)
  obtain ⟨c4, rfl⟩ := h4
  refine ok_seq (k_spreadMost (m := 44) i c n z (w2B z i c n) (w2L z i c n) c4 hX (by omega) (by omega) L2) (fun q5 h5 => ?_)
  obtain ⟨c5, rfl⟩ := h5
  refine ok_seq (k_growToLimits i c n z (w2B z i c n) (w3L z i c n) c5 hX (fun t h => ⟨fb_le (W2 t h).1 (by omega), (W2 t h).2⟩) L3) (fun q6 h6 => ?_)
  obtain ⟨rfl, W4⟩ := h6
  refine ok_seq (k_giveShares i c n z (w4B z i c n) (w3L z i c n) c5 hX W4) (fun q7 h7 => ?_)
  obtain ⟨c7, rfl, W5⟩ := h7
  refine ok_eq (k_stretch i c n z (w5B z i c n c5) (w3L z i c n) c7 hX W5) ?_
  have W6 : ∀ t, t < c → fb 91 (w6B z i c n c5 t) ∧ nn (w6B z i c n c5 t) := stB_q hc2 W5 ⟨hsg.2.1, hsg.1⟩ ⟨hsg.2.2.2, hsg.2.2.1⟩
  have F1 : fb 114 (w6F z i c n c5) := rst_fb (m := 91) (fb_le hsg.2.1 (by omega)) (fb_le hsg.2.2.2 (by omega)) (and_1 W6) hc2 (by omega)
  have F2 : 0 < fk (w6F z i c n c5) → fb 12 (w6F z i c n c5) := fun h0 => (pos_fb hsg.2.1 hsg.1 h0 (rst_le (m := 91) (fb_le hsg.2.1 (by omega)) ⟨fb_le hsg.2.2.2 (by omega), hsg.2.2.1⟩ W6 hc2 (by omega))).1
  have e13 : sF (mk3 (wF z 13 i (w6F z i c n c5)) i (w6B z i c n c5) (w3L z i c n) c7) 13 i = w6F z i c n c5 := by
    rw [mF, sF_wF, if_pos ⟨rfl, rfl⟩]
  have e9 : sB (mk3 (wF z 13 i (w6F z i c n c5)) i (w6B z i c n c5) (w3L z i c n) c7) 9 i = w6B z i c n c5 := m9 _ _ _ _ _
  have kp := k_findPositions (m := 114) i c (mk3 (wF z 13 i (w6F z i c n c5)) i (w6B z i c n c5) (w3L z i c n) c7) hc hc2 (by omega) (by rw [e13]; exact F1) (by rw [e13]; exact F2) hsg.2.2.2 (by rw [e9]; exact and_1 W6)
  rw [e13, e9] at kp
  refine ok_eq kp ?_
  have e9' : ∀ v, sB (wB (mk3 (wF z 13 i (w6F z i c n c5)) i (w6B z i c n c5) (w3L z i c n) c7) 10 i v) 9 i = w6B z i c n c5 := fun v => by
    rw [sB_wB, if_neg (by omega)]; exact e9
  have ke := k_findExtents i c n (wB (mk3 (wF z 13 i (w6F z i c n c5)) i (w6B z i c n c5) (w3L z i c n) c7) 10 i (flo 0 c (posn (pos1 (w6F z i c n c5) (sI z 3 i)) (sF z 2 i) (w6B z i c n c5)) (sB z 10 i))) hn hn2 hc2 hit hsg.2.2.2 (by rw [e9']; exact and_1 W6)
  rw [e9'] at ke
  refine ok_eq ke (ok_some ⟨c5, c7, ?_, W6, F1, F2⟩)
  subst hs'
  rfl
