/-! ===== SIZING: the reference, spreads (written by wip/whole/gen_mod3.py) ===== -/
section
variable {s : pS} {a c n : Nat} {lo hi ln sp : Nat → Int} {lnu hn le mo : Nat → UInt32} {spc g : UInt32} {how : Int}
theorem k6_firstOf (hV : mv s a c n lo hi ln sp lnu hn le mo spc g how) (j t : Nat) (b l : Nat → UInt32) (e ch d : Nat → Int) (hj : j < n) (h1 : ln j = (t : Int) + 1) (ht : t ≤ 12) : f_X6_firstOf a j (mk6 s a b l e ch d) = some ((t : Int), mk6 s a b l e ch d) := by
  obtain ⟨ha, hc, hc2, hn', hn2, hT, hJ, -⟩ := hV
  obtain ⟨j1, -⟩ := hJ j hj
  refine of_ok ?_
  unfold f_X6_firstOf
  try simp only [n634, n635, n636, n643, n644, n6I, n6F, u634, u635, u636, u643, u644, n633, n604, n605, n606, n631, n621, n628, n607, n608, n622, n623, n626, n627, n638, nnat, i12, i2, ion]
  rw [j1, h1]
  refine ok_ck (inR_of (by omega)) (ok_ck (inR_of (by omega)) (ok_ck (by omega) (ok_ck (inR_of (by omega)) (ok_some ?_))))
  rw [show (t : Int) + 1 - 1 = (t : Int) by omega]
theorem k6_rest {m : Nat} (hV : mv s a c n lo hi ln sp lnu hn le mo spc g how) (x4 : Int) (src b l : Nat → UInt32) (e ch d p : Nat → Int) (x : UInt32) (f w : Nat) (K : Int → Int → Int → Int → UInt32 → Int → pS → Option pS) (P : pS → Prop) (hfw : f + w ≤ 12) (hw : w ≤ 4) (hm : m ≤ 100) (hx : fb m x) (hs : ∀ t, f ≤ t → t < f + w → fb m (src t)) (hg : fb m g)
    (hsrc : x4 = 0 ∧ (∀ t, f ≤ t → t < f + w → src t = b t) ∨ x4 = 1 ∧ (∀ t, f ≤ t → t < f + w → src t = if e t = 0 then l t else b t)) (hp : ∀ t, f ≤ t → t < f + w → ch t = p t)
    (hK : ok (K a x4 f w (spx x g src f w) (cn p f w) (mk6 s a b l e ch d)) P) :
    ok (f_X6_spread_30 (fun x1 x4 x5 x6 x7 x8 s6 => f_X6_spread_115 K 400 x1 x4 x5 x6 x7 x8 1 s6) 400 a x4 f w x 0 f (mk6 s a b l e ch d)) P := by
  obtain ⟨ha, hc, hc2, hn', hn2, hT, hJ, hsp, hgg, -⟩ := hV
  have h := itS (fun r k => f_X6_spread_30 (fun x1 x4 x5 x6 x7 x8 s6 => f_X6_spread_115 K 400 x1 x4 x5 x6 x7 x8 1 s6) r a x4 f w (subs x (fun k => src (f + k)) k) (cn p f k) ((f : Int) + (k : Int)) (mk6 s a b l e ch d)) w P (fun r k hk ih => ?_) (fun r => ?_) 400 0 (by omega) (by omega)
  · rw [show ((f : Int) + ((0 : Nat) : Int)) = (f : Int) by omega] at h
    exact h
  · have hk12 : f + k < 12 := by omega
    have hcl := cn_le p f k
    rw [f_X6_spread_30]
    have tail : ok (f_X6_spread_83 (f_X6_spread_30 (fun x1 x4 x5 x6 x7 x8 s6 => f_X6_spread_115 K 400 x1 x4 x5 x6 x7 x8 1 s6) r) (fun x1 x4 x5 x6 x7 x8 s6 => f_X6_spread_115 K 400 x1 x4 x5 x6 x7 x8 1 s6) a x4 f w (cn p f k) ((f : Int) + (k : Int)) (subs x (fun k => src (f + k)) k) (src (f + k)) (mk6 s a b l e ch d)) P := by
      unfold f_X6_spread_83 f_X6_spread_103
      try simp only [n634, n635, n636, n643, n644, n6I, n6F, u634, u635, u636, u643, u644, n633, n604, n605, n606, n631, n621, n628, n607, n608, n622, n623, n626, n627, n638, nnat, i12, i2, ion]
      rw [hp (f + k) (by omega) (by omega)]
      refine ok_ck (fb_n32 (subs_fb (n := k + 1) (b := fun k => src (f + k)) hx (fun t ht => hs _ (by omega) (by omega)) (by omega)) (by omega)) (ok_bs (ok_ck (by omega) (ok_if (fun q => ok_ck (inR_of (by omega)) (ok_bs (ok_ck (inR_of (by omega)) ?_))) (fun q => ok_ck (inR_of (by omega)) (ok_bs (ok_ck (inR_of (by omega)) ?_))))))
      · rw [cn, if_pos q] at ih
        rw [show (f : Int) + (k : Int) + 1 = (f : Int) + ((k + 1 : Nat) : Int) by omega]
        exact ih
      · rw [cn, if_neg q] at ih
        rw [show (f : Int) + (k : Int) + 1 = (f : Int) + ((k + 1 : Nat) : Int) by omega]
        exact ih
    have i13 : (12 * (a : Int) + ((f : Int) + (k : Int))).toNat = 12 * a + (f + k) := by omega
    unfold f_X6_spread_76
    try simp only [n634, n635, n636, n643, n644, n6I, n6F, u634, u635, u636, u643, u644, n633, n604, n605, n606, n631, n621, n628, n607, n608, n622, n623, n626, n627, n638, nnat, i12, i2, ion]
    refine ok_ck (inR_of (by omega)) (ok_neg (by omega) (ok_ck (inR_of (by omega)) (ok_ck (inR_of (by omega)) (ok_bs ?_))))
    try simp only [n634, n635, n636, n643, n644, n6I, n6F, u634, u635, u636, u643, u644, n633, n604, n605, n606, n631, n621, n628, n607, n608, n622, n623, n626, n627, n638, nnat, i12, i2, ion]
    simp only [i13]
    rcases hsrc with ⟨h0, h1⟩ | ⟨h0, h1⟩
    · refine ok_pos h0 (ok_ck (by omega) ?_)
      rw [pt_at hk12, ← h1 (f + k) (by omega) (by omega)]
      exact tail
    · refine ok_neg (by omega) (ok_ck (by omega) ?_)
      rw [pt_at hk12, pt_at hk12, pt_at hk12]
      have h2 := h1 (f + k) (by omega) (by omega)
      refine ok_if (fun q => ok_ck (by omega) ?_) (fun q => ok_ck (by omega) ?_)
      · rw [if_neg q] at h2
        rw [← h2]
        exact tail
      · rw [if_pos (Classical.not_not.mp q)] at h2
        rw [← h2]
        exact tail
  · rw [f_X6_spread_30]
    refine ok_ck (inR_of (by omega)) (ok_pos (Int.le_refl _) ?_)
    have q1 := subs_fb (n := w) (b := fun k => src (f + k)) hx (fun t ht => hs _ (by omega) (by omega)) (by omega)
    refine itS (fun r k => f_X6_spread_115 K r a x4 f w (subs (subs x (fun k => src (f + k)) w) (fun _ => g) k) (cn p f w) ((k : Int) + 1) (mk6 s a b l e ch d)) (w - 1) P (fun r k hk ih => ?_) (fun r => ?_) 400 0 (by omega) (by omega)
    · rw [f_X6_spread_115]
      try simp only [n634, n635, n636, n643, n644, n6I, n6F, u634, u635, u636, u643, u644, n633, n604, n605, n606, n631, n621, n628, n607, n608, n622, n623, n626, n627, n638, nnat, i12, i2, ion]
      rw [hgg]
      exact ok_neg (by omega) (ok_ck (by omega) (ok_ck (fb_n32 (subs_fb (n := k + 1) (b := fun _ => g) q1 (fun _ _ => fb_le hg (by omega)) (by omega)) (by omega)) (ok_bs (ok_ck (inR_of (by omega)) ih))))
    · rw [f_X6_spread_115]
      exact ok_pos (by omega) hK
theorem k6_spread0 {m : Nat} (hV : mv s a c n lo hi ln sp lnu hn le mo spc g how) (j f w : Nat) (b l : Nat → UInt32) (e ch d p : Nat → Int) (x : UInt32) (hj : j < n) (h1 : ln j = (f : Int) + 1) (h2 : sp j = (w : Int)) (hfw : f + w ≤ 12) (hm : m ≤ 90) (hm2 : 14 ≤ m) (hx : fb 12 x) (hxn : nn x) (hb : ∀ t, f ≤ t → t < f + w → fb m (b t) ∧ nn (b t)) (hp : ∀ t, f ≤ t → t < f + w → ch t = p t) (hcn0 : cn p f w ≠ 0) :
    f_X6_spread a j x 0 (mk6 s a b l e ch d) = some (mk6 s a (sprd x g b p f w) l e ch d) := by
  have hV' := hV
  obtain ⟨ha, hc, hc2, hn', hn2, hT, hJ, hsp, hgg, hho, hsn, hsf, hgn, hgf⟩ := hV'
  obtain ⟨j1, j2, j3, j4, j5, j6, j7, j8, j9, j10, j11, j12⟩ := hJ j hj
  have hcl := cn_le p f w
  refine of_ok ?_
  unfold f_X6_spread
  refine ok_eq (k6_firstOf hV j f b l e ch d hj h1 (by omega)) ?_
  try simp only [n634, n635, n636, n643, n644, n6I, n6F, u634, u635, u636, u643, u644, n633, n604, n605, n606, n631, n621, n628, n607, n608, n622, n623, n626, n627, n638, nnat, i12, i2, ion]
  rw [j2, h2]
  refine ok_ck (inR_of (by omega)) (ok_ck (inR_of (by omega)) (ok_ck (by omega) (ok_bs ?_)))
  refine k6_rest (m := m) hV 0 b b l e ch d p x f w _ _ hfw (by omega) (by omega) (fb_le hx (by omega)) (fun t q1 q2 => (hb t q1 q2).1) (fb_le hgf (by omega)) (Or.inl ⟨rfl, fun _ _ _ => rfl⟩) hp ?_
  try dsimp only
  have q2 := spx_fb (m := m) (x := x) (fb_le hx (by omega)) (fb_le hgf (by omega)) (fun t q1 q2 => (hb t q1 q2).1) (show w ≤ 4 by omega) (by omega)
  have q3 := (fc0 .l q2 (by omega)).2
  unfold sprd
  rw [if_neg hcn0]
  refine ok_if (fun q => ?_) (fun q => ?_)
  · have g4 := q3.mp q
    rw [if_neg (show ¬ fk (spx x g b f w) ≤ 0 by omega)]
    have q4 := spx_pos (m := m) hx hxn ⟨hgf, hgn⟩ hb (show w ≤ 4 by omega) (by omega) (by omega) g4
    have q5 := part_fb (n := cn p f w) q4.1 hcn0 (by omega) (by omega)
    refine ok_ck (fb_n32 q5 (by omega)) (ok_bs ?_)
    generalize FP.fdiv (spx x g b f w) (FP.i2f (Int32.ofInt (cn p f w : Int))) = y at *
    have h := itS (fun r k => f_X6_spread_159 (fun s10 => some s10) r a 0 f w y ((f : Int) + (k : Int)) (mk6 s a (flo f k (spn y b p) b) l e ch d)) w (fun z => z = mk6 s a (flo f w (spn y b p) b) l e ch d) (fun r k hk ih => ?_) (fun r => ?_) 400 0 (by omega) (by omega)
    · rw [show ((f : Int) + ((0 : Nat) : Int)) = (f : Int) by omega, flo_0] at h
      exact h
    · have hk12 : f + k < 12 := by omega
      have i13 : (12 * (a : Int) + ((f : Int) + (k : Int))).toNat = 12 * a + (f + k) := by omega
      rw [f_X6_spread_159]
      unfold f_X6_spread_210 f_X6_spread_242
      try simp only [n634, n635, n636, n643, n644, n6I, n6F, u634, u635, u636, u643, u644, n633, n604, n605, n606, n631, n621, n628, n607, n608, n622, n623, n626, n627, n638, nnat, i12, i2, ion]
      rw [hp (f + k) (by omega) (by omega)]
      refine ok_ck (inR_of (by omega)) (ok_neg (by omega) (ok_ck (inR_of (by omega)) (ok_ck (inR_of (by omega)) (ok_bs (ok_ck (by omega) ?_)))))
      try simp only [n634, n635, n636, n643, n644, n6I, n6F, u634, u635, u636, u643, u644, n633, n604, n605, n606, n631, n621, n628, n607, n608, n622, n623, n626, n627, n638, nnat, i12, i2, ion]
      simp only [i13]
      refine ok_if (fun r1 => ok_ck (by omega) (ok_pos r1 (ok_ck (inR_of (by omega)) ?_))) (fun r1 => ok_pos (by simp) (ok_ck (by omega) (ok_neg r1 (ok_neg (by decide) (ok_ck (by omega) ?_)))))
      · rw [flo_skip (by unfold spn; rw [if_pos r1])] at ih
        rw [show (f : Int) + (k : Int) + 1 = (f : Int) + ((k + 1 : Nat) : Int) by omega]
        exact ih
      · rw [pt_at hk12, flo_at]
        refine ok_ck (fb_n32 (fb_add (m := m) (hb _ (by omega) (by omega)).1 (fb_le q5 (by omega)) (by omega)) (by omega)) (ok_ck (by omega) (ok_bs ?_))
        rw [pt_up hk12, u634, flo_up (by unfold spn; rw [if_neg r1])]
        refine ok_ck (inR_of (by omega)) ?_
        rw [show (f : Int) + (k : Int) + 1 = (f : Int) + ((k + 1 : Nat) : Int) by omega]
        exact ih
    · rw [f_X6_spread_159]
      exact ok_ck (inR_of (by omega)) (ok_pos (Int.le_refl _) (ok_some rfl))
  · rw [if_pos (Int.not_lt.mp (fun h => q (q3.mpr h)))]
    exact ok_some rfl
theorem k6_spread1 {m : Nat} (hV : mv s a c n lo hi ln sp lnu hn le mo spc g how) (j f w : Nat) (src b l : Nat → UInt32) (e ch d p : Nat → Int) (x : UInt32) (hj : j < n) (h1 : ln j = (f : Int) + 1) (h2 : sp j = (w : Int)) (hfw : f + w ≤ 12) (hm : m ≤ 90) (hm2 : 14 ≤ m) (hx : fb 12 x) (hxn : nn x) (hb : ∀ t, f ≤ t → t < f + w → fb m (src t) ∧ nn (src t)) (hsrc : ∀ t, f ≤ t → t < f + w → src t = if e t = 0 then l t else b t) (hp : ∀ t, f ≤ t → t < f + w → ch t = p t) (hpe : ∀ t, f ≤ t → t < f + w → p t ≠ 0 → e t = 0) (hcn0 : cn p f w ≠ 0) :
    ok (f_X6_spread a j x 1 (mk6 s a b l e ch d)) (fun u => ∃ l', u = mk6 s a b l' e ch d ∧ (∀ t, (f ≤ t ∧ t < f + w ∧ p t ≠ 0 → l' t = sprd x g src p f w t) ∧ (¬ (f ≤ t ∧ t < f + w ∧ p t ≠ 0) → l' t = l t))) := by
  have hV' := hV
  obtain ⟨ha, hc, hc2, hn', hn2, hT, hJ, hsp, hgg, hho, hsn, hsf, hgn, hgf⟩ := hV'
  obtain ⟨j1, j2, j3, j4, j5, j6, j7, j8, j9, j10, j11, j12⟩ := hJ j hj
  have hcl := cn_le p f w
  unfold f_X6_spread
  refine ok_eq (k6_firstOf hV j f b l e ch d hj h1 (by omega)) ?_
  try simp only [n634, n635, n636, n643, n644, n6I, n6F, u634, u635, u636, u643, u644, n633, n604, n605, n606, n631, n621, n628, n607, n608, n622, n623, n626, n627, n638, nnat, i12, i2, ion]
  rw [j2, h2]
  refine ok_ck (inR_of (by omega)) (ok_ck (inR_of (by omega)) (ok_ck (by omega) (ok_bs ?_)))
  refine k6_rest (m := m) hV 1 src b l e ch d p x f w _ _ hfw (by omega) (by omega) (fb_le hx (by omega)) (fun t q1 q2 => (hb t q1 q2).1) (fb_le hgf (by omega)) (Or.inr ⟨rfl, hsrc⟩) hp ?_
  try dsimp only
  have q2 := spx_fb (m := m) (x := x) (fb_le hx (by omega)) (fb_le hgf (by omega)) (fun t q1 q2 => (hb t q1 q2).1) (show w ≤ 4 by omega) (by omega)
  have q3 := (fc0 .l q2 (by omega)).2
  have hls : ∀ t, f ≤ t → t < f + w → p t ≠ 0 → l t = src t := by
    intro t r1 r2 r3
    rw [hsrc t r1 r2, if_pos (hpe t r1 r2 r3)]
  unfold sprd
  rw [if_neg hcn0]
  refine ok_if (fun q => ?_) (fun q => ?_)
  · have g4 := q3.mp q
    rw [if_neg (show ¬ fk (spx x g src f w) ≤ 0 by omega)]
    have q4 := spx_pos (m := m) hx hxn ⟨hgf, hgn⟩ hb (show w ≤ 4 by omega) (by omega) (by omega) g4
    have q5 := part_fb (n := cn p f w) q4.1 hcn0 (by omega) (by omega)
    refine ok_ck (fb_n32 q5 (by omega)) (ok_bs ?_)
    generalize FP.fdiv (spx x g src f w) (FP.i2f (Int32.ofInt (cn p f w : Int))) = y at *
    have h := itS (fun r k => f_X6_spread_159 (fun s10 => some s10) r a 1 f w y ((f : Int) + (k : Int)) (mk6 s a b (flo f k (spn y l p) l) e ch d)) w (fun u => ∃ l', u = mk6 s a b l' e ch d ∧ (∀ t, (f ≤ t ∧ t < f + w ∧ p t ≠ 0 → l' t = flo f w (spn y src p) src t) ∧ (¬ (f ≤ t ∧ t < f + w ∧ p t ≠ 0) → l' t = l t))) (fun r k hk ih => ?_) (fun r => ?_) 400 0 (by omega) (by omega)
    · rw [show ((f : Int) + ((0 : Nat) : Int)) = (f : Int) by omega, flo_0] at h
      exact h
    · have hk12 : f + k < 12 := by omega
      have i13 : (12 * (a : Int) + ((f : Int) + (k : Int))).toNat = 12 * a + (f + k) := by omega
      rw [f_X6_spread_159]
      unfold f_X6_spread_210 f_X6_spread_242
      try simp only [n634, n635, n636, n643, n644, n6I, n6F, u634, u635, u636, u643, u644, n633, n604, n605, n606, n631, n621, n628, n607, n608, n622, n623, n626, n627, n638, nnat, i12, i2, ion]
      rw [hp (f + k) (by omega) (by omega)]
      refine ok_ck (inR_of (by omega)) (ok_neg (by omega) (ok_ck (inR_of (by omega)) (ok_ck (inR_of (by omega)) (ok_bs (ok_ck (by omega) ?_)))))
      try simp only [n634, n635, n636, n643, n644, n6I, n6F, u634, u635, u636, u643, u644, n633, n604, n605, n606, n631, n621, n628, n607, n608, n622, n623, n626, n627, n638, nnat, i12, i2, ion]
      simp only [i13]
      refine ok_if (fun r1 => ok_ck (by omega) (ok_pos r1 (ok_ck (inR_of (by omega)) ?_))) (fun r1 => ok_neg (by decide) (ok_ck (by omega) ?_))
      · rw [flo_skip (by unfold spn; rw [if_pos r1])] at ih
        rw [show (f : Int) + (k : Int) + 1 = (f : Int) + ((k + 1 : Nat) : Int) by omega]
        exact ih
      · rw [pt_at hk12, flo_at]
        refine ok_ck (fb_n32 (fb_add (m := m) (by rw [hls _ (by omega) (by omega) r1]; exact (hb _ (by omega) (by omega)).1) (fb_le q5 (by omega)) (by omega)) (by omega)) (ok_ck (by omega) (ok_bs ?_))
        rw [pt_up hk12, u635, flo_up (by unfold spn; rw [if_neg r1])]
        try simp only [n634, n635, n636, n643, n644, n6I, n6F, u634, u635, u636, u643, u644, n633, n604, n605, n606, n631, n621, n628, n607, n608, n622, n623, n626, n627, n638, nnat, i12, i2, ion]
        refine ok_ck (by omega) (ok_neg (by rw [hp (f + k) (by omega) (by omega)]; exact r1) (ok_pos (by decide) (ok_ck (inR_of (by omega)) ?_)))
        rw [show (f : Int) + (k : Int) + 1 = (f : Int) + ((k + 1 : Nat) : Int) by omega]
        exact ih
    · rw [f_X6_spread_159]
      refine ok_ck (inR_of (by omega)) (ok_pos (Int.le_refl _) (ok_some ⟨_, rfl, fun t => ⟨fun r => ?_, fun r => ?_⟩⟩))
      · rw [flo_in ⟨r.1, r.2.1⟩, flo_in ⟨r.1, r.2.1⟩]
        unfold spn
        rw [if_neg r.2.2, if_neg r.2.2, hls t r.1 r.2.1 r.2.2]
      · unfold flo
        by_cases r1 : f ≤ t ∧ t < f + w
        · rw [if_pos r1]
          unfold spn
          rw [if_pos (Classical.not_not.mp (fun h => r ⟨r1.1, r1.2, h⟩))]
        · rw [if_neg r1]
  · rw [if_pos (Int.not_lt.mp (fun h => q (q3.mpr h)))]
    exact ok_some ⟨l, rfl, fun t => ⟨fun r => hls t r.1 r.2.1 r.2.2, fun _ => rfl⟩⟩
end
