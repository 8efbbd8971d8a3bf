/-! ===== SIZING: the reference, needs and limits (written by wip/whole/gen_mod4.py) ===== -/
theorem sprd_out {x g : UInt32} {b : Nat → UInt32} {p : Nat → Int} {f w t : Nat} (h : ¬ (f ≤ t ∧ t < f + w) ∨ p t = 0) : sprd x g b p f w t = b t := by
  unfold sprd
  split
  · rfl
  · split
    · rfl
    · unfold flo
      split
      · rename_i h1
        unfold spn
        rw [if_pos (by rcases h with h | h; exact absurd h1 h; exact h)]
      · rfl
theorem sprd_ge {m c f w : Nat} {x g : UInt32} {b : Nat → UInt32} {p : Nat → Int} (hb : ∀ t, t < c → fb m (b t) ∧ nn (b t)) (ha : f + w ≤ c) (hn : w ≤ 4) (hx : fb 12 x) (hxn : nn x) (hg : fb 12 g ∧ nn g) (hm : m ≤ 90) (hm2 : 14 ≤ m) : ∀ t, t < c → (b t).toNat ≤ (sprd x g b p f w t).toNat := by
  intro t ht
  have h1 := hb t ht
  have hq := (sprd_q (p := p) hb ha hn hx hxn hg hm hm2 t ht).2
  have key : fk (b t) ≤ fk (sprd x g b p f w t) := by
    have hcn := cn_le p f w
    unfold sprd
    split
    · exact Int.le_refl _
    · split
      · exact Int.le_refl _
      · rename_i g1 g2
        have q4 := spx_pos (m := m) hx hxn hg (fun t q1 q2 => hb t (by omega)) hn (by omega) (by omega) (Int.not_le.mp g2)
        have q5 := part_fb (n := cn p f w) q4.1 (by omega) (by omega) (by omega)
        have q6 := part_nn (n := cn p f w) q4.1 q4.2 (by omega) (by omega) (by omega)
        unfold flo spn
        split
        · split
          · exact Int.le_refl _
          · exact add_ge h1.1 (fb_le q5 (by omega)) (by omega) q6
        · exact Int.le_refl _
  rw [fk_nn h1.2, fk_nn hq] at key
  omega
section
variable {s : pS} {a c n : Nat} {lo hi ln sp : Nat → Int} {lnu hn le mo : Nat → UInt32} {spc g : UInt32} {how : Int}
theorem k6_needy {m : Nat} (hV : mv s a c n lo hi ln sp lnu hn le mo spc g how) (j f w : Nat) (b l : Nat → UInt32) (e ch d : Nat → Int) (hj : j < n) (h1 : ln j = (f : Int) + 1) (h2 : sp j = (w : Int)) (hfw : f + w ≤ c) (hm : m ≤ 90) (hm2 : 14 ≤ m) (hb : ∀ t, t < c → fb m (b t) ∧ nn (b t)) (hl : ∀ t, t < c → e t = 0 → fb (m + 1) (l t)) :
    ok (f_X6_needy a j (mk6 s a b l e ch d)) (fun u => ∃ l' ch', u = mk6 s a (sprd (le j) g b (ndy lo hi) f w) l' e ch' d ∧ ∀ t, l' t = if f ≤ t ∧ t < f + w ∧ e t = 0 then mx (l t) (sprd (le j) g b (ndy lo hi) f w t) else l t) := by
  have hV' := hV
  obtain ⟨ha, hc, hc2, hn', hn2, hT, hJ, hsp, hgg, hho, hsn, hsf, hgn, hgf⟩ := hV'
  obtain ⟨j1, j2, j3, j4, j5, j6, j7, j8, j9, j10, j11, j12⟩ := hJ j hj
  have hsq := sprd_q (m := m) (x := le j) (g := g) (p := ndy lo hi) hb hfw (by omega) j10 j9 ⟨hgf, hgn⟩ hm hm2
  -- the last loop: limits raised
  have last : ∀ (ch' : Nat → Int), ok (f_X6_needy_113 a j f (mk6 s a (sprd (le j) g b (ndy lo hi) f w) l e ch' d)) (fun u => ∃ l' ch', u = mk6 s a (sprd (le j) g b (ndy lo hi) f w) l' e ch' d ∧ ∀ t, l' t = if f ≤ t ∧ t < f + w ∧ e t = 0 then mx (l t) (sprd (le j) g b (ndy lo hi) f w t) else l t) := by
    intro ch'
    unfold f_X6_needy_113
    generalize sprd (le j) g b (ndy lo hi) f w = b' at *
    have h := itS (fun r k => f_X6_needy_116 (fun s1 => some s1) r a j f ((f : Int) + (k : Int)) (mk6 s a b' (flo f k (fun t => if e t = 0 then mx (l t) (b' t) else l t) l) e ch' d)) w (fun u => ∃ l' ch', u = mk6 s a b' l' e ch' d ∧ ∀ t, l' t = if f ≤ t ∧ t < f + w ∧ e t = 0 then mx (l t) (b' t) else l t) (fun r k hk ih => ?_) (fun r => ?_) 400 0 (by omega) (by omega)
    · rw [show ((f : Int) + ((0 : Nat) : Int)) = (f : Int) by omega, flo_0] at h
      exact h
    · have hk12 : f + k < 12 := by omega
      rw [f_X6_needy_116]
      try simp only [n634, n635, n636, n643, n644, n6I, n6F, u634, u635, u636, u643, u644, n633, n604, n605, n606, n631, n621, n628, n607, n608, n622, n623, n626, n627, n638, nnat, i12, i2, ion]
      rw [j2, h2]
      refine ok_ck (inR_of (by omega)) (ok_ck (inR_of (by omega)) (ok_ck (by omega) (ok_ck (inR_of (by omega)) (ok_neg (by omega) (ok_ck (inR_of (by omega)) (ok_ck (inR_of (by omega)) ?_))))))
      rw [show (f : Int) + (k : Int) = ((f + k : Nat) : Int) by omega]
      refine ok_eq (k6_raise (m := m + 1) s a (f + k) _ _ _ _ _ ha hk12 (by omega) (fun h0 => ⟨by rw [flo_at]; exact hl _ (by omega) h0, (hsq _ (by omega)).1⟩)) (ok_ck (inR_of (by omega)) ?_)
      rw [flo_at, flo_up rfl]
      rw [show ((f + k : Nat) : Int) + 1 = (f : Int) + ((k + 1 : Nat) : Int) by omega]
      exact ih
    · rw [f_X6_needy_116]
      try simp only [n634, n635, n636, n643, n644, n6I, n6F, u634, u635, u636, u643, u644, n633, n604, n605, n606, n631, n621, n628, n607, n608, n622, n623, n626, n627, n638, nnat, i12, i2, ion]
      rw [j2, h2]
      refine ok_ck (inR_of (by omega)) (ok_ck (inR_of (by omega)) (ok_ck (by omega) (ok_ck (inR_of (by omega)) (ok_pos (by omega) (ok_some ⟨_, ch', rfl, fun t => ?_⟩)))))
      unfold flo
      by_cases r1 : f ≤ t ∧ t < f + w
      · rw [if_pos r1]
        show (if e t = 0 then mx (l t) (b' t) else l t) = _
        by_cases r2 : e t = 0
        · rw [if_pos r2, if_pos ⟨r1.1, r1.2, r2⟩]
        · rw [if_neg r2, if_neg (fun h => r2 h.2.2)]
      · rw [if_neg r1, if_neg (fun h => r1 ⟨h.1, h.2.1⟩)]
  unfold f_X6_needy
  refine ok_eq (k6_firstOf hV j f b l e ch d hj h1 (by omega)) ?_
  have h := itS (fun r k => f_X6_needy_13 (fun x1 x2 x3 x4 s2 => (if x4 = 0 then f_X6_needy_113 x1 x2 x3 s2 else ck (inR (2 * x2)) (ck (inR ((2 * x2) + x1)) (ck (0 ≤ ((2 * x2) + x1) ∧ ((2 * x2) + x1) < 20) ((f_X6_spread x1 x2 (sB s2 622 0 ((2 * x2) + x1).toNat) 0 s2).bind (fun q6 => f_X6_needy_113 x1 x2 x3 q6)))))) r a j f (if cn (ndy lo hi) f k = 0 then 0 else 1) ((f : Int) + (k : Int)) (mk6 s a b l e (flo f k (ndy lo hi) ch) d)) w (fun u => ∃ l' ch', u = mk6 s a (sprd (le j) g b (ndy lo hi) f w) l' e ch' d ∧ ∀ t, l' t = if f ≤ t ∧ t < f + w ∧ e t = 0 then mx (l t) (sprd (le j) g b (ndy lo hi) f w t) else l t) (fun r k hk ih => ?_) (fun r => ?_) 400 0 (by omega) (by omega)
  · rw [show ((f : Int) + ((0 : Nat) : Int)) = (f : Int) by omega, flo_0] at h
    exact h
  · have hk12 : f + k < 12 := by omega
    have hkc : f + k < c := by omega
    rw [f_X6_needy_13]
    unfold f_X6_needy_61 f_X6_needy_62 f_X6_needy_78 f_X6_needy_83
    try simp only [n634, n635, n636, n643, n644, n6I, n6F, u634, u635, u636, u643, u644, n633, n604, n605, n606, n631, n621, n628, n607, n608, n622, n623, n626, n627, n638, nnat, i12, i2, ion]
    rw [j2, h2]
    refine ok_ck (inR_of (by omega)) (ok_ck (inR_of (by omega)) (ok_ck (by omega) (ok_ck (inR_of (by omega)) (ok_neg (by omega) ?_))))
    rw [show (f : Int) + (k : Int) = ((f + k : Nat) : Int) by omega]
    have fin : ∀ v : Int, (v = 0 ∨ v = 1) → v = ndy lo hi (f + k) → ok (ck (0 ≤ ((f + k : Nat) : Int) ∧ ((f + k : Nat) : Int) < 12) (ck (v = 0 ∨ v = 1) (bs (wA (mk6 s a b l e (flo f k (ndy lo hi) ch) d) 643 0 (pm_up (flo f k (ndy lo hi) ch) (f + k) v)) (fun s3 => if (if cn (ndy lo hi) f k = 0 then (0 : Int) else 1) ≠ 0 then ck (inR (((f + k : Nat) : Int) + 1)) (f_X6_needy_13 (fun x1 x2 x3 x4 s2 => (if x4 = 0 then f_X6_needy_113 x1 x2 x3 s2 else ck (inR (2 * x2)) (ck (inR ((2 * x2) + x1)) (ck (0 ≤ ((2 * x2) + x1) ∧ ((2 * x2) + x1) < 20) ((f_X6_spread x1 x2 (sB s2 622 0 ((2 * x2) + x1).toNat) 0 s2).bind (fun q6 => f_X6_needy_113 x1 x2 x3 q6)))))) r a j f 1 (((f + k : Nat) : Int) + 1) s3) else ck (0 ≤ ((f + k : Nat) : Int) ∧ ((f + k : Nat) : Int) < 12) (if sA s3 643 0 (f + k) = 0 then ck (inR (((f + k : Nat) : Int) + 1)) (f_X6_needy_13 (fun x1 x2 x3 x4 s2 => (if x4 = 0 then f_X6_needy_113 x1 x2 x3 s2 else ck (inR (2 * x2)) (ck (inR ((2 * x2) + x1)) (ck (0 ≤ ((2 * x2) + x1) ∧ ((2 * x2) + x1) < 20) ((f_X6_spread x1 x2 (sB s2 622 0 ((2 * x2) + x1).toNat) 0 s2).bind (fun q6 => f_X6_needy_113 x1 x2 x3 q6)))))) r a j f 0 (((f + k : Nat) : Int) + 1) s3) else ck (inR (((f + k : Nat) : Int) + 1)) (f_X6_needy_13 (fun x1 x2 x3 x4 s2 => (if x4 = 0 then f_X6_needy_113 x1 x2 x3 s2 else ck (inR (2 * x2)) (ck (inR ((2 * x2) + x1)) (ck (0 ≤ ((2 * x2) + x1) ∧ ((2 * x2) + x1) < 20) ((f_X6_spread x1 x2 (sB s2 622 0 ((2 * x2) + x1).toNat) 0 s2).bind (fun q6 => f_X6_needy_113 x1 x2 x3 q6)))))) r a j f 1 (((f + k : Nat) : Int) + 1) s3)))))) (fun u => ∃ l' ch', u = mk6 s a (sprd (le j) g b (ndy lo hi) f w) l' e ch' d ∧ ∀ t, l' t = if f ≤ t ∧ t < f + w ∧ e t = 0 then mx (l t) (sprd (le j) g b (ndy lo hi) f w t) else l t) := by
      intro v hv hv2
      refine ok_ck (by omega) (ok_ck hv (ok_bs ?_))
      rw [u643, flo_up hv2]
      rw [cn] at ih
      rw [show ((f + k : Nat) : Int) + 1 = (f : Int) + ((k + 1 : Nat) : Int) by omega]
      refine ok_if (fun q => ok_ck (inR_of (by omega)) ?_) (fun q => ok_ck (by omega) ?_)
      · have q' : cn (ndy lo hi) f k ≠ 0 := fun h => q (by rw [if_pos h])
        rw [if_neg (by omega)] at ih
        exact ih
      · have q' : cn (ndy lo hi) f k = 0 := Classical.byContradiction (fun h => q (by rw [if_neg h]; decide))
        rw [n643, flo_in (by omega), ← hv2]
        rw [q', ← hv2] at ih
        refine ok_if (fun q2 => ok_ck (inR_of (by omega)) ?_) (fun q2 => ok_ck (inR_of (by omega)) ?_)
        · rw [if_pos q2, if_pos rfl] at ih
          exact ih
        · rw [if_neg q2, if_neg (by decide)] at ih
          exact ih
    refine ok_eq (k6_lo hV _ _ _ _ _ (f + k) hkc) ?_
    try simp only [n634, n635, n636, n643, n644, n6I, n6F, u634, u635, u636, u643, u644, n633, n604, n605, n606, n631, n621, n628, n607, n608, n622, n623, n626, n627, n638, nnat, i12, i2, ion]
    refine ok_if (fun q1 => ?_) (fun q1 => ?_)
    · have := fin 0 (Or.inl rfl) (by unfold ndy; rw [if_pos (Or.inl q1)])
      try simp only [n634, n635, n636, n643, n644, n6I, n6F, u634, u635, u636, u643, u644, n633, n604, n605, n606, n631, n621, n628, n607, n608, n622, n623, n626, n627, n638, nnat, i12, i2, ion] at this
      exact this
    · refine ok_eq (k6_hi hV _ _ _ _ _ (f + k) hkc) ?_
      try simp only [n634, n635, n636, n643, n644, n6I, n6F, u634, u635, u636, u643, u644, n633, n604, n605, n606, n631, n621, n628, n607, n608, n622, n623, n626, n627, n638, nnat, i12, i2, ion]
      refine ok_if (fun q2 => ?_) (fun q2 => ?_)
      · have := fin 0 (Or.inl rfl) (by unfold ndy; rw [if_pos (Or.inr q2)])
        try simp only [n634, n635, n636, n643, n644, n6I, n6F, u634, u635, u636, u643, u644, n633, n604, n605, n606, n631, n621, n628, n607, n608, n622, n623, n626, n627, n638, nnat, i12, i2, ion] at this
        exact this
      · have := fin 1 (Or.inr rfl) (by unfold ndy; rw [if_neg (by omega)])
        try simp only [n634, n635, n636, n643, n644, n6I, n6F, u634, u635, u636, u643, u644, n633, n604, n605, n606, n631, n621, n628, n607, n608, n622, n623, n626, n627, n638, nnat, i12, i2, ion] at this
        exact this
  · rw [f_X6_needy_13]
    try simp only [n634, n635, n636, n643, n644, n6I, n6F, u634, u635, u636, u643, u644, n633, n604, n605, n606, n631, n621, n628, n607, n608, n622, n623, n626, n627, n638, nnat, i12, i2, ion]
    rw [j2, h2]
    refine ok_ck (inR_of (by omega)) (ok_ck (inR_of (by omega)) (ok_ck (by omega) (ok_ck (inR_of (by omega)) (ok_pos (Int.le_refl _) ?_))))
    by_cases hz : cn (ndy lo hi) f w = 0
    · rw [if_pos hz]
      have e1 : sprd (le j) g b (ndy lo hi) f w = b := by unfold sprd; rw [if_pos hz]
      have := last (flo f w (ndy lo hi) ch)
      rw [e1] at this ⊢
      exact ok_pos rfl this
    · rw [if_neg hz]
      refine ok_neg (by decide) (ok_ck (inR_of (by omega)) (ok_ck (inR_of (by omega)) (ok_ck (by omega) ?_)))
      rw [j3]
      refine ok_eq (k6_spread0 (m := m) hV j f w b l e _ d (ndy lo hi) (le j) hj h1 h2 (by omega) hm hm2 j10 j9 (fun t q1 q2 => hb t (by omega)) (fun t q1 q2 => flo_in ⟨q1, q2⟩) hz) ?_
      exact last _
end
