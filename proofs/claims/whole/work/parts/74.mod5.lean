/-! ===== SIZING: the reference, limits, all items (written by wip/whole/gen_mod5.py) ===== -/
section
variable {s : pS} {a c n : Nat} {lo hi ln sp : Nat → Int} {lnu hn le mo : Nat → UInt32} {spc g : UInt32} {how : Int}
theorem k6_growing {m : Nat} (hV : mv s a c n lo hi ln sp lnu hn le mo spc g how) (j f w : Nat) (M b l : Nat → UInt32) (e ch d : Nat → Int) (hj : j < n) (h1 : ln j = (f : Int) + 1) (h2 : sp j = (w : Int)) (hfw : f + w ≤ c) (hm : m ≤ 90) (hm2 : 14 ≤ m) (hM : ∀ t, t < c → fb m (M t) ∧ nn (M t)) (hR : ∀ t, t < c → (if e t = 0 then l t else b t) = M t) :
    ok (f_X6_growing a j (mk6 s a b l e ch d)) (fun u => ∃ l' e' ch', u = mk6 s a b l' e' ch' d ∧ ∀ t, t < c → (if e' t = 0 then l' t else b t) = sprd (mo j) g M (wid hi) f w t) := by
  have hV' := hV
  obtain ⟨ha, hc, hc2, hn', hn2, hT, hJ, hsp, hgg, hho, hsn, hsf, hgn, hgf⟩ := hV'
  obtain ⟨j1, j2, j3, j4, j5, j6, j7, j8, j9, j10, j11, j12⟩ := hJ j hj
  unfold f_X6_growing
  refine ok_eq (k6_firstOf hV j f b l e ch d hj h1 (by omega)) ?_
  have h := itS (fun r k => f_X6_growing_13 (fun x1 x2 x4 s2 => (if x4 = 0 then f_X6_growing_170 s2 else ck (inR (2 * x2)) (ck (inR ((2 * x2) + x1)) (ck (0 ≤ ((2 * x2) + x1) ∧ ((2 * x2) + x1) < 20) ((f_X6_spread x1 x2 (sB s2 623 0 ((2 * x2) + x1).toNat) 1 s2).bind (fun q6 => f_X6_growing_170 q6)))))) r a j f (if cn (wid hi) f k = 0 then 0 else 1) ((f : Int) + (k : Int)) (mk6 s a b (flo f k (fun t => if wid hi t ≠ 0 ∧ e t ≠ 0 then b t else l t) l) (flo f k (fun t => if wid hi t = 0 then e t else 0) e) (flo f k (wid hi) ch) d)) w (fun u => ∃ l' e' ch', u = mk6 s a b l' e' ch' d ∧ ∀ t, t < c → (if e' t = 0 then l' t else b t) = sprd (mo j) g M (wid hi) f w t) (fun r k hk ih => ?_) (fun r => ?_) 400 0 (by omega) (by omega)
  · rw [show ((f : Int) + ((0 : Nat) : Int)) = (f : Int) by omega, flo_0, flo_0, flo_0] at h
    exact h
  · have hk12 : f + k < 12 := by omega
    have hkc : f + k < c := by omega
    rw [f_X6_growing_13]
    try simp only [n634, n635, n636, n643, n644, n6I, n6F, u634, u635, u636, u643, u644, n633, n604, n605, n606, n631, n621, n628, n607, n608, n622, n623, n626, n627, n638, nnat, i12, i2, ion]
    rw [j2, h2]
    refine ok_ck (inR_of (by omega)) (ok_ck (inR_of (by omega)) (ok_ck (by omega) (ok_ck (inR_of (by omega)) (ok_neg (by omega) ?_))))
    rw [show (f : Int) + (k : Int) = ((f + k : Nat) : Int) by omega]
    refine ok_eq (k6_hi hV _ _ _ _ _ (f + k) hkc) ?_
    dsimp only
    refine ok_ck (inR_of (by omega)) (ok_ck (inR_of (by omega)) (ok_bs ?_))
    -- not chosen
    have c0 : wid hi (f + k) = 0 → ok (f_X6_growing_77 (f_X6_growing_13 (fun x1 x2 x4 s2 => (if x4 = 0 then f_X6_growing_170 s2 else ck (inR (2 * x2)) (ck (inR ((2 * x2) + x1)) (ck (0 ≤ ((2 * x2) + x1) ∧ ((2 * x2) + x1) < 20) ((f_X6_spread x1 x2 (sB s2 623 0 ((2 * x2) + x1).toNat) 1 s2).bind (fun q6 => f_X6_growing_170 q6)))))) r) (fun x1 x2 x4 s2 => (if x4 = 0 then f_X6_growing_170 s2 else ck (inR (2 * x2)) (ck (inR ((2 * x2) + x1)) (ck (0 ≤ ((2 * x2) + x1) ∧ ((2 * x2) + x1) < 20) ((f_X6_spread x1 x2 (sB s2 623 0 ((2 * x2) + x1).toNat) 1 s2).bind (fun q6 => f_X6_growing_170 q6)))))) a j f (if cn (wid hi) f k = 0 then 0 else 1) ((f + k : Nat) : Int) (12 * (a : Int) + ((f + k : Nat) : Int)) ((f + k : Nat) : Int) 0 (mk6 s a b (flo f k (fun t => if wid hi t ≠ 0 ∧ e t ≠ 0 then b t else l t) l) (flo f k (fun t => if wid hi t = 0 then e t else 0) e) (flo f k (wid hi) ch) d)) (fun u => ∃ l' e' ch', u = mk6 s a b l' e' ch' d ∧ ∀ t, t < c → (if e' t = 0 then l' t else b t) = sprd (mo j) g M (wid hi) f w t) := by
      intro hp
      unfold f_X6_growing_77 f_X6_growing_93 f_X6_growing_98 f_X6_growing_142
      try simp only [n634, n635, n636, n643, n644, n6I, n6F, u634, u635, u636, u643, u644, n633, n604, n605, n606, n631, n621, n628, n607, n608, n622, n623, n626, n627, n638, nnat, i12, i2, ion]
      refine ok_ck (by omega) (ok_ck (by simp) (ok_bs ?_))
      try simp only [n634, n635, n636, n643, n644, n6I, n6F, u634, u635, u636, u643, u644, n633, n604, n605, n606, n631, n621, n628, n607, n608, n622, n623, n626, n627, n638, nnat, i12, i2, ion]
      rw [flo_up hp.symm]
      have e0 : flo f (k + 1) (wid hi) ch (f + k) = 0 := by rw [flo_in (by omega), hp]
      rw [cn, if_pos hp, flo_skip (new := fun t => if wid hi t ≠ 0 ∧ e t ≠ 0 then b t else l t) (by show (if wid hi (f + k) ≠ 0 ∧ e (f + k) ≠ 0 then b (f + k) else l (f + k)) = _; rw [if_neg (fun h => h.1 hp)]), flo_skip (new := fun t => if wid hi t = 0 then e t else 0) (by show (if wid hi (f + k) = 0 then e (f + k) else 0) = _; rw [if_pos hp]), Nat.add_zero] at ih
      rw [show ((f + k : Nat) : Int) + 1 = (f : Int) + ((k + 1 : Nat) : Int) by omega]
      refine ok_if (fun q => ok_ck (by omega) (ok_pos e0 (ok_ck (inR_of (by omega)) ?_))) (fun q => ok_ck (by omega) (ok_pos e0 (ok_ck (by omega) (ok_pos e0 (ok_ck (inR_of (by omega)) ?_)))))
      · rw [if_neg (fun h => q (by rw [if_pos h]))] at ih
        exact ih
      · have q' : cn (wid hi) f k = 0 := Classical.byContradiction (fun h => q (by rw [if_neg h]; decide))
        rw [if_pos q'] at ih
        exact ih
    -- chosen
    have c1 : wid hi (f + k) = 1 → ok (f_X6_growing_77 (f_X6_growing_13 (fun x1 x2 x4 s2 => (if x4 = 0 then f_X6_growing_170 s2 else ck (inR (2 * x2)) (ck (inR ((2 * x2) + x1)) (ck (0 ≤ ((2 * x2) + x1) ∧ ((2 * x2) + x1) < 20) ((f_X6_spread x1 x2 (sB s2 623 0 ((2 * x2) + x1).toNat) 1 s2).bind (fun q6 => f_X6_growing_170 q6)))))) r) (fun x1 x2 x4 s2 => (if x4 = 0 then f_X6_growing_170 s2 else ck (inR (2 * x2)) (ck (inR ((2 * x2) + x1)) (ck (0 ≤ ((2 * x2) + x1) ∧ ((2 * x2) + x1) < 20) ((f_X6_spread x1 x2 (sB s2 623 0 ((2 * x2) + x1).toNat) 1 s2).bind (fun q6 => f_X6_growing_170 q6)))))) a j f (if cn (wid hi) f k = 0 then 0 else 1) ((f + k : Nat) : Int) (12 * (a : Int) + ((f + k : Nat) : Int)) ((f + k : Nat) : Int) 1 (mk6 s a b (flo f k (fun t => if wid hi t ≠ 0 ∧ e t ≠ 0 then b t else l t) l) (flo f k (fun t => if wid hi t = 0 then e t else 0) e) (flo f k (wid hi) ch) d)) (fun u => ∃ l' e' ch', u = mk6 s a b l' e' ch' d ∧ ∀ t, t < c → (if e' t = 0 then l' t else b t) = sprd (mo j) g M (wid hi) f w t) := by
      intro hp
      have hp0 : wid hi (f + k) ≠ 0 := by omega
      unfold f_X6_growing_77 f_X6_growing_93
      try simp only [n634, n635, n636, n643, n644, n6I, n6F, u634, u635, u636, u643, u644, n633, n604, n605, n606, n631, n621, n628, n607, n608, n622, n623, n626, n627, n638, nnat, i12, i2, ion]
      refine ok_ck (by omega) (ok_ck (by simp) (ok_bs ?_))
      try simp only [n634, n635, n636, n643, n644, n6I, n6F, u634, u635, u636, u643, u644, n633, n604, n605, n606, n631, n621, n628, n607, n608, n622, n623, n626, n627, n638, nnat, i12, i2, ion]
      rw [flo_up hp.symm]
      have e0 : flo f (k + 1) (wid hi) ch (f + k) ≠ 0 := by rw [flo_in (by omega)]; exact hp0
      have tail : ok (f_X6_growing_98 (f_X6_growing_13 (fun x1 x2 x4 s2 => (if x4 = 0 then f_X6_growing_170 s2 else ck (inR (2 * x2)) (ck (inR ((2 * x2) + x1)) (ck (0 ≤ ((2 * x2) + x1) ∧ ((2 * x2) + x1) < 20) ((f_X6_spread x1 x2 (sB s2 623 0 ((2 * x2) + x1).toNat) 1 s2).bind (fun q6 => f_X6_growing_170 q6)))))) r) (fun x1 x2 x4 s2 => (if x4 = 0 then f_X6_growing_170 s2 else ck (inR (2 * x2)) (ck (inR ((2 * x2) + x1)) (ck (0 ≤ ((2 * x2) + x1) ∧ ((2 * x2) + x1) < 20) ((f_X6_spread x1 x2 (sB s2 623 0 ((2 * x2) + x1).toNat) 1 s2).bind (fun q6 => f_X6_growing_170 q6)))))) a j f ((f + k : Nat) : Int) (12 * (a : Int) + ((f + k : Nat) : Int)) 1 (mk6 s a b (flo f k (fun t => if wid hi t ≠ 0 ∧ e t ≠ 0 then b t else l t) l) (flo f k (fun t => if wid hi t = 0 then e t else 0) e) (flo f (k + 1) (wid hi) ch) d)) (fun u => ∃ l' e' ch', u = mk6 s a b l' e' ch' d ∧ ∀ t, t < c → (if e' t = 0 then l' t else b t) = sprd (mo j) g M (wid hi) f w t) := by
        unfold f_X6_growing_98 f_X6_growing_142
        try simp only [n634, n635, n636, n643, n644, n6I, n6F, u634, u635, u636, u643, u644, n633, n604, n605, n606, n631, n621, n628, n607, n608, n622, n623, n626, n627, n638, nnat, i12, i2, ion]
        rw [pt_at hk12, flo_at]
        rw [cn, if_neg hp0, if_neg (by omega)] at ih
        rw [show ((f + k : Nat) : Int) + 1 = (f : Int) + ((k + 1 : Nat) : Int) by omega]
        refine ok_ck (by omega) (ok_neg e0 (ok_ck (by omega) (ok_if (fun q => ok_ck (inR_of (by omega)) ?_) (fun q => ok_ck (by omega) (ok_bs ?_)))))
        · rw [flo_skip (new := fun t => if wid hi t ≠ 0 ∧ e t ≠ 0 then b t else l t) (by show (if wid hi (f + k) ≠ 0 ∧ e (f + k) ≠ 0 then b (f + k) else l (f + k)) = _; rw [if_neg (fun h => h.2 q)]), flo_skip (new := fun t => if wid hi t = 0 then e t else 0) (by show (if wid hi (f + k) = 0 then e (f + k) else 0) = _; rw [if_neg hp0, q])] at ih
          exact ih
        · rw [pt_up hk12, u636, flo_up (by show (0 : Int) = if wid hi (f + k) = 0 then e (f + k) else 0; rw [if_neg hp0])]
          refine ok_ck (by omega) (ok_ck (by omega) (ok_bs ?_))
          try simp only [n634, n635, n636, n643, n644, n6I, n6F, u634, u635, u636, u643, u644, n633, n604, n605, n606, n631, n621, n628, n607, n608, n622, n623, n626, n627, n638, nnat, i12, i2, ion]
          rw [pt_at hk12, pt_up hk12, u635, flo_up (by show b (f + k) = if wid hi (f + k) ≠ 0 ∧ e (f + k) ≠ 0 then b (f + k) else l (f + k); rw [if_pos ⟨hp0, q⟩])]
          exact ok_ck (inR_of (by omega)) ih
      refine ok_if (fun q => tail) (fun q => ok_ck (by omega) (ok_neg e0 tail))
    refine ok_if (fun q => ?_) (fun q => ok_if (fun q2 => ?_) (fun q2 => ok_if (fun q3 => ?_) (fun q3 => ?_)))
    · exact c1 (by unfold wid; rw [if_pos (Or.inl q)])
    · exact c1 (by unfold wid; rw [if_pos (Or.inr (Or.inl q2))])
    · exact c0 (by unfold wid; rw [if_neg (by omega)])
    · exact c1 (by unfold wid; rw [if_pos (by omega)])
  · rw [f_X6_growing_13]
    unfold f_X6_growing_170
    try simp only [n634, n635, n636, n643, n644, n6I, n6F, u634, u635, u636, u643, u644, n633, n604, n605, n606, n631, n621, n628, n607, n608, n622, n623, n626, n627, n638, nnat, i12, i2, ion]
    rw [j2, h2]
    refine ok_ck (inR_of (by omega)) (ok_ck (inR_of (by omega)) (ok_ck (by omega) (ok_ck (inR_of (by omega)) (ok_pos (Int.le_refl _) ?_))))
    have hRR : ∀ t, t < c → (if flo f w (fun t => if wid hi t = 0 then e t else 0) e t = 0 then flo f w (fun t => if wid hi t ≠ 0 ∧ e t ≠ 0 then b t else l t) l t else b t) = M t := by
      intro t ht
      rw [← hR t ht]
      by_cases r1 : f ≤ t ∧ t < f + w
      · rw [flo_in r1, flo_in r1]
        by_cases r2 : wid hi t = 0
        · rw [if_pos r2, if_neg (show ¬ (wid hi t ≠ 0 ∧ e t ≠ 0) from fun h => h.1 r2)]
        · rw [if_neg r2, if_pos rfl]
          by_cases r3 : e t = 0
          · rw [if_neg (show ¬ (wid hi t ≠ 0 ∧ e t ≠ 0) from fun h => h.2 r3), if_pos r3]
          · rw [if_pos (show wid hi t ≠ 0 ∧ e t ≠ 0 from ⟨r2, r3⟩), if_neg r3]
      · rw [flo_out r1, flo_out r1]
    by_cases hz : cn (wid hi) f w = 0
    · rw [if_pos hz]
      have e1 : sprd (mo j) g M (wid hi) f w = M := by unfold sprd; rw [if_pos hz]
      rw [e1]
      exact ok_pos rfl (ok_some ⟨_, _, _, rfl, hRR⟩)
    · rw [if_neg hz]
      refine ok_neg (by decide) (ok_ck (inR_of (by omega)) (ok_ck (inR_of (by omega)) (ok_ck (by omega) ?_)))
      rw [j4]
      refine ok_seq (k6_spread1 (m := m) hV j f w M b _ _ _ d (wid hi) (mo j) hj h1 h2 (by omega) hm hm2 j12 j11 (fun t q1 q2 => hM t (by omega)) (fun t q1 q2 => (hRR t (by omega)).symm) (fun t q1 q2 => flo_in ⟨q1, q2⟩) (fun t q1 q2 q3 => by rw [flo_in ⟨q1, q2⟩, if_neg q3]) hz) (fun q6 h6 => ok_some ?_)
      obtain ⟨l', rfl, hl'⟩ := h6
      refine ⟨l', _, _, rfl, fun t ht => ?_⟩
      by_cases r : f ≤ t ∧ t < f + w ∧ wid hi t ≠ 0
      · rw [(hl' t).1 r, flo_in ⟨r.1, r.2.1⟩, if_neg r.2.2, if_pos rfl]
      · rw [(hl' t).2 r, hRR t ht, sprd_out (by
          by_cases r1 : f ≤ t ∧ t < f + w
          · exact Or.inr (Classical.byContradiction (fun h => r ⟨r1.1, r1.2, h⟩))
          · exact Or.inl r1)]
end
