/-! ===== SIZING: the reference, growth and shares (written by wip/whole/gen_mod7.py) ===== -/
theorem cg_zero {b l : Nat → UInt32} : ∀ {c : Nat}, cg b l c = 0 → ∀ t, t < c → ¬ fk (b t) < fk (l t)
  | 0, _, t, ht => by omega
  | c + 1, h, t, ht => by
    have h' : cg b l c + (if fk (b c) < fk (l c) then 1 else 0) = 0 := h
    by_cases htc : t = c
    · intro hx
      rw [htc] at hx
      rw [if_pos hx] at h'
      omega
    · exact cg_zero (c := c) (by omega) t (by omega)
section
variable {s : pS} {a c n : Nat} {lo hi ln sp : Nat → Int} {lnu hn le mo : Nat → UInt32} {spc g : UInt32} {how : Int}
theorem k6_34 {m : Nat} (hV : mv s a c n lo hi ln sp lnu hn le mo spc g how) (b l : Nat → UInt32) (e ch d : Nat → Int) (x2 : UInt32) (x4 : Int) (K : Int → UInt32 → Int → Int → pS → Option pS) (P : pS → Prop) (hm : m ≤ 127) (hb : ∀ t, t < c → fb m (b t)) (hl : ∀ t, t < c → fb m (l t)) (hK : ok (K a x2 x4 (cg b l c) (mk6 s a b l e ch d)) P) :
    ok (f_X6_fill_34 K 400 a x2 x4 0 0 (mk6 s a b l e ch d)) P := by
  have hV' := hV
  obtain ⟨ha, hc, hc2, hn', hn2, hT, hJ, hsp, hgg, hho, hsn, hsf, hgn, hgf⟩ := hV'
  refine itS (fun r k => f_X6_fill_34 K r a x2 x4 (cg b l k) (k : Int) (mk6 s a b l e ch d)) c P (fun r k hk ih => ?_) (fun r => ?_) 400 0 (by omega) (by omega)
  · have hk12 : k < 12 := by omega
    have hcl := cg_le b l k
    rw [f_X6_fill_34]
    unfold f_X6_fill_66
    try simp only [n634, n635, n636, n643, n644, n6I, n6F, u634, u635, u636, u643, u644, n633, n604, n605, n606, n631, n621, n628, n607, n608, n622, n623, n626, n627, n638, nnat, i12, i2, ion]
    refine ok_ck (by omega) (ok_neg (by omega) (ok_ck (inR_of (by omega)) (ok_ck (inR_of (by omega)) (ok_eq (k6_grows (m := m) s a k b l e ch d ha hk12 hm (hb k hk) (hl k hk)) ?_))))
    dsimp only
    rw [cg] at ih
    by_cases q : fk (b k) < fk (l k)
    · rw [if_pos q] at ih
      rw [if_pos q]
      exact ok_neg (by decide) (ok_ck (inR_of (by omega)) (ok_bs (ok_ck (inR_of (by omega)) ih)))
    · rw [if_neg q] at ih
      rw [if_neg q]
      exact ok_pos rfl (ok_ck (inR_of (by omega)) (ok_bs (ok_ck (inR_of (by omega)) ih)))
  · rw [f_X6_fill_34]
    try simp only [n634, n635, n636, n643, n644, n6I, n6F, u634, u635, u636, u643, u644, n633, n604, n605, n606, n631, n621, n628, n607, n608, n622, n623, n626, n627, n638, nnat, i12, i2, ion]
    exact ok_ck (by omega) (ok_pos (by omega) hK)
theorem k6_104 {m : Nat} (hV : mv s a c n lo hi ln sp lnu hn le mo spc g how) (b l : Nat → UInt32) (e ch d : Nat → Int) (x y : UInt32) (x3 x4 : Int) (K : Int → UInt32 → Int → Int → pS → Option pS) (P : pS → Prop) (hm : m ≤ 110) (hm2 : 14 ≤ m) (hb : ∀ t, t < c → fb m (b t)) (hl : ∀ t, t < c → fb m (l t)) (hx : fb 14 x) (hy : fb 14 y) (hyn : nn y) (hK : ok (K a (gx b l y x c) x3 x4 (mk6 s a (flo 0 c (gB b l y) b) l e ch d)) P) :
    ok (f_X6_fill_104 K 400 a x x3 x4 y 0 (mk6 s a b l e ch d)) P := by
  have hV' := hV
  obtain ⟨ha, hc, hc2, hn', hn2, hT, hJ, hsp, hgg, hho, hsn, hsf, hgn, hgf⟩ := hV'
  have h := itS (fun r k => f_X6_fill_104 K r a (gx b l y x k) x3 x4 y (k : Int) (mk6 s a (flo 0 k (gB b l y) b) l e ch d)) c P (fun r k hk ih => ?_) (fun r => ?_) 400 0 (by omega) (by omega)
  · rw [flo_0] at h
    exact h
  · have hk12 : k < 12 := by omega
    have hbk := hb k hk
    have hlk := hl k hk
    have hxk := gx_q (k := k) hb hl hm hx hy hyn (by omega) (by omega)
    rw [f_X6_fill_104]
    unfold f_X6_fill_163 f_X6_fill_178 f_X6_fill_211 f_X6_fill_212
    try simp only [n634, n635, n636, n643, n644, n6I, n6F, u634, u635, u636, u643, u644, n633, n604, n605, n606, n631, n621, n628, n607, n608, n622, n623, n626, n627, n638, nnat, i12, i2, ion]
    refine ok_ck (by omega) (ok_neg (by omega) (ok_ck (inR_of (by omega)) (ok_ck (inR_of (by omega)) (ok_bs (ok_eq (k6_grows (m := m) s a k _ l e ch d ha hk12 (by omega) (by rw [flo_at0]; exact hbk) hlk) ?_)))))
    rw [flo_at0]
    try simp only [n634, n635, n636, n643, n644, n6I, n6F, u634, u635, u636, u643, u644, n633, n604, n605, n606, n631, n621, n628, n607, n608, n622, n623, n626, n627, n638, nnat, i12, i2, ion]
    rw [gx] at ih
    by_cases q : fk (b k) < fk (l k)
    · have hr := fb_sub hlk hbk (by omega)
      have hg := gets_q hbk hlk hm q hy hyn
      rw [if_pos q] at ih
      rw [if_pos q]
      refine ok_neg (by decide) ?_
      rw [pt_at hk12, pt_at hk12, flo_at0]
      have q2 := (fc_lt (fb_nan hy (by omega)) (fb_nan hr (by omega)) .g).1
      refine ok_ck (by omega) (ok_ck (by omega) (ok_ck (fb_n32 hr (by omega)) (ok_bs (ok_if (fun r1 => ?_) (fun r1 => ?_)))))
      · have g3 := q2.mp r1
        have e1 : mn (FP.fsub (l k) (b k)) y = y := if_pos g3
        rw [e1] at ih hg
        refine ok_pos (by simp) (ok_ck (fb_n32 (fb_sub hxk.1 (fb_le hg.1 (by omega)) (by omega)) (by omega)) (ok_bs (ok_pos (by simp) (ok_ck (by omega) (ok_ck (fb_n32 (fb_add hbk (fb_le hy (by omega)) (by omega)) (by omega)) (ok_ck (by omega) (ok_bs ?_)))))))
        rw [pt_up hk12, u634, flo_up0 (by unfold gB; rw [if_pos q, if_pos g3])]
        exact ok_ck (inR_of (by omega)) ih
      · have g3 : ¬ fk y < fk (FP.fsub (l k) (b k)) := fun h => r1 (q2.mpr h)
        have e1 : mn (FP.fsub (l k) (b k)) y = FP.fsub (l k) (b k) := if_neg g3
        rw [e1] at ih hg
        refine ok_neg (by simp) (ok_ck (fb_n32 (fb_sub hxk.1 (fb_le hg.1 (by omega)) (by omega)) (by omega)) (ok_bs (ok_neg (by simp) (ok_ck (by omega) (ok_ck (by omega) (ok_bs ?_))))))
        rw [pt_up hk12, u634, flo_up0 (by unfold gB; rw [if_pos q, if_neg g3])]
        exact ok_ck (inR_of (by omega)) ih
    · rw [if_neg q] at ih
      rw [if_neg q]
      rw [flo_skip0 (by unfold gB; rw [if_neg q])] at ih
      exact ok_pos rfl (ok_ck (inR_of (by omega)) ih)
  · rw [f_X6_fill_104]
    try simp only [n634, n635, n636, n643, n644, n6I, n6F, u634, u635, u636, u643, u644, n633, n604, n605, n606, n631, n621, n628, n607, n608, n622, n623, n626, n627, n638, nnat, i12, i2, ion]
    exact ok_ck (by omega) (ok_pos (by omega) hK)
theorem k6_fillTo (hV : mv s a c n lo hi ln sp lnu hn le mo spc g how) (l : Nat → UInt32) (e ch d : Nat → Int) (hl : ∀ t, t < c → fb 74 (l t) ∧ nn (l t)) : ∀ (r n : Nat) (b : Nat → UInt32) (x : UInt32), r + 1 < n → r ≤ 16 → (∀ t, t < c → fb (90 - r) (b t) ∧ nn (b t)) → fb 120 x → (0 < fk x → fb 12 x) → ok (f_X6_fill_11 (fun s2 => f_X6_fill_224 s2) n a x 1 (16 - (r : Int)) (mk6 s a b l e ch d)) (fun u => u = mk6 s a (grw l c r b x) l e ch d ∧ ∀ t, t < c → fb 90 (grw l c r b x t) ∧ nn (grw l c r b x t))
  | 0, n, b, x, h1, h2, hb, hx, hx2 => by
    obtain ⟨n, rfl⟩ : ∃ k, n = k + 1 := ⟨n - 1, by omega⟩
    rw [f_X6_fill_11]
    exact ok_pos (by omega) (ok_some ⟨rfl, hb⟩)
  | r + 1, n, b, x, h1, h2, hb, hx, hx2 => by
    obtain ⟨n, rfl⟩ : ∃ k, n = k + 1 := ⟨n - 1, by omega⟩
    have hc2 := hV.2.2.1
    have hb' : ∀ t, t < c → fb 90 (b t) ∧ nn (b t) := fun t ht => ⟨fb_le (hb t ht).1 (by omega), (hb t ht).2⟩
    have q := (fc0 .l hx (by omega)).1
    have hcl := cg_le b l c
    rw [f_X6_fill_11, grw]
    refine ok_neg (by omega) (ok_neg (by decide) (ok_if (fun g => ?_) (fun g => ?_)))
    · rw [if_pos (q.mp g)]
      exact ok_some ⟨rfl, hb'⟩
    · have g1 : 0 < fk x := Int.not_le.mp (fun hx => g (q.mpr hx))
      have hxx := hx2 g1
      have hxn := fk_pos_nn g1
      rw [if_neg (fun hx => g (q.mpr hx))]
      refine k6_34 (m := 90) hV b l e ch d x _ _ _ (by omega) (fun t ht => (hb' t ht).1) (fun t ht => fb_le (hl t ht).1 (by omega)) ?_
      unfold f_X6_fill_85 f_X6_fill_99
      refine ok_if (fun g2 => ?_) (fun g2 => ?_)
      · have hz : cg b l c = 0 := by omega
        rw [if_pos hz]
        refine ok_pos rfl ?_
        refine k6_104 (m := 90 - (r + 1)) hV b l e ch d x FP.fconst0 0 _ _ _ (by omega) (by omega) (fun t ht => (hb t ht).1) (fun t ht => fb_le (hl t ht).1 (by omega)) (fb_le hxx (by omega)) (fb0 _) nn0 ?_
        refine ok_ck (inR_of (by omega)) ?_
        have e1 : flo 0 c (gB b l FP.fconst0) b = b := by
          funext t
          unfold flo
          split
          · rename_i ht
            unfold gB
            rw [if_neg (cg_zero hz t (by omega))]
          · rfl
        rw [e1]
        obtain ⟨n, rfl⟩ : ∃ k, n = k + 1 := ⟨n - 1, by omega⟩
        rw [f_X6_fill_11]
        exact ok_if (fun _ => ok_some ⟨rfl, hb'⟩) (fun _ => ok_pos rfl (ok_some ⟨rfl, hb'⟩))
      · have p1 := part_fb (n := cg b l c) hxx (by omega) (by omega) (by omega)
        have p2 := part_nn (n := cg b l c) hxx hxn (by omega) (by omega) (by omega)
        rw [if_neg (show ¬ cg b l c = 0 by omega)]
        refine ok_neg (by decide) (ok_ck (fb_n32 p1 (by omega)) ?_)
        refine k6_104 (m := 90 - (r + 1)) hV b l e ch d x _ 1 _ _ _ (by omega) (by omega) (fun t ht => (hb t ht).1) (fun t ht => fb_le (hl t ht).1 (by omega)) (fb_le hxx (by omega)) p1 p2 ?_
        have hgx := gx_q (k := c) (fun t ht => (hb t ht).1) (fun t ht => fb_le (hl t ht).1 (show 74 ≤ 90 - (r + 1) by omega)) (by omega) (fb_le hxx (by omega)) p1 p2 (Nat.le_refl _) hc2
        have h := k6_fillTo hV l e ch d hl r n (flo 0 c (gB b l (FP.fdiv x (FP.i2f (Int32.ofInt (cg b l c : Int))))) b) (gx b l (FP.fdiv x (FP.i2f (Int32.ofInt (cg b l c : Int)))) x c) (by omega) (by omega) (fun t ht => by
          rw [flo_in (by omega)]
          have := gB_q (m := 90 - (r + 1)) (hb t ht) ⟨fb_le (hl t ht).1 (by omega), (hl t ht).2⟩ (by omega) (by omega) p1 p2
          exact ⟨fb_le this.1 (by omega), this.2⟩) (fb_le hgx.1 (by omega)) (fun h0 => (pos_fb hxx hxn h0 hgx.2).1)
        refine ok_ck (inR_of (by omega)) ?_
        rw [show (16 : Int) - ((r + 1 : Nat) : Int) + 1 = 16 - (r : Int) by omega]
        exact h
theorem k6_fill (hV : mv s a c n lo hi ln sp lnu hn le mo spc g how) (b l : Nat → UInt32) (e ch d : Nat → Int) (hb : ∀ t, t < c → fb 74 (b t) ∧ nn (b t)) (hl : ∀ t, t < c → fb 74 (l t) ∧ nn (l t)) :
    ok (f_X6_fill a (mk6 s a b l e ch d)) (fun u => u = mk6 s a (grw l c 16 b (rst spc b g c)) l e ch d ∧ ∀ t, t < c → fb 90 (grw l c 16 b (rst spc b g c) t) ∧ nn (grw l c 16 b (rst spc b g c) t)) := by
  have hV' := hV
  obtain ⟨ha, hc, hc2, hn', hn2, hT, hJ, hsp, hgg, hho, hsn, hsf, hgn, hgf⟩ := hV'
  unfold f_X6_fill
  refine ok_eq (k6_left (m := 74) hV b l e ch d (fun t ht => (hb t ht).1) (by omega) (by omega)) ?_
  have h2 := rst_fb (m := 74) (c := c) (b := b) (fb_le hsf (by omega)) (fb_le hgf (by omega)) (fun t h => (hb t h).1) hc2 (by omega)
  have h3 := rst_le (m := 74) (c := c) (b := b) (fb_le hsf (by omega)) ⟨fb_le hgf (by omega), hgn⟩ hb hc2 (by omega)
  exact k6_fillTo hV l e ch d hl 16 400 b (rst spc b g c) (by omega) (by omega) hb (fb_le h2 (by omega)) (fun h0 => (pos_fb hsf hsn h0 h3).1)
/-! shares -/
def chd (hi d : Nat → Int) : Nat → Int := fun t => if hi t = 4 ∧ d t = 0 then 1 else 0
theorem k6_together (hV : mv s a c n lo hi ln sp lnu hn le mo spc g how) (b l : Nat → UInt32) (e ch d : Nat → Int) :
    f_X6_together a (mk6 s a b l e ch d) = some (mx (ssm (chd hi d) hn c) FP.fconst1, mk6 s a b l e ch d) := by
  have hV' := hV
  obtain ⟨ha, hc, hc2, hn', hn2, hT, hJ, hsp, hgg, hho, hsn, hsf, hgn, hgf⟩ := hV'
  have hh : ∀ t, t < c → fb 14 (hn t) ∧ nn (hn t) := fun t ht => ⟨(hT t ht).2.2.2.2.2.2.2.2.2.2, (hT t ht).2.2.2.2.2.2.2.2.2.1⟩
  refine of_ok ?_
  unfold f_X6_together
  refine itS (fun r k => f_X6_together_4 (fun x2 s1 => (if 0 ≤ (pm_fc .g x2 FP.fconst1) then f_X6_together_64 x2 s1 else f_X6_together_64 FP.fconst1 s1)) r a (ssm (chd hi d) hn k) (k : Int) (mk6 s a b l e ch d)) c _ (fun r k hk ih => ?_) (fun r => ?_) 400 0 (by omega) (by omega)
  · have hk12 : k < 12 := by omega
    have hk2 := ssm_q hh (ch := chd hi d) (k := k) (by omega) (by omega)
    obtain ⟨t1, t2, t3, t4, t5, t6, t7, t8, t9, t10, t11⟩ := hT k hk
    rw [f_X6_together_4]
    unfold f_X6_together_47
    try simp only [n634, n635, n636, n643, n644, n6I, n6F, u634, u635, u636, u643, u644, n633, n604, n605, n606, n631, n621, n628, n607, n608, n622, n623, n626, n627, n638, nnat, i12, i2, ion]
    rw [ssm] at ih
    refine ok_ck (by omega) (ok_neg (by omega) (ok_eq (k6_hi hV _ _ _ _ _ k hk) ?_))
    try simp only [n634, n635, n636, n643, n644, n6I, n6F, u634, u635, u636, u643, u644, n633, n604, n605, n606, n631, n621, n628, n607, n608, n622, n623, n626, n627, n638, nnat, i12, i2, ion]
    refine ok_if (fun q => ok_ck (inR_of (by omega)) ?_) (fun q => ok_ck (by omega) (ok_if (fun q2 => ok_ck (inR_of (by omega)) ?_) (fun q2 => ?_)))
    · rw [if_pos (by unfold chd; rw [if_neg (fun h => q h.1)])] at ih
      exact ih
    · rw [if_pos (by unfold chd; rw [if_neg (fun h => q2 h.2)])] at ih
      exact ih
    · have q' : hi k = 4 := Classical.not_not.mp q
      rw [t5 (by omega)]
      rw [if_neg (by unfold chd; rw [if_pos ⟨q', Classical.not_not.mp q2⟩]; decide)] at ih
      exact ok_ck (inR_of (by omega)) (ok_ck (inR_of (by omega)) (ok_ck (by omega) (ok_ck (fb_n32 (fb_add hk2.1 (fb_le t11 (by omega)) (by omega)) (by omega)) (ok_bs (ok_ck (inR_of (by omega)) ih)))))
  · rw [f_X6_together_4]
    unfold f_X6_together_64
    try simp only [n634, n635, n636, n643, n644, n6I, n6F, u634, u635, u636, u643, u644, n633, n604, n605, n606, n631, n621, n628, n607, n608, n622, n623, n626, n627, n638, nnat, i12, i2, ion]
    have hk2 := ssm_q hh (ch := chd hi d) (k := c) (by omega) hc2
    have q := (fc_lt (fb_nan hk2.1 (by omega)) (fb_nan fb1.1 (by omega)) .g).2.2.1
    unfold mx
    refine ok_ck (by omega) (ok_pos (by omega) (ok_if (fun r1 => ok_some ?_) (fun r1 => ok_some ?_)))
    · rw [if_neg (show ¬ fk (ssm (chd hi d) hn c) < fk FP.fconst1 by have := q.mp r1; omega)]
    · rw [if_pos (Int.not_le.mp (fun h => r1 (q.mpr h)))]
/-- one share, as the reference works it out -/
theorem k6_one {m : Nat} (hV : mv s a c n lo hi ln sp lnu hn le mo spc g how) (b l : Nat → UInt32) (e ch d : Nat → Int) (x : UInt32) (K : UInt32 → pS → Option pS) (P : pS → Prop) (hm : m ≤ 127) (hx : fb m x) (hx2 : 0 < fk x → fb 12 x) (hK : ok (K (one (chd hi d) hn c x) (mk6 s a b l e ch d)) P) :
    ok (if (pm_fc .l x FP.fconst0) ≤ 0 then K FP.fconst0 (mk6 s a b l e ch d) else (f_X6_together a (mk6 s a b l e ch d)).bind (fun q3 => ck (vf_n32 (FP.fdiv x q3.1)) (K (FP.fdiv x q3.1) q3.2))) P := by
  have hV' := hV
  obtain ⟨ha, hc, hc2, hn', hn2, hT, hJ, hsp, hgg, hho, hsn, hsf, hgn, hgf⟩ := hV'
  have hh : ∀ t, t < c → fb 14 (hn t) ∧ nn (hn t) := fun t ht => ⟨(hT t ht).2.2.2.2.2.2.2.2.2.2, (hT t ht).2.2.2.2.2.2.2.2.2.1⟩
  have q := (fc0 .l hx hm).1
  unfold one at hK
  refine ok_if (fun r1 => ?_) (fun r1 => ?_)
  · rw [if_pos (q.mp r1)] at hK
    exact hK
  · have r2 : ¬ fk x ≤ 0 := fun h => r1 (q.mpr h)
    rw [if_neg r2] at hK
    obtain ⟨q1, q2, q3, q4⟩ := mx1_q (ch := chd hi d) hc2 hh
    exact ok_eq (k6_together hV b l e ch d) (ok_ck (fb_n32 (fb_div (hx2 (Int.not_le.mp r2)) q1 q2 (by omega)) (by omega)) hK)
end
