/-! ===== SIZING: the reference, shares (written by wip/whole/gen_mod8.py) ===== -/
theorem atg_false {ch : Nat → Int} {hn b : Nat → UInt32} {y : UInt32} : ∀ {c : Nat}, atg ch hn b y c = false → ∀ t, t < c → tg ch hn b y t = false
  | 0, _, t, ht => by omega
  | c + 1, h, t, ht => by
    have h' : (atg ch hn b y c || tg ch hn b y c) = false := h
    rw [Bool.or_eq_false_iff] at h'
    by_cases htc : t = c
    · rw [htc]; exact h'.2
    · exact atg_false h'.1 t (by omega)
theorem sax_none {ch : Nat → Int} {hn b : Nat → UInt32} {x y : UInt32} : ∀ {c : Nat}, (∀ t, t < c → tg ch hn b y t = false) → sax ch hn b y x c = x
  | 0, _ => rfl
  | c + 1, h => by
    show (if tg ch hn b y c then FP.fsub (sax ch hn b y x c) (b c) else sax ch hn b y x c) = x
    rw [if_neg (by rw [h c (by omega)]; decide)]
    exact sax_none (fun t ht => h t (by omega))
section
variable {s : pS} {a c n : Nat} {lo hi ln sp : Nat → Int} {lnu hn le mo : Nat → UInt32} {spc g : UInt32} {how : Int}
theorem k6_157 {m : Nat} (hV : mv s a c n lo hi ln sp lnu hn le mo spc g how) (b l : Nat → UInt32) (e ch d : Nat → Int) (x y : UInt32) (K : Int → UInt32 → UInt32 → Int → pS → Option pS) (P : pS → Prop) (hm : m ≤ 127) (hb : ∀ t, t < c → fb m (b t)) (hy : fb 14 y)
    (hK : ∀ ch', (∀ t, t < c → ch' t = if tg (chd hi d) hn b y t then 1 else 0) → ok (K a x y (if atg (chd hi d) hn b y c then 1 else 0) (mk6 s a b l e ch' d)) P) :
    ok (f_X6_shares_157 K 400 a x y 0 0 (mk6 s a b l e ch d)) P := by
  have hV' := hV
  obtain ⟨ha, hc, hc2, hn', hn2, hT, hJ, hsp, hgg, hho, hsn, hsf, hgn, hgf⟩ := hV'
  have hh : ∀ t, t < c → fb 14 (hn t) ∧ nn (hn t) := fun t ht => ⟨(hT t ht).2.2.2.2.2.2.2.2.2.2, (hT t ht).2.2.2.2.2.2.2.2.2.1⟩
  have h := itS (fun r k => f_X6_shares_157 K r a x y (if atg (chd hi d) hn b y k then 1 else 0) (k : Int) (mk6 s a b l e (flo 0 k (fun t => if tg (chd hi d) hn b y t then 1 else 0) ch) d)) c P (fun r k hk ih => ?_) (fun r => ?_) 400 0 (by omega) (by omega)
  · rw [flo_0] at h
    exact h
  · have hk12 : k < 12 := by omega
    obtain ⟨t1, t2, t3, t4, t5, t6, t7, t8, t9, t10, t11⟩ := hT k hk
    have key : ∀ v : Int, v = (if tg (chd hi d) hn b y k then 1 else 0) → ok (f_X6_shares_231 (f_X6_shares_157 K r) K a x y (if atg (chd hi d) hn b y k then 1 else 0) (k : Int) (k : Int) v (mk6 s a b l e (flo 0 k (fun t => if tg (chd hi d) hn b y t then 1 else 0) ch) d)) P := by
      intro v hv
      unfold f_X6_shares_231 f_X6_shares_247 f_X6_shares_252
      try simp only [n634, n635, n636, n643, n644, n6I, n6F, u634, u635, u636, u643, u644, n633, n604, n605, n606, n631, n621, n628, n607, n608, n622, n623, n626, n627, n638, nnat, i12, i2, ion]
      refine ok_ck (by omega) (ok_ck (by rw [hv]; split <;> simp) (ok_bs ?_))
      try simp only [n634, n635, n636, n643, n644, n6I, n6F, u634, u635, u636, u643, u644, n633, n604, n605, n606, n631, n621, n628, n607, n608, n622, n623, n626, n627, n638, nnat, i12, i2, ion]
      rw [flo_up0 hv]
      have e0 : flo 0 (k + 1) (fun t => if tg (chd hi d) hn b y t then (1 : Int) else 0) ch k = v := by rw [flo_in (by omega), hv]
      rw [atg] at ih
      cases ha : atg (chd hi d) hn b y k with
      | true =>
        rw [ha, Bool.true_or, if_pos rfl] at ih
        exact ok_pos (by simp) (ok_ck (inR_of (by omega)) ih)
      | false =>
        rw [ha, Bool.false_or] at ih
        refine ok_neg (by simp) (ok_ck (by omega) ?_)
        cases ht : tg (chd hi d) hn b y k with
        | true =>
          rw [ht, if_pos rfl] at ih
          exact ok_neg (by rw [e0, hv, ht]; decide) (ok_ck (inR_of (by omega)) ih)
        | false =>
          rw [ht, if_neg (by decide)] at ih
          exact ok_pos (by rw [e0, hv, ht]; decide) (ok_ck (inR_of (by omega)) ih)
    rw [f_X6_shares_157]
    unfold f_X6_shares_230
    try simp only [n634, n635, n636, n643, n644, n6I, n6F, u634, u635, u636, u643, u644, n633, n604, n605, n606, n631, n621, n628, n607, n608, n622, n623, n626, n627, n638, nnat, i12, i2, ion]
    refine ok_ck (by omega) (ok_neg (by omega) (ok_eq (k6_hi hV _ _ _ _ _ k hk) ?_))
    try simp only [n634, n635, n636, n643, n644, n6I, n6F, u634, u635, u636, u643, u644, n633, n604, n605, n606, n631, n621, n628, n607, n608, n622, n623, n626, n627, n638, nnat, i12, i2, ion]
    have n0 : ¬ (hi k = 4 ∧ d k = 0) → tg (chd hi d) hn b y k = false := by
      intro h
      unfold tg chd
      rw [if_neg h, decide_eq_false (by simp)]; rfl
    refine ok_if (fun q => ?_) (fun q => ok_ck (by omega) (ok_if (fun q2 => ?_) (fun q2 => ?_)))
    · exact key 0 (by rw [n0 (fun h => q h.1)]; rfl)
    · exact key 0 (by rw [n0 (fun h => q2 h.2)]; rfl)
    · have q' : hi k = 4 := Classical.not_not.mp q
      have q2' : d k = 0 := Classical.not_not.mp q2
      have hmul := fb_mul t11 hy (by omega)
      have hcc := (fc_lt (fb_nan (hb k hk) hm) (fb_nan hmul (by omega)) .l).2.1
      have e608 := t5 (by omega)
      have etg : tg (chd hi d) hn b y k = decide (fk (FP.fmul (hn k) y) < fk (b k)) := by
        unfold tg chd
        rw [if_pos ⟨q', q2'⟩, decide_eq_true (by decide), Bool.true_and]
      refine ok_ck (inR_of (by omega)) (ok_ck (inR_of (by omega)) (ok_ck (by omega) (ok_ck (inR_of (by omega)) (ok_ck (inR_of (by omega)) (ok_ck (by omega) (ok_ck (by rw [e608]; exact fb_n32 hmul (by omega)) (ok_if (fun r1 => ?_) (fun r1 => ?_))))))))
      · rw [e608, pt_at hk12] at r1
        exact key 0 (by rw [etg, decide_eq_false (by have := hcc.mp r1; omega)]; rfl)
      · rw [e608, pt_at hk12] at r1
        exact key 1 (by rw [etg, decide_eq_true (Int.not_le.mp (fun h => r1 (hcc.mpr h)))]; rfl)
  · rw [f_X6_shares_157]
    try simp only [n634, n635, n636, n643, n644, n6I, n6F, u634, u635, u636, u643, u644, n633, n604, n605, n606, n631, n621, n628, n607, n608, n622, n623, n626, n627, n638, nnat, i12, i2, ion]
    exact ok_ck (by omega) (ok_pos (by omega) (hK _ (fun t ht => flo_in (by omega))))
theorem k6_263 {m : Nat} (hV : mv s a c n lo hi ln sp lnu hn le mo spc g how) (C : Nat → Int) (b l : Nat → UInt32) (e ch d : Nat → Int) (x y : UInt32) (x5 : Int) (K : Int → UInt32 → UInt32 → Int → pS → Option pS) (P : pS → Prop) (hm : m + ntg C hn b y c ≤ 126) (hx : fb m x) (hb : ∀ t, t < c → fb m (b t) ∧ nn (b t)) (hch : ∀ t, t < c → ch t = if tg C hn b y t then 1 else 0)
    (hK : ok (K a (sax C hn b y x c) y x5 (mk6 s a b l e ch (flo 0 c (fun t => if tg C hn b y t then 1 else d t) d))) P) :
    ok (f_X6_shares_263 K 400 a x y x5 0 (mk6 s a b l e ch d)) P := by
  have hV' := hV
  obtain ⟨ha, hc, hc2, hn', hn2, hT, hJ, hsp, hgg, hho, hsn, hsf, hgn, hgf⟩ := hV'
  have hh : ∀ t, t < c → fb 14 (hn t) ∧ nn (hn t) := fun t ht => ⟨(hT t ht).2.2.2.2.2.2.2.2.2.2, (hT t ht).2.2.2.2.2.2.2.2.2.1⟩
  have nm : ∀ k, k ≤ c → ntg C hn b y k ≤ ntg C hn b y c := by
    intro k hk
    have : ∀ j k, ntg C hn b y k ≤ ntg C hn b y (k + j) := by
      intro j
      induction j with
      | zero => intro k; exact Nat.le_refl _
      | succ j ih =>
        intro k
        have := ih k
        have e : ntg C hn b y (k + (j + 1)) = ntg C hn b y (k + j) + (if tg C hn b y (k + j) then 1 else 0) := rfl
        omega
    have := this (c - k) k
    rw [show k + (c - k) = c by omega] at this
    exact this
  have h := itS (fun r k => f_X6_shares_263 K r a (sax C hn b y x k) y x5 (k : Int) (mk6 s a b l e ch (flo 0 k (fun t => if tg C hn b y t then 1 else d t) d))) c P (fun r k hk ih => ?_) (fun r => ?_) 400 0 (by omega) (by omega)
  · rw [flo_0] at h
    exact h
  · have hk12 : k < 12 := by omega
    have n1 := nm k (by omega)
    have n2 := nm (k + 1) (by omega)
    have e1 : ntg C hn b y (k + 1) = ntg C hn b y k + (if tg C hn b y k then 1 else 0) := rfl
    have hsx := sax_q hx hb (ch := C) (hn := hn) (y := y) (k := k) (by omega) (by omega)
    rw [f_X6_shares_263]
    unfold f_X6_shares_307
    try simp only [n634, n635, n636, n643, n644, n6I, n6F, u634, u635, u636, u643, u644, n633, n604, n605, n606, n631, n621, n628, n607, n608, n622, n623, n626, n627, n638, nnat, i12, i2, ion]
    rw [sax] at ih
    refine ok_ck (by omega) (ok_neg (by omega) (ok_ck (by omega) ?_))
    have hck := hch k hk
    cases ht : tg C hn b y k with
    | false =>
      rw [ht, if_neg (by decide)] at hck
      rw [ht, if_neg (by decide), flo_skip0 (by show (if tg C hn b y k then 1 else d k) = d k; rw [ht]; rfl)] at ih
      exact ok_pos hck (ok_ck (inR_of (by omega)) ih)
    | true =>
      rw [ht, if_pos rfl] at hck
      rw [ht, if_pos rfl] at e1
      rw [ht, if_pos rfl] at ih
      refine ok_neg (by rw [hck]; decide) (ok_ck (by omega) (ok_bs ?_))
      try simp only [n634, n635, n636, n643, n644, n6I, n6F, u634, u635, u636, u643, u644, n633, n604, n605, n606, n631, n621, n628, n607, n608, n622, n623, n626, n627, n638, nnat, i12, i2, ion]
      rw [pt_at hk12, flo_up0 (by show (1 : Int) = if tg C hn b y k then 1 else d k; rw [ht]; rfl)]
      exact ok_ck (inR_of (by omega)) (ok_ck (inR_of (by omega)) (ok_ck (by omega) (ok_ck (fb_n32 (fb_sub hsx.1 (fb_le (hb k hk).1 (by omega)) (by omega)) (by omega)) (ok_bs (ok_ck (inR_of (by omega)) ih)))))
  · rw [f_X6_shares_263]
    try simp only [n634, n635, n636, n643, n644, n6I, n6F, u634, u635, u636, u643, u644, n633, n604, n605, n606, n631, n621, n628, n607, n608, n622, n623, n626, n627, n638, nnat, i12, i2, ion]
    exact ok_ck (by omega) (ok_pos (by omega) hK)
theorem chd_step (hi d : Nat → Int) (hn b : Nat → UInt32) (y : UInt32) (c : Nat) : chd hi (flo 0 c (fun t => if tg (chd hi d) hn b y t then 1 else d t) d) = flo 0 c (sac (chd hi d) hn b y) (chd hi d) := by
  funext t
  by_cases ht : t < c
  · rw [flo_in (by omega)]
    unfold sac
    show (if hi t = 4 ∧ flo 0 c (fun t => if tg (chd hi d) hn b y t then 1 else d t) d t = 0 then (1 : Int) else 0) = _
    rw [flo_in (by omega)]
    cases htg : tg (chd hi d) hn b y t with
    | true => rw [if_pos rfl, if_pos rfl, if_neg (fun h => absurd h.2 (by decide))]
    | false => rfl
  · rw [flo_out (by omega)]
    show (if hi t = 4 ∧ flo 0 c (fun t => if tg (chd hi d) hn b y t then 1 else d t) d t = 0 then (1 : Int) else 0) = _
    rw [flo_out (by omega)]
    rfl
theorem k6_146 (hV : mv s a c n lo hi ln sp lnu hn le mo spc g how) (b l : Nat → UInt32) (e : Nat → Int) (K : Int → UInt32 → pS → Option pS) (P : pS → Prop) (R0 : (Nat → Int) × UInt32) (hb : ∀ t, t < c → fb 100 (b t) ∧ nn (b t))
    (hK : ∀ ch' d' x', (chd hi d', x') = R0 → fb 114 x' → fk x' ≤ fk spc → ok (K a (one (chd hi d') hn c x') (mk6 s a b l e ch' d')) P) : ∀ (r n : Nat) (ch d : Nat → Int) (x : UInt32), cn (chd hi d) 0 c ≤ r → r + 1 < n → shl hn b c r (chd hi d) x = R0 → fb (114 - cn (chd hi d) 0 c) x → fk x ≤ fk spc → ok (f_X6_shares_146 K n a x (one (chd hi d) hn c x) 1 (mk6 s a b l e ch d)) P := by
  have hV' := hV
  obtain ⟨ha, hc, hc2, hn', hn2, hT, hJ, hsp, hgg, hho, hsn, hsf, hgn, hgf⟩ := hV'
  have hh : ∀ t, t < c → fb 14 (hn t) ∧ nn (hn t) := fun t ht => ⟨(hT t ht).2.2.2.2.2.2.2.2.2.2, (hT t ht).2.2.2.2.2.2.2.2.2.1⟩
  intro r
  induction r with
  | zero =>
    intro n ch d x h1 h2 h3 hx hx2
    obtain ⟨n, rfl⟩ : ∃ k, n = k + 2 := ⟨n - 2, by omega⟩
    have hx12 : 0 < fk x → fb 12 x := fun h0 => (pos_fb hsf hsn h0 hx2).1
    have ho := one_q (ch := chd hi d) (x := x) hc2 hh hx12
    have hnt := ntg_cn (ch := chd hi d) (hn := hn) (b := b) (y := one (chd hi d) hn c x) c
    have hatg : atg (chd hi d) hn b (one (chd hi d) hn c x) c = false := by
      cases hq : atg (chd hi d) hn b (one (chd hi d) hn c x) c with
      | false => rfl
      | true =>
        have := ntg_pos c hq
        omega
    have htg := atg_false hatg
    rw [f_X6_shares_146]
    refine ok_neg (by decide) (k6_157 (m := 100) hV b l e ch d x _ _ P (by omega) (fun t ht => (hb t ht).1) ho.1 (fun ch' hch' => ?_))
    rw [hatg]
    refine k6_263 (m := 114 - cn (chd hi d) 0 c) hV (chd hi d) b l e ch' d x _ _ _ P (by omega) hx (fun t ht => ⟨fb_le (hb t ht).1 (by omega), (hb t ht).2⟩) hch' ?_
    refine ok_pos rfl ?_
    rw [f_X6_shares_146]
    refine ok_pos rfl ?_
    have e1 : flo 0 c (fun t => if tg (chd hi d) hn b (one (chd hi d) hn c x) t then 1 else d t) d = d := by
      funext t
      unfold flo
      split
      · rename_i ht
        show (if tg (chd hi d) hn b (one (chd hi d) hn c x) t then 1 else d t) = d t
        rw [htg t (by omega)]; rfl
      · rfl
    rw [e1]
    exact hK ch' d x h3 (fb_le hx (by omega)) hx2
  | succ r ih =>
    intro n ch d x h1 h2 h3 hx hx2
    obtain ⟨n, rfl⟩ : ∃ k, n = k + 2 := ⟨n - 2, by omega⟩
    have hx12 : 0 < fk x → fb 12 x := fun h0 => (pos_fb hsf hsn h0 hx2).1
    have ho := one_q (ch := chd hi d) (x := x) hc2 hh hx12
    have hcc := cn_le (chd hi d) 0 c
    have hnt := ntg_cn (ch := chd hi d) (hn := hn) (b := b) (y := one (chd hi d) hn c x) c
    rw [shl] at h3
    rw [f_X6_shares_146]
    refine ok_neg (by decide) (k6_157 (m := 100) hV b l e ch d x _ _ P (by omega) (fun t ht => (hb t ht).1) ho.1 (fun ch' hch' => ?_))
    refine k6_263 (m := 114 - cn (chd hi d) 0 c) hV (chd hi d) b l e ch' d x _ _ _ P (by omega) hx (fun t ht => ⟨fb_le (hb t ht).1 (by omega), (hb t ht).2⟩) hch' ?_
    have hsx := sax_q (m := 114 - cn (chd hi d) 0 c) (c := c) hx (fun t ht => ⟨fb_le (hb t ht).1 (by omega), (hb t ht).2⟩) (ch := chd hi d) (hn := hn) (y := one (chd hi d) hn c x) (k := c) (Nat.le_refl _) (by omega)
    cases hq : atg (chd hi d) hn b (one (chd hi d) hn c x) c with
    | false =>
      rw [hq, if_neg (by decide)] at h3
      have htg := atg_false hq
      refine ok_pos rfl ?_
      rw [f_X6_shares_146]
      refine ok_pos rfl ?_
      have e1 : flo 0 c (fun t => if tg (chd hi d) hn b (one (chd hi d) hn c x) t then 1 else d t) d = d := by
        funext t
        unfold flo
        split
        · rename_i ht
          show (if tg (chd hi d) hn b (one (chd hi d) hn c x) t then 1 else d t) = d t
          rw [htg t (by omega)]; rfl
        · rfl
      rw [e1]
      exact hK ch' d x h3 (fb_le hx (by omega)) hx2
    | true =>
      rw [hq, if_pos rfl] at h3
      have hnp := ntg_pos c hq
      refine ok_neg (by decide) ?_
      unfold f_X6_shares_335
      have hs := chd_step hi d hn b (one (chd hi d) hn c x) c
      have hcn : cn (chd hi (flo 0 c (fun t => if tg (chd hi d) hn b (one (chd hi d) hn c x) t then 1 else d t) d)) 0 c = cn (sac (chd hi d) hn b (one (chd hi d) hn c x)) 0 c := by rw [hs, cn_flo]
      have hx' := Int.le_trans hsx.2 hx2
      have hfx : fb (114 - cn (chd hi (flo 0 c (fun t => if tg (chd hi d) hn b (one (chd hi d) hn c x) t then 1 else d t) d)) 0 c) (sax (chd hi d) hn b (one (chd hi d) hn c x) x c) := fb_le hsx.1 (by omega)
      refine k6_one (m := 114) hV b l e ch' _ _ (fun y s2 => f_X6_shares_146 K (n + 1) a (sax (chd hi d) hn b (one (chd hi d) hn c x) x c) y 1 s2) P (by omega) (fb_le hfx (by omega)) (fun h0 => (pos_fb hsf hsn h0 hx').1) ?_
      refine ih (n + 1) ch' _ _ (by omega) (by omega) ?_ hfx hx'
      rw [hs]
      exact h3
theorem k6_343 (hV : mv s a c n lo hi ln sp lnu hn le mo spc g how) (b l : Nat → UInt32) (e ch d : Nat → Int) (y : UInt32) (hy : fb 14 y) :
    f_X6_shares_343 (fun s2 => some s2) 400 a y 0 (mk6 s a b l e ch d) = some (mk6 s a (flo 0 c (shB hn b (chd hi d) y) b) l e ch d) := by
  have hV' := hV
  obtain ⟨ha, hc, hc2, hn', hn2, hT, hJ, hsp, hgg, hho, hsn, hsf, hgn, hgf⟩ := hV'
  have hh : ∀ t, t < c → fb 14 (hn t) ∧ nn (hn t) := fun t ht => ⟨(hT t ht).2.2.2.2.2.2.2.2.2.2, (hT t ht).2.2.2.2.2.2.2.2.2.1⟩
  refine of_ok ?_
  have h := itS (fun r k => f_X6_shares_343 (fun s2 => some s2) r a y (k : Int) (mk6 s a (flo 0 k (shB hn b (chd hi d) y) b) l e ch d)) c (fun z => z = mk6 s a (flo 0 c (shB hn b (chd hi d) y) b) l e ch d) (fun r k hk ih => ?_) (fun r => ?_) 400 0 (by omega) (by omega)
  · rw [flo_0] at h
    exact h
  · have hk12 : k < 12 := by omega
    obtain ⟨t1, t2, t3, t4, t5, t6, t7, t8, t9, t10, t11⟩ := hT k hk
    rw [f_X6_shares_343]
    unfold f_X6_shares_402
    try simp only [n634, n635, n636, n643, n644, n6I, n6F, u634, u635, u636, u643, u644, n633, n604, n605, n606, n631, n621, n628, n607, n608, n622, n623, n626, n627, n638, nnat, i12, i2, ion]
    refine ok_ck (by omega) (ok_neg (by omega) (ok_eq (k6_hi hV _ _ _ _ _ k hk) ?_))
    try simp only [n634, n635, n636, n643, n644, n6I, n6F, u634, u635, u636, u643, u644, n633, n604, n605, n606, n631, n621, n628, n607, n608, n622, n623, n626, n627, n638, nnat, i12, i2, ion]
    refine ok_if (fun q => ok_ck (inR_of (by omega)) ?_) (fun q => ok_ck (by omega) (ok_if (fun q2 => ok_ck (inR_of (by omega)) ?_) (fun q2 => ?_)))
    · rw [flo_skip0 (by unfold shB chd; rw [if_pos (by rw [if_neg (fun h => q h.1)])])] at ih
      exact ih
    · rw [flo_skip0 (by unfold shB chd; rw [if_pos (by rw [if_neg (fun h => q2 h.2)])])] at ih
      exact ih
    · have q' : hi k = 4 := Classical.not_not.mp q
      rw [t5 (by omega)]
      refine ok_ck (inR_of (by omega)) (ok_ck (inR_of (by omega)) (ok_ck (inR_of (by omega)) (ok_ck (inR_of (by omega)) (ok_ck (by omega) (ok_ck (fb_n32 (fb_mul t11 hy (by omega)) (by omega)) (ok_ck (by omega) (ok_bs ?_)))))))
      rw [pt_up hk12, u634, flo_up0 (by unfold shB chd; rw [if_neg (by rw [if_pos ⟨q', Classical.not_not.mp q2⟩]; decide)])]
      exact ok_ck (inR_of (by omega)) ih
  · rw [f_X6_shares_343]
    try simp only [n634, n635, n636, n643, n644, n6I, n6F, u634, u635, u636, u643, u644, n633, n604, n605, n606, n631, n621, n628, n607, n608, n622, n623, n626, n627, n638, nnat, i12, i2, ion]
    exact ok_ck (by omega) (ok_pos (by omega) (ok_some rfl))
theorem cn_zero {p : Nat → Int} : ∀ {c : Nat}, cn p 0 c = 0 → ∀ t, t < c → p t = 0
  | 0, _, t, ht => by omega
  | c + 1, h, t, ht => by
    have h' : cn p 0 c + (if p (0 + c) = 0 then 0 else 1) = 0 := h
    rw [Nat.zero_add] at h'
    by_cases htc : t = c
    · rw [htc]
      refine Classical.byContradiction (fun hx => ?_)
      rw [if_neg hx] at h'
      omega
    · exact cn_zero (c := c) (by omega) t (by omega)
theorem atg_none {ch : Nat → Int} {hn b : Nat → UInt32} {y : UInt32} : ∀ {c : Nat}, (∀ t, t < c → ch t = 0) → atg ch hn b y c = false
  | 0, _ => rfl
  | c + 1, h => by
    show (atg ch hn b y c || tg ch hn b y c) = false
    rw [atg_none (c := c) (fun t ht => h t (by omega))]
    unfold tg
    rw [h c (by omega)]
    rfl
theorem k6_shares (hV : mv s a c n lo hi ln sp lnu hn le mo spc g how) (b l : Nat → UInt32) (e ch d : Nat → Int) (hb : ∀ t, t < c → fb 90 (b t) ∧ nn (b t)) :
    ok (f_X6_shares a (mk6 s a b l e ch d)) (fun u => ∃ ch' d', u = mk6 s a (shA hi hn b spc g c (chd hi (flo 0 c (fun _ => 0) d))) l e ch' d') := by
  have hV' := hV
  obtain ⟨ha, hc, hc2, hn', hn2, hT, hJ, hsp, hgg, hho, hsn, hsf, hgn, hgf⟩ := hV'
  have hh : ∀ t, t < c → fb 14 (hn t) ∧ nn (hn t) := fun t ht => ⟨(hT t ht).2.2.2.2.2.2.2.2.2.2, (hT t ht).2.2.2.2.2.2.2.2.2.1⟩
  have hb' : ∀ t, t < c → fb 100 (b t) ∧ nn (b t) := fun t h => ⟨fb_le (hb t h).1 (by omega), (hb t h).2⟩
  have s1 := subs_fb (n := c - 1) (b := fun _ => g) hsf (fun _ _ => hgf) (by omega)
  have s2 := subs_le (n := c - 1) (b := fun _ => g) hsf (fun _ _ => ⟨hgf, hgn⟩) (by omega)
  unfold f_X6_shares
  try simp only [n634, n635, n636, n643, n644, n6I, n6F, u634, u635, u636, u643, u644, n633, n604, n605, n606, n631, n621, n628, n607, n608, n622, n623, n626, n627, n638, nnat, i12, i2, ion]
  rw [hsp]
  refine ok_ck (by omega) (ok_bs ?_)
  refine itS (fun r k => f_X6_shares_12 (fun x1 x2 x3 s3 => f_X6_shares_41 (fun x1 x2 x3 s4 => (if x2 ≠ 0 then (if (pm_fc .l x3 FP.fconst0) ≤ 0 then f_X6_shares_141 x1 x3 FP.fconst0 s4 else (f_X6_together x1 s4).bind (fun q5 => ck (vf_n32 (FP.fdiv x3 q5.1)) (f_X6_shares_141 x1 x3 (FP.fdiv x3 q5.1) q5.2))) else some s4)) 400 x1 x2 x3 0 s3) r a 0 (subs spc (fun _ => g) k) ((k : Int) + 1) (mk6 s a b l e ch d)) (c - 1) _ (fun r k hk ih => ?_) (fun r => ?_) 400 0 (by omega) (by omega)
  · rw [f_X6_shares_12]
    try simp only [n634, n635, n636, n643, n644, n6I, n6F, u634, u635, u636, u643, u644, n633, n604, n605, n606, n631, n621, n628, n607, n608, n622, n623, n626, n627, n638, nnat, i12, i2, ion]
    rw [hgg]
    exact ok_ck (by omega) (ok_neg (by omega) (ok_ck (by omega) (ok_ck (fb_n32 (subs_fb (n := k + 1) (b := fun _ => g) hsf (fun _ _ => hgf) (by omega)) (by omega)) (ok_bs (ok_ck (inR_of (by omega)) ih)))))
  · rw [f_X6_shares_12]
    try simp only [n634, n635, n636, n643, n644, n6I, n6F, u634, u635, u636, u643, u644, n633, n604, n605, n606, n631, n621, n628, n607, n608, n622, n623, n626, n627, n638, nnat, i12, i2, ion]
    refine ok_ck (by omega) (ok_pos (by omega) ?_)
    have h := itS (fun r k => f_X6_shares_41 (fun x1 x2 x3 s4 => (if x2 ≠ 0 then (if (pm_fc .l x3 FP.fconst0) ≤ 0 then f_X6_shares_141 x1 x3 FP.fconst0 s4 else (f_X6_together x1 s4).bind (fun q5 => ck (vf_n32 (FP.fdiv x3 q5.1)) (f_X6_shares_141 x1 x3 (FP.fdiv x3 q5.1) q5.2))) else some s4)) r a (if cn (shp hi) 0 k = 0 then 0 else 1) (sfs (subs spc (fun _ => g) (c - 1)) hi b k) (k : Int) (mk6 s a b l e ch (flo 0 k (fun _ => 0) d))) c (fun u => ∃ ch' d', u = mk6 s a (shA hi hn b spc g c (chd hi (flo 0 c (fun _ => 0) d))) l e ch' d') (fun r k hk ih => ?_) (fun r => ?_) 400 0 (by omega) (by omega)
    · rw [flo_0] at h
      exact h
    · have hk12 : k < 12 := by omega
      have hk2 := sfs_q (m := 90) (hi := hi) (k := k) (c := c) (fb_le s1 (by omega)) hb (by omega) (by omega)
      rw [f_X6_shares_41]
      unfold f_X6_shares_76 f_X6_shares_87 f_X6_shares_92 f_X6_shares_113
      try simp only [n634, n635, n636, n643, n644, n6I, n6F, u634, u635, u636, u643, u644, n633, n604, n605, n606, n631, n621, n628, n607, n608, n622, n623, n626, n627, n638, nnat, i12, i2, ion]
      refine ok_ck (by omega) (ok_neg (by omega) (ok_ck (by omega) (ok_bs ?_)))
      try simp only [n634, n635, n636, n643, n644, n6I, n6F, u634, u635, u636, u643, u644, n633, n604, n605, n606, n631, n621, n628, n607, n608, n622, n623, n626, n627, n638, nnat, i12, i2, ion]
      rw [flo_up0 rfl]
      refine ok_eq (k6_hi hV _ _ _ _ _ k hk) ?_
      try simp only [n634, n635, n636, n643, n644, n6I, n6F, u634, u635, u636, u643, u644, n633, n604, n605, n606, n631, n621, n628, n607, n608, n622, n623, n626, n627, n638, nnat, i12, i2, ion]
      rw [cn, sfs, Nat.zero_add] at ih
      refine ok_if (fun q => ?_) (fun q => ?_)
      · rw [if_neg q, if_pos (show shp hi k = 0 from if_neg q), Nat.add_zero] at ih
        rw [pt_at hk12]
        have step : ∀ v : Int, v = (if cn (shp hi) 0 k = 0 then 0 else 1) → ok (ck (inR (12 * (a : Int))) (ck (inR (12 * (a : Int) + (k : Int))) (ck (0 ≤ 12 * (a : Int) + (k : Int) ∧ 12 * (a : Int) + (k : Int) < 24) (ck (vf_n32 (FP.fsub (sfs (subs spc (fun _ => g) (c - 1)) hi b k) (b k))) (bs (FP.fsub (sfs (subs spc (fun _ => g) (c - 1)) hi b k) (b k)) (fun v5 => ck (inR ((k : Int) + 1)) (f_X6_shares_41 (fun x1 x2 x3 s4 => (if x2 ≠ 0 then (if (pm_fc .l x3 FP.fconst0) ≤ 0 then f_X6_shares_141 x1 x3 FP.fconst0 s4 else (f_X6_together x1 s4).bind (fun q5 => ck (vf_n32 (FP.fdiv x3 q5.1)) (f_X6_shares_141 x1 x3 (FP.fdiv x3 q5.1) q5.2))) else some s4)) r a v v5 ((k : Int) + 1) (mk6 s a b l e ch (flo 0 (k + 1) (fun _ => 0) d))))))))) (fun u => ∃ ch' d', u = mk6 s a (shA hi hn b spc g c (chd hi (flo 0 c (fun _ => 0) d))) l e ch' d') := by
          intro v hv
          rw [hv]
          exact ok_ck (inR_of (by omega)) (ok_ck (inR_of (by omega)) (ok_ck (by omega) (ok_ck (fb_n32 (fb_sub hk2.1 (fb_le (hb k hk).1 (by omega)) (by omega)) (by omega)) (ok_bs (ok_ck (inR_of (by omega)) ih)))))
        refine ok_if (fun q2 => ok_neg (by simp) ?_) (fun q2 => ok_pos (by simp) (ok_neg (by simp) ?_))
        · exact step 1 (by rw [if_neg (fun h => q2 (by rw [if_pos h]))])
        · exact step 0 (by rw [if_pos (Classical.byContradiction (fun h => q2 (by rw [if_neg h]; decide)))])
      · have q' : hi k = 4 := Classical.not_not.mp q
        rw [if_pos q', if_neg (show ¬ shp hi k = 0 by unfold shp; rw [if_pos q']; decide), if_neg (by omega)] at ih
        exact ok_if (fun q2 => ok_pos (by simp) (ok_ck (inR_of (by omega)) ih)) (fun q2 => ok_neg (by simp) (ok_pos (by simp) (ok_ck (inR_of (by omega)) ih)))
    · rw [f_X6_shares_41]
      try simp only [n634, n635, n636, n643, n644, n6I, n6F, u634, u635, u636, u643, u644, n633, n604, n605, n606, n631, n621, n628, n607, n608, n622, n623, n626, n627, n638, nnat, i12, i2, ion]
      have s3 := sfs_q (m := 90) (hi := hi) (k := c) (c := c) (fb_le s1 (by omega)) hb (Nat.le_refl _) (by omega)
      have hx := Int.le_trans s3.2 s2
      have hcc := cn_le (chd hi (flo 0 c (fun _ => 0) d)) 0 c
      refine ok_ck (by omega) (ok_pos (by omega) (ok_if (fun q => ?_) (fun q => ?_)))
      · unfold f_X6_shares_141
        refine k6_one (m := 102) hV b l e ch _ _ (fun y s4 => f_X6_shares_146 (fun x1 x4 s1 => f_X6_shares_343 (fun s2 => some s2) 400 x1 x4 0 s1) 400 a (sfs (subs spc (fun _ => g) (c - 1)) hi b c) y 1 s4) _ (by omega) (fb_le s3.1 (by omega)) (fun h0 => (pos_fb hsf hsn h0 hx).1) ?_
        refine k6_146 hV b l e (fun x1 x4 s1 => f_X6_shares_343 (fun s2 => some s2) 400 x1 x4 0 s1) _ (shl hn b c 12 (chd hi (flo 0 c (fun _ => 0) d)) (sfs (subs spc (fun _ => g) (c - 1)) hi b c)) hb' (fun ch' d' x' e1 h1 h2 => ?_) 12 400 ch _ _ (by omega) (by omega) rfl (fb_le s3.1 (by omega)) hx
        have ho := one_q (ch := chd hi d') (x := x') hc2 hh (fun h0 => (pos_fb hsf hsn h0 h2).1)
        refine ok_of (k6_343 hV b l e ch' d' _ ho.1) ⟨ch', d', ?_⟩
        unfold shA
        rw [← e1]
      · refine ok_some ⟨ch, flo 0 c (fun _ => 0) d, ?_⟩
        have q' : cn (shp hi) 0 c = 0 := Classical.byContradiction (fun h => q (by rw [if_neg h]; decide))
        have h0 : ∀ t, t < c → chd hi (flo 0 c (fun _ => 0) d) t = 0 := by
          intro t ht
          have := cn_zero q' t ht
          unfold shp at this
          unfold chd
          rw [if_neg (fun h => ?_)]
          rw [if_pos h.1] at this
          exact absurd this (by decide)
        unfold shA
        have e1 : shl hn b c 12 (chd hi (flo 0 c (fun _ => 0) d)) (sfs (subs spc (fun _ => g) (c - 1)) hi b c) = (chd hi (flo 0 c (fun _ => 0) d), sfs (subs spc (fun _ => g) (c - 1)) hi b c) := by
          rw [shl, atg_none h0]; rfl
        rw [e1]
        have e2 : ∀ y, flo 0 c (shB hn b (chd hi (flo 0 c (fun _ => 0) d)) y) b = b := by
          intro y
          funext t
          by_cases ht : t < c
          · rw [flo_in (by omega)]
            unfold shB
            rw [if_pos (h0 t ht)]
          · rw [flo_out (by omega)]
        rw [e2]
end
