/-! ===== SIZING: the reference, all items; growth (written by wip/whole/gen_mod6.py) ===== -/
theorem rl_needy {c f w : Nat} {hi : Nat → Int} {L b l b' l' : Nat → UInt32} {e : Nat → Int} (nL : ∀ t, t < c → nn (L t)) (nb : ∀ t, t < c → nn (b t)) (nb' : ∀ t, t < c → nn (b' t)) (hge : ∀ t, t < c → (b t).toNat ≤ (b' t).toNat) (ho : ∀ t, ¬ (f ≤ t ∧ t < f + w) → b' t = b t) (hl' : ∀ t, l' t = if f ≤ t ∧ t < f + w ∧ e t = 0 then mx (l t) (b' t) else l t) (hR : RLm c hi L b l e) : RLm c hi L b' l' e := by
  intro t ht
  obtain ⟨h1, h2⟩ := hR t ht
  refine ⟨h1, ?_⟩
  have q1 := nL t ht
  have q2 := nb t ht
  have q3 := nb' t ht
  have q4 := hge t ht
  rw [hl' t]
  by_cases r : f ≤ t ∧ t < f + w
  · by_cases he : e t = 0
    · rw [if_pos he] at h2 ⊢
      rw [if_pos ⟨r.1, r.2, he⟩, h2]
      apply eq_nat
      rw [mx_nat (mx_nn q1 q2) q3, mx_nat q1 q2, mx_nat q1 q3]
      omega
    · rw [if_neg he] at h2 ⊢
      have h3 := congrArg UInt32.toNat h2
      rw [mx_nat q1 q2] at h3
      apply eq_nat
      rw [mx_nat q1 q3]
      omega
  · rw [if_neg (show ¬ (f ≤ t ∧ t < f + w ∧ e t = 0) from fun h => r ⟨h.1, h.2.1⟩), ho t r]
    exact h2
section
variable {s : pS} {a c n : Nat} {lo hi ln sp : Nat → Int} {lnu hn le mo : Nat → UInt32} {spc g : UInt32} {how : Int}
theorem k6_needies {m : Nat} (hV : mv s a c n lo hi ln sp lnu hn le mo spc g how) (w : Nat) (L b l : Nat → UInt32) (e ch d : Nat → Int) (K : Int → Int → pS → Option pS) (P : pS → Prop) (hw : w ≤ 4) (hm2 : 14 ≤ m) (hm : m + n ≤ 89) (hb : ∀ t, t < c → fb m (b t) ∧ nn (b t)) (hL : ∀ t, t < c → fb m (L t) ∧ nn (L t)) (hR : RLm c hi L b l e)
    (hK : ∀ l' ch', RLm c hi L (spI (ndy lo hi) ln sp le g w b n) l' e → ok (K a w (mk6 s a (spI (ndy lo hi) ln sp le g w b n) l' e ch' d)) P) : ok (f_X6_sizes_46 K 400 a w 0 (mk6 s a b l e ch d)) P := by
  have hV' := hV
  obtain ⟨ha, hc, hc2, hn', hn2, hT, hJ, hsp, hgg, hho, hsn, hsf, hgn, hgf⟩ := hV'
  have hin : ∀ j, j < n → ln j ≠ 0 → sp j = (w : Int) → (ln j - 1).toNat + w ≤ c := by
    intro j hj h1 h2
    obtain ⟨j1, j2, j3, j4, j5, j6, j7, j8, j9, j10, j11, j12⟩ := hJ j hj
    have := j8 h1
    omega
  have hxs : ∀ j, j < n → fb 12 (le j) ∧ nn (le j) := fun j hj => ⟨(hJ j hj).2.2.2.2.2.2.2.2.2.1, (hJ j hj).2.2.2.2.2.2.2.2.1⟩
  have B : ∀ k, k ≤ n → ∀ t, t < c → fb (m + k) ((spI (ndy lo hi) ln sp le g w b k) t) ∧ nn ((spI (ndy lo hi) ln sp le g w b k) t) := fun k hk => spI_q hb hw ⟨hgf, hgn⟩ hm2 (by omega) (fun j hj => hin j (by omega)) (fun j hj => hxs j (by omega))
  refine itJ (fun r k u => f_X6_sizes_46 K r a w (k : Int) u) (fun k u => ∃ l' ch', u = mk6 s a (spI (ndy lo hi) ln sp le g w b k) l' e ch' d ∧ RLm c hi L (spI (ndy lo hi) ln sp le g w b k) l' e) n P (fun r k u hk hJk ih => ?_) (fun r u hJk => ?_) 400 0 _ (by omega) (by omega) ⟨l, ch, rfl, hR⟩
  · obtain ⟨l', ch', rfl, hR'⟩ := hJk
    rw [f_X6_sizes_46]
    unfold f_X6_sizes_70
    refine ok_neg (by rw [n6I]; omega) (ok_eq (k6_spans hV k w _ _ _ _ _ hk) ?_)
    dsimp only
    have Bk := B k (by omega)
    by_cases hq : ln k ≠ 0 ∧ sp k = (w : Int)
    · rw [if_pos hq]
      have hlt := hin k hk hq.1 hq.2
      obtain ⟨j1, j2, j3, j4, j5, j6, j7, j8, j9, j10, j11, j12⟩ := hJ k hk
      have e1 : ln k = (((ln k - 1).toNat : Nat) : Int) + 1 := by omega
      refine ok_neg (by decide) (ok_seq (k6_needy (m := m + k) hV k (ln k - 1).toNat w _ l' e ch' d hk e1 hq.2 hlt (by omega) (by omega) Bk (fun t ht h0 => ?_)) (fun q2 h2 => ?_))
      · have := (hR' t ht).2
        rw [if_pos h0] at this
        rw [this]
        exact mx_fb (fb_le (hL t ht).1 (by omega)) (fb_le (Bk t ht).1 (by omega))
      · obtain ⟨l2, ch2, rfl, hl2⟩ := h2
        refine ok_ck (inR_of (by omega)) (ih _ ⟨l2, ch2, ?_, ?_⟩)
        · rw [spI, if_pos hq]
        · rw [spI, if_pos hq]
          have s1 := sprd_q (p := ndy lo hi) Bk hlt hw (hxs k hk).1 (hxs k hk).2 ⟨hgf, hgn⟩ (by omega) (by omega)
          have s2 := sprd_ge (p := ndy lo hi) Bk hlt hw (hxs k hk).1 (hxs k hk).2 ⟨hgf, hgn⟩ (by omega) (by omega)
          exact rl_needy (fun t ht => (hL t ht).2) (fun t ht => (Bk t ht).2) (fun t ht => (s1 t ht).2) s2 (fun t ht => sprd_out (Or.inl ht)) hl2 hR'
    · rw [if_neg hq]
      refine ok_pos rfl (ok_ck (inR_of (by omega)) (ih _ ⟨l', ch', ?_, ?_⟩))
      · rw [spI, if_neg hq]
      · rw [spI, if_neg hq]
        exact hR'
  · obtain ⟨l', ch', rfl, hR'⟩ := hJk
    rw [f_X6_sizes_46]
    exact ok_pos (by rw [n6I]; omega) (hK l' ch' hR')
theorem k6_growings {m : Nat} (hV : mv s a c n lo hi ln sp lnu hn le mo spc g how) (w : Nat) (M b l : Nat → UInt32) (e ch d : Nat → Int) (K : Int → Int → pS → Option pS) (P : pS → Prop) (hw : w ≤ 4) (hm2 : 14 ≤ m) (hm : m + n ≤ 89) (hM : ∀ t, t < c → fb m (M t) ∧ nn (M t)) (hR : ∀ t, t < c → (if e t = 0 then l t else b t) = M t)
    (hK : ∀ l' e' ch', (∀ t, t < c → (if e' t = 0 then l' t else b t) = (spI (wid hi) ln sp mo g w M n) t) → ok (K a w (mk6 s a b l' e' ch' d)) P) : ok (f_X6_sizes_91 K 400 a w 0 (mk6 s a b l e ch d)) P := by
  have hV' := hV
  obtain ⟨ha, hc, hc2, hn', hn2, hT, hJ, hsp, hgg, hho, hsn, hsf, hgn, hgf⟩ := hV'
  have hin : ∀ j, j < n → ln j ≠ 0 → sp j = (w : Int) → (ln j - 1).toNat + w ≤ c := by
    intro j hj h1 h2
    obtain ⟨j1, j2, j3, j4, j5, j6, j7, j8, j9, j10, j11, j12⟩ := hJ j hj
    have := j8 h1
    omega
  have hxs : ∀ j, j < n → fb 12 (mo j) ∧ nn (mo j) := fun j hj => ⟨(hJ j hj).2.2.2.2.2.2.2.2.2.2.2, (hJ j hj).2.2.2.2.2.2.2.2.2.2.1⟩
  have B : ∀ k, k ≤ n → ∀ t, t < c → fb (m + k) ((spI (wid hi) ln sp mo g w M k) t) ∧ nn ((spI (wid hi) ln sp mo g w M k) t) := fun k hk => spI_q hM hw ⟨hgf, hgn⟩ hm2 (by omega) (fun j hj => hin j (by omega)) (fun j hj => hxs j (by omega))
  refine itJ (fun r k u => f_X6_sizes_91 K r a w (k : Int) u) (fun k u => ∃ l' e' ch', u = mk6 s a b l' e' ch' d ∧ ∀ t, t < c → (if e' t = 0 then l' t else b t) = (spI (wid hi) ln sp mo g w M k) t) n P (fun r k u hk hJk ih => ?_) (fun r u hJk => ?_) 400 0 _ (by omega) (by omega) ⟨l, e, ch, rfl, hR⟩
  · obtain ⟨l', e', ch', rfl, hR'⟩ := hJk
    rw [f_X6_sizes_91]
    unfold f_X6_sizes_115
    refine ok_neg (by rw [n6I]; omega) (ok_eq (k6_spans hV k w _ _ _ _ _ hk) ?_)
    dsimp only
    by_cases hq : ln k ≠ 0 ∧ sp k = (w : Int)
    · rw [if_pos hq]
      have hlt := hin k hk hq.1 hq.2
      obtain ⟨j1, j2, j3, j4, j5, j6, j7, j8, j9, j10, j11, j12⟩ := hJ k hk
      have e1 : ln k = (((ln k - 1).toNat : Nat) : Int) + 1 := by omega
      refine ok_neg (by decide) (ok_seq (k6_growing (m := m + k) hV k (ln k - 1).toNat w (spI (wid hi) ln sp mo g w M k) b l' e' ch' d hk e1 hq.2 hlt (by omega) (by omega) (B k (by omega)) hR') (fun q2 h2 => ?_))
      obtain ⟨l2, e2, ch2, rfl, hl2⟩ := h2
      refine ok_ck (inR_of (by omega)) (ih _ ⟨l2, e2, ch2, rfl, ?_⟩)
      rw [spI, if_pos hq]
      exact hl2
    · rw [if_neg hq]
      refine ok_pos rfl (ok_ck (inR_of (by omega)) (ih _ ⟨l', e', ch', rfl, ?_⟩))
      rw [spI, if_neg hq]
      exact hR'
  · obtain ⟨l', e', ch', rfl, hR'⟩ := hJk
    rw [f_X6_sizes_91]
    exact ok_pos (by rw [n6I]; omega) (hK l' e' ch' hR')
/-- all needs -/
theorem k6_39 {m : Nat} (hV : mv s a c n lo hi ln sp lnu hn le mo spc g how) (L b l : Nat → UInt32) (e ch d : Nat → Int) (K : Int → pS → Option pS) (P : pS → Prop) (hm2 : 14 ≤ m) (hm : m ≤ 50) (hb : ∀ t, t < c → fb m (b t) ∧ nn (b t)) (hL : ∀ t, t < c → fb m (L t) ∧ nn (L t)) (hR : RLm c hi L b l e)
    (hK : ∀ l' ch', RLm c hi L (spA (ndy lo hi) ln sp le g n b) l' e → ok (K a (mk6 s a (spA (ndy lo hi) ln sp le g n b) l' e ch' d)) P) : ok (f_X6_sizes_39 K 400 a 2 (mk6 s a b l e ch d)) P := by
  have hV' := hV
  obtain ⟨ha, hc, hc2, hn', hn2, hT, hJ, hsp, hgg, hho, hsn, hsf, hgn, hgf⟩ := hV'
  have hh : ∀ w : Nat, ∀ j, j < n → ln j ≠ 0 → sp j = (w : Int) → (ln j - 1).toNat + w ≤ c := by
    intro w j hj h1 h2
    obtain ⟨j1, j2, j3, j4, j5, j6, j7, j8, j9, j10, j11, j12⟩ := hJ j hj
    have := j8 h1
    omega
  have hxs : ∀ j, j < n → fb 12 (le j) ∧ nn (le j) := fun j hj => ⟨(hJ j hj).2.2.2.2.2.2.2.2.2.1, (hJ j hj).2.2.2.2.2.2.2.2.1⟩
  have r2 := spI_q (m := m) (w := 2) (n := n) hb (by omega) ⟨hgf, hgn⟩ hm2 (by omega) (hh 2) hxs (p := ndy lo hi)
  have r3 := spI_q (m := m + n) (w := 3) (n := n) r2 (by omega) ⟨hgf, hgn⟩ (by omega) (by omega) (hh 3) hxs (p := ndy lo hi)
  rw [f_X6_sizes_39]
  refine ok_neg (by decide) (k6_needies (m := m) hV 2 L b l e ch d _ P (by omega) hm2 (by omega) hb hL hR (fun l2 ch2 h2 => ok_ck (inR_of (by decide)) ?_))
  rw [f_X6_sizes_39]
  refine ok_neg (by decide) (k6_needies (m := m + n) hV 3 L _ l2 e ch2 d _ P (by omega) (by omega) (by omega) r2 (fun t ht => ⟨fb_le (hL t ht).1 (by omega), (hL t ht).2⟩) h2 (fun l3 ch3 h3 => ok_ck (inR_of (by decide)) ?_))
  rw [f_X6_sizes_39]
  refine ok_neg (by decide) (k6_needies (m := m + n + n) hV 4 L _ l3 e ch3 d _ P (by omega) (by omega) (by omega) r3 (fun t ht => ⟨fb_le (hL t ht).1 (by omega), (hL t ht).2⟩) h3 (fun l4 ch4 h4 => ok_ck (inR_of (by decide)) ?_))
  rw [f_X6_sizes_39]
  exact ok_pos (by decide) (hK l4 ch4 h4)
/-- all limits -/
theorem k6_84 {m : Nat} (hV : mv s a c n lo hi ln sp lnu hn le mo spc g how) (M b l : Nat → UInt32) (e ch d : Nat → Int) (K : Int → pS → Option pS) (P : pS → Prop) (hm2 : 14 ≤ m) (hm : m ≤ 50) (hM : ∀ t, t < c → fb m (M t) ∧ nn (M t)) (hR : ∀ t, t < c → (if e t = 0 then l t else b t) = M t)
    (hK : ∀ l' e' ch', (∀ t, t < c → (if e' t = 0 then l' t else b t) = spA (wid hi) ln sp mo g n M t) → ok (K a (mk6 s a b l' e' ch' d)) P) : ok (f_X6_sizes_84 K 400 a 2 (mk6 s a b l e ch d)) P := by
  have hV' := hV
  obtain ⟨ha, hc, hc2, hn', hn2, hT, hJ, hsp, hgg, hho, hsn, hsf, hgn, hgf⟩ := hV'
  have hh : ∀ w : Nat, ∀ j, j < n → ln j ≠ 0 → sp j = (w : Int) → (ln j - 1).toNat + w ≤ c := by
    intro w j hj h1 h2
    obtain ⟨j1, j2, j3, j4, j5, j6, j7, j8, j9, j10, j11, j12⟩ := hJ j hj
    have := j8 h1
    omega
  have hxs : ∀ j, j < n → fb 12 (mo j) ∧ nn (mo j) := fun j hj => ⟨(hJ j hj).2.2.2.2.2.2.2.2.2.2.2, (hJ j hj).2.2.2.2.2.2.2.2.2.2.1⟩
  have r2 := spI_q (m := m) (w := 2) (n := n) hM (by omega) ⟨hgf, hgn⟩ hm2 (by omega) (hh 2) hxs (p := wid hi)
  have r3 := spI_q (m := m + n) (w := 3) (n := n) r2 (by omega) ⟨hgf, hgn⟩ (by omega) (by omega) (hh 3) hxs (p := wid hi)
  rw [f_X6_sizes_84]
  refine ok_neg (by decide) (k6_growings (m := m) hV 2 M b l e ch d _ P (by omega) hm2 (by omega) hM hR (fun l2 e2 ch2 h2 => ok_ck (inR_of (by decide)) ?_))
  rw [f_X6_sizes_84]
  refine ok_neg (by decide) (k6_growings (m := m + n) hV 3 _ b l2 e2 ch2 d _ P (by omega) (by omega) (by omega) r2 h2 (fun l3 e3 ch3 h3 => ok_ck (inR_of (by decide)) ?_))
  rw [f_X6_sizes_84]
  refine ok_neg (by decide) (k6_growings (m := m + n + n) hV 4 _ b l3 e3 ch3 d _ P (by omega) (by omega) (by omega) r3 h3 (fun l4 e4 ch4 h4 => ok_ck (inR_of (by decide)) ?_))
  rw [f_X6_sizes_84]
  exact ok_pos (by decide) (hK l4 e4 ch4 h4)
/-- what is endless becomes the base -/
theorem k6_129 (hV : mv s a c n lo hi ln sp lnu hn le mo spc g how) (M b l : Nat → UInt32) (e ch d : Nat → Int) (K : Int → pS → Option pS) (P : pS → Prop) (hR : ∀ t, t < c → (if e t = 0 then l t else b t) = M t)
    (hK : ∀ l' e', (∀ t, t < c → l' t = M t) → ok (K a (mk6 s a b l' e' ch d)) P) : ok (f_X6_sizes_129 K 400 a 0 (mk6 s a b l e ch d)) P := by
  have hV' := hV
  obtain ⟨ha, hc, hc2, hn', hn2, hT, hJ, hsp, hgg, hho, hsn, hsf, hgn, hgf⟩ := hV'
  have h := itS (fun r k => f_X6_sizes_129 K r a (k : Int) (mk6 s a b (flo 0 k M l) (flo 0 k (fun _ => 0) e) ch d)) c P (fun r k hk ih => ?_) (fun r => ?_) 400 0 (by omega) (by omega)
  · rw [flo_0, flo_0] at h
    exact h
  · have hk12 : k < 12 := by omega
    have hRk := hR k hk
    rw [f_X6_sizes_129]
    unfold f_X6_sizes_175
    try simp only [n634, n635, n636, n643, n644, n6I, n6F, u634, u635, u636, u643, u644, n633, n604, n605, n606, n631, n621, n628, n607, n608, n622, n623, n626, n627, n638, nnat, i12, i2, ion]
    rw [pt_at hk12, pt_at hk12, flo_at0]
    refine ok_ck (by omega) (ok_neg (by omega) (ok_ck (inR_of (by omega)) (ok_ck (inR_of (by omega)) (ok_ck (by omega) (ok_if (fun q => ?_) (fun q => ?_))))))
    · rw [if_pos q] at hRk
      refine ok_ck (inR_of (by omega)) (ok_ck (inR_of (by omega)) (ok_ck (by omega) (ok_bs ?_)))
      rw [pt_up hk12, u636, flo_up0 rfl]
      rw [flo_skip0 (new := M) hRk.symm] at ih
      exact ok_ck (inR_of (by omega)) ih
    · rw [if_neg q] at hRk
      refine ok_ck (inR_of (by omega)) (ok_ck (inR_of (by omega)) (ok_ck (inR_of (by omega)) (ok_ck (inR_of (by omega)) (ok_ck (by omega) (ok_ck (by omega) (ok_bs ?_))))))
      rw [pt_up hk12, u635, flo_up0 hRk]
      refine ok_ck (inR_of (by omega)) (ok_ck (inR_of (by omega)) (ok_ck (by omega) (ok_bs ?_)))
      try simp only [n634, n635, n636, n643, n644, n6I, n6F, u634, u635, u636, u643, u644, n633, n604, n605, n606, n631, n621, n628, n607, n608, n622, n623, n626, n627, n638, nnat, i12, i2, ion]
      rw [pt_up hk12, u636, flo_up0 rfl]
      exact ok_ck (inR_of (by omega)) ih
  · rw [f_X6_sizes_129]
    try simp only [n634, n635, n636, n643, n644, n6I, n6F, u634, u635, u636, u643, u644, n633, n604, n605, n606, n631, n621, n628, n607, n608, n622, n623, n626, n627, n638, nnat, i12, i2, ion]
    refine ok_ck (by omega) (ok_pos (by omega) (hK _ _ (fun t ht => flo_in (by omega))))
/-! rest and growth -/
theorem k6_left {m : Nat} (hV : mv s a c n lo hi ln sp lnu hn le mo spc g how) (b l : Nat → UInt32) (e ch d : Nat → Int) (hb : ∀ t, t < c → fb m (b t)) (hm : m ≤ 100) (hm2 : 12 ≤ m) :
    f_X6_left a (mk6 s a b l e ch d) = some (rst spc b g c, mk6 s a b l e ch d) := by
  have hV' := hV
  obtain ⟨ha, hc, hc2, hn', hn2, hT, hJ, hsp, hgg, hho, hsn, hsf, hgn, hgf⟩ := hV'
  refine of_ok ?_
  unfold f_X6_left
  try simp only [n634, n635, n636, n643, n644, n6I, n6F, u634, u635, u636, u643, u644, n633, n604, n605, n606, n631, n621, n628, n607, n608, n622, n623, n626, n627, n638, nnat, i12, i2, ion]
  rw [hsp]
  refine ok_ck (by omega) (ok_bs ?_)
  refine itS (fun r k => f_X6_left_9 (fun x1 x2 s3 => f_X6_left_41 (fun x2 s4 => some (x2, s4)) 400 x1 x2 1 s3) r a (subs spc b k) (k : Int) (mk6 s a b l e ch d)) c _ (fun r k hk ih => ?_) (fun r => ?_) 400 0 (by omega) (by omega)
  · have hk12 : k < 12 := by omega
    rw [f_X6_left_9]
    try simp only [n634, n635, n636, n643, n644, n6I, n6F, u634, u635, u636, u643, u644, n633, n604, n605, n606, n631, n621, n628, n607, n608, n622, n623, n626, n627, n638, nnat, i12, i2, ion]
    rw [pt_at hk12]
    refine ok_ck (by omega) (ok_neg (by omega) (ok_ck (inR_of (by omega)) (ok_ck (inR_of (by omega)) (ok_ck (by omega) (ok_ck (fb_n32 (subs_fb (n := k + 1) (fb_le hsf hm2) (fun t ht => hb t (by omega)) (by omega)) (by omega)) (ok_bs (ok_ck (inR_of (by omega)) ih)))))))
  · rw [f_X6_left_9]
    try simp only [n634, n635, n636, n643, n644, n6I, n6F, u634, u635, u636, u643, u644, n633, n604, n605, n606, n631, n621, n628, n607, n608, n622, n623, n626, n627, n638, nnat, i12, i2, ion]
    refine ok_ck (by omega) (ok_pos (by omega) ?_)
    have q1 := subs_fb (n := c) (fb_le hsf hm2) hb (by omega)
    refine itS (fun r k => f_X6_left_41 (fun x2 s4 => some (x2, s4)) r a (subs (subs spc b c) (fun _ => g) k) ((k : Int) + 1) (mk6 s a b l e ch d)) (c - 1) _ (fun r k hk ih => ?_) (fun r => ?_) 400 0 (by omega) (by omega)
    · rw [f_X6_left_41]
      try simp only [n634, n635, n636, n643, n644, n6I, n6F, u634, u635, u636, u643, u644, n633, n604, n605, n606, n631, n621, n628, n607, n608, n622, n623, n626, n627, n638, nnat, i12, i2, ion]
      rw [hgg]
      exact ok_ck (by omega) (ok_neg (by omega) (ok_ck (by omega) (ok_ck (fb_n32 (subs_fb (n := k + 1) (b := fun _ => g) q1 (fun _ _ => fb_le hgf (by omega)) (by omega)) (by omega)) (ok_bs (ok_ck (inR_of (by omega)) ih)))))
    · rw [f_X6_left_41]
      try simp only [n634, n635, n636, n643, n644, n6I, n6F, u634, u635, u636, u643, u644, n633, n604, n605, n606, n631, n621, n628, n607, n608, n622, n623, n626, n627, n638, nnat, i12, i2, ion]
      exact ok_ck (by omega) (ok_pos (by omega) (ok_some rfl))
theorem k6_grows {m : Nat} (s : pS) (a t : Nat) (b l : Nat → UInt32) (e ch d : Nat → Int) (ha : a < 2) (ht : t < 12) (hm : m ≤ 127) (hb : fb m (b t)) (hl : fb m (l t)) :
    f_X6_grows (12 * (a : Int) + (t : Int)) (mk6 s a b l e ch d) = some (if fk (b t) < fk (l t) then 1 else 0, mk6 s a b l e ch d) := by
  refine of_ok ?_
  unfold f_X6_grows f_X6_grows_21
  try simp only [n634, n635, n636, n643, n644, n6I, n6F, u634, u635, u636, u643, u644, n633, n604, n605, n606, n631, n621, n628, n607, n608, n622, n623, n626, n627, n638, nnat, i12, i2, ion]
  rw [pt_at ht, pt_at ht]
  have q := (fc_lt (fb_nan hb hm) (fb_nan hl hm) .g).2.2.1
  refine ok_ck (by omega) (ok_ck (by omega) (ok_if (fun g => ok_ck (by simp) (ok_some ?_)) (fun g => ok_ck (by simp) (ok_some ?_))))
  · rw [if_neg (show ¬ fk (b t) < fk (l t) by have := q.mp g; omega)]
  · rw [if_pos (Int.not_le.mp (fun h => g (q.mpr h)))]
end
