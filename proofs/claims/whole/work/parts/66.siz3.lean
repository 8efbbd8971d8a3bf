/-! ===== SIZING: all items, growth (written by wip/whole/gen_siz3.py) ===== -/
theorem sub_le' {m : Nat} {x y : UInt32} (hx : fb m x) (hy : fb m y) (hm : m ≤ 126) (hn : 0 ≤ fk y) : fk (FP.fsub x y) ≤ fk x := by
  by_cases h : nn y
  · exact sub_le hx hy hm h
  · have fx := fb_fin hx (by omega)
    have fy := fb_fin hy (by omega)
    have hr := fb_nan (fb_sub hx hy hm) (by omega)
    have hz : 0 ≤ FP.Core.zval FP.Core.b32 (FP.Core.val32 y) := by
      have h0 := (fk_zval (x := FP.fconst0) (y := y) (fb_nan (fb0 0) (by omega)) fy.ne_nan).mpr (by rw [show fk FP.fconst0 = 0 from rfl]; exact hn)
      have h1 := nn_zval nn0 (fb_nan (fb0 0) (by omega))
      omega
    have fy' : ∃ s c q, FP.Core.negate (FP.Core.val32 y) = .fin s c q := by
      obtain ⟨s, c, q, h⟩ := fy; exact ⟨!s, c, q, by rw [h]; rfl⟩
    rw [← fk_zval hr fx.ne_nan]
    show FP.Core.zval FP.Core.b32 (FP.Core.val32 (FP.Core.fsub x y)) ≤ _
    rw [FP.Core.val32_fsub]
    refine FP.Core.sum_le FP.Core.good_b32 fx fy' (FP.Core.val32_fits x) (FP.Core.negate_fits (FP.Core.val32_fits y)) (FP.Core.val32_fits x) fx.ne_nan ?_
    rw [FP.Core.zval_negate]
    omega
/-- a greater one less a smaller one isn't negative -/
theorem sub_ge0 {m : Nat} {x y : UInt32} (hx : fb m x) (hy : fb m y) (hm : m ≤ 126) (h : fk y ≤ fk x) : 0 ≤ fk (FP.fsub x y) := by
  have fx := fb_fin hx (by omega)
  have fy := fb_fin hy (by omega)
  have hr := fb_nan (fb_sub hx hy hm) (by omega)
  have n0 := fb_nan (fb0 0) (by omega)
  have f0 := fb_fin (fb0 0) (by omega)
  have hz := (fk_zval fy.ne_nan fx.ne_nan).mpr h
  have fy' : ∃ s c q, FP.Core.negate (FP.Core.val32 y) = .fin s c q := by
    obtain ⟨s, c, q, h⟩ := fy; exact ⟨!s, c, q, by rw [h]; rfl⟩
  have e0 : FP.Core.zval FP.Core.b32 (FP.Core.val32 FP.fconst0) = 0 := by decide +kernel
  have := (fk_zval n0 hr).mp (by
    show _ ≤ FP.Core.zval FP.Core.b32 (FP.Core.val32 (FP.Core.fsub x y))
    rw [FP.Core.val32_fsub]
    refine FP.Core.sum_ge FP.Core.good_b32 fx fy' (FP.Core.val32_fits x) (FP.Core.negate_fits (FP.Core.val32_fits y)) (FP.Core.val32_fits FP.fconst0) n0 ?_
    rw [FP.Core.zval_negate, e0]
    omega)
  exact this
theorem fb_between {m : Nat} {x y : UInt32} (h0 : 0 ≤ fk x) (h : fk x ≤ fk y) (hy : fb m y) (hn : nn y) : fb m x := by
  by_cases hx : nn x
  · rw [fk_nn hx, fk_nn hn] at h
    unfold fb nn at *
    omega
  · have h1 := fk_neg hx
    have h2 : fk x = 0 := by omega
    have h3 : FP.Core.fkey x = 0 := h2
    unfold nn at hx
    unfold FP.Core.fkey at h3
    rw [if_pos (by omega)] at h3
    unfold fb
    omega
theorem sprd_q {m c a n : Nat} {x g : UInt32} {b : Nat → UInt32} {p : Nat → Int} (hb : ∀ t, t < c → fb m (b t) ∧ nn (b t)) (ha : a + n ≤ c) (hn : n ≤ 4) (hx : fb 12 x) (hxn : nn x) (hg : fb 12 g ∧ nn g) (hm : m ≤ 90) (hm2 : 14 ≤ m) : ∀ t, t < c → fb (m + 1) (sprd x g b p a n t) ∧ nn (sprd x g b p a n t) := by
  intro t ht
  have h1 := hb t ht
  have h1' := fb_le h1.1 (Nat.le_succ m)
  have hcn := cn_le p a n
  unfold sprd
  split
  · exact ⟨h1', h1.2⟩
  · split
    · exact ⟨h1', h1.2⟩
    · rename_i g1 g2
      have q4 := spx_pos (m := m) hx hxn hg (fun t q1 q2 => hb t (by omega)) hn (by omega) (by omega) (Int.not_le.mp g2)
      have q5 := part_fb (n := cn p a n) q4.1 (by omega) (by omega) (by omega)
      have q6 := part_nn (n := cn p a n) q4.1 q4.2 (by omega) (by omega) (by omega)
      unfold flo spn
      split
      · split
        · exact ⟨h1', h1.2⟩
        · exact ⟨fb_add h1.1 (fb_le q5 (by omega)) (by omega), nn_add h1.1 (fb_le q5 (by omega)) (by omega) h1.2 q6⟩
      · exact ⟨h1', h1.2⟩
/-- the spreads of the first j items of w tracks -/
def spI (p ln sp : Nat → Int) (xs : Nat → UInt32) (g : UInt32) (w : Nat) (b : Nat → UInt32) : Nat → Nat → UInt32
  | 0 => b
  | j + 1 => if ln j ≠ 0 ∧ sp j = (w : Int) then sprd (xs j) g (spI p ln sp xs g w b j) p (ln j - 1).toNat w else spI p ln sp xs g w b j
theorem spI_q {m c w : Nat} {g : UInt32} {b xs : Nat → UInt32} {p ln sp : Nat → Int} (hb : ∀ t, t < c → fb m (b t) ∧ nn (b t)) (hw : w ≤ 4) (hg : fb 12 g ∧ nn g) (hm2 : 14 ≤ m) : ∀ {n : Nat}, m + n ≤ 90 → (∀ j, j < n → ln j ≠ 0 → sp j = (w : Int) → (ln j - 1).toNat + w ≤ c) → (∀ j, j < n → fb 12 (xs j) ∧ nn (xs j)) → ∀ t, t < c → fb (m + n) (spI p ln sp xs g w b n t) ∧ nn (spI p ln sp xs g w b n t)
  | 0, _, _, _ => hb
  | n + 1, hm, h1, h2 => by
    have ih := spI_q (n := n) hb hw hg hm2 (p := p) (ln := ln) (sp := sp) (xs := xs) (by omega) (fun j hj => h1 j (by omega)) (fun j hj => h2 j (by omega))
    intro t ht
    show fb (m + (n + 1)) ((if ln n ≠ 0 ∧ sp n = (w : Int) then sprd (xs n) g (spI p ln sp xs g w b n) p (ln n - 1).toNat w else spI p ln sp xs g w b n) t) ∧ nn ((if ln n ≠ 0 ∧ sp n = (w : Int) then sprd (xs n) g (spI p ln sp xs g w b n) p (ln n - 1).toNat w else spI p ln sp xs g w b n) t)
    split
    · rename_i h
      exact sprd_q (m := m + n) ih (h1 n (by omega) h.1 h.2) hw (h2 n (by omega)).1 (h2 n (by omega)).2 hg (by omega) (by omega) t ht
    · exact ⟨fb_le (ih t ht).1 (by omega), (ih t ht).2⟩
/-- the spreads of all items: those of two tracks, of three, of four -/
def spA (p ln sp : Nat → Int) (xs : Nat → UInt32) (g : UInt32) (n : Nat) (b : Nat → UInt32) : Nat → UInt32 := spI p ln sp xs g 4 (spI p ln sp xs g 3 (spI p ln sp xs g 2 b n) n) n
theorem spA_q {m c : Nat} {g : UInt32} {b xs : Nat → UInt32} {p ln sp : Nat → Int} (hb : ∀ t, t < c → fb m (b t) ∧ nn (b t)) (hg : fb 12 g ∧ nn g) (hm2 : 14 ≤ m) {n : Nat} (hn : n ≤ 10) (hm : m ≤ 60) (h1 : ∀ j, j < n → ln j ≠ 0 → ln j - 1 + sp j ≤ (c : Int)) (h0 : ∀ j, j < n → 0 ≤ ln j) (h2 : ∀ j, j < n → fb 12 (xs j) ∧ nn (xs j)) : ∀ t, t < c → fb (m + 30) (spA p ln sp xs g n b t) ∧ nn (spA p ln sp xs g n b t) := by
  have hh : ∀ w : Nat, ∀ j, j < n → ln j ≠ 0 → sp j = (w : Int) → (ln j - 1).toNat + w ≤ c := by
    intro w j hj q1 q2
    have := h1 j hj q1
    have := h0 j hj
    omega
  have r2 := spI_q (m := m) (w := 2) (n := n) hb (by omega) hg hm2 (by omega) (hh 2) h2 (p := p)
  have r3 := spI_q (m := m + n) (w := 3) (n := n) r2 (by omega) hg (by omega) (by omega) (hh 3) h2 (p := p)
  have r4 := spI_q (m := m + n + n) (w := 4) (n := n) r3 (by omega) hg (by omega) (by omega) (hh 4) h2 (p := p)
  intro t ht
  exact ⟨fb_le (r4 t ht).1 (by omega), (r4 t ht).2⟩
theorem k_spreadLeast_9 {m : Nat} (i c n w : Nat) (s : pS) (b l : Nat → UInt32) (ch : Nat → Int) (K : Int → pS → Option pS) (P : pS → Prop) (hX : cax s i c n) (hw : w ≤ 4) (hw2 : 2 ≤ w) (hm2 : 14 ≤ m) (hm : m + n ≤ 90) (hb : ∀ t, t < c → fb m (b t) ∧ nn (b t))
    (hK : ∀ ch', ok (K w (mk3 s i (spI (ndy (sA s 300 i) (sA s 302 i)) (sA s 11 i) (sA s 5 i) (sB s 6 i) (sF s 2 i) w b n) l ch')) P) : ok (f_X2_spreadLeast_9 i K 400 w 0 (mk3 s i b l ch)) P := by
  obtain ⟨hc, hc2, hn, hn2, hit, hsg, hne, ht⟩ := hX
  have hin : ∀ j, j < n → sA s 11 i j ≠ 0 → sA s 5 i j = (w : Int) → (sA s 11 i j - 1).toNat + w ≤ c := by
    intro j hj h1 h2
    have := hit j hj
    have h3 := this.2.2.2 h1
    omega
  have hxs : ∀ j, j < n → fb 12 ((sB s 6 i) j) ∧ nn ((sB s 6 i) j) := fun j hj => ⟨(hne j (by omega)).2.1, (hne j (by omega)).1⟩
  have B : ∀ k, k ≤ n → ∀ t, t < c → fb (m + k) ((spI (ndy (sA s 300 i) (sA s 302 i)) (sA s 11 i) (sA s 5 i) (sB s 6 i) (sF s 2 i) w b k) t) ∧ nn ((spI (ndy (sA s 300 i) (sA s 302 i)) (sA s 11 i) (sA s 5 i) (sB s 6 i) (sF s 2 i) w b k) t) := fun k hk => spI_q hb hw ⟨hsg.2.2.2, hsg.2.2.1⟩ hm2 (by omega) (fun j hj => hin j (by omega)) (fun j hj => hxs j (by omega))
  refine itJ (fun r k u => f_X2_spreadLeast_9 i K r w (k : Int) u) (fun k u => ∃ ch', u = mk3 s i (spI (ndy (sA s 300 i) (sA s 302 i)) (sA s 11 i) (sA s 5 i) (sB s 6 i) (sF s 2 i) w b k) l ch') n P (fun r k u hk hJ ih => ?_) (fun r u hJ => ?_) 400 0 _ (by omega) (by omega) ⟨ch, rfl⟩
  · obtain ⟨c1, rfl⟩ := hJ
    rw [f_X2_spreadLeast_9]
    unfold f_X2_spreadLeast_65
    try simp only [m9, m203, m204, mI, mF, m300, m302, m11, m5, m301, m303, m6, m7, mk3_9, mk3_203, mk3_204, nnat, ion]
    refine ok_neg (by omega) (ok_ck (by omega) (ok_if (fun h1 => ok_ck (inR_of (by omega)) ?_) (fun h1 => ok_ck (by omega) (ok_if (fun h2 => ok_ck (inR_of (by omega)) ?_) (fun h2 => ?_)))))
    · refine ih _ ⟨c1, ?_⟩
      rw [spI, if_neg (by omega)]
    · refine ih _ ⟨c1, ?_⟩
      rw [spI, if_neg (by omega)]
    · have hj := hin k hk h1 (by omega)
      have hj0 := (hit k hk).1
      have e1 : sA s 11 i k = (((sA s 11 i k - 1).toNat : Nat) : Int) + 1 := by omega
      have e2 : sA s 5 i k = (w : Int) := by omega
      refine ok_ck (by omega) (ok_eq (k_chooseNeedy i k s _ w _ _ _ (by omega) e1 e2 (by omega)) ?_)
      refine ok_eq (k_spread_9 (m := m + k) i k s _ w _ _ _ (ndy (sA s 300 i) (sA s 302 i)) _ (by omega) e1 e2 (by omega) hw (hxs k hk).1 (hxs k hk).2 ⟨hsg.2.2.2, hsg.2.2.1⟩ (fun t q1 q2 => B k (by omega) t (by omega)) (by omega) (by omega) (fun t q1 q2 => flo_in ⟨q1, q2⟩)) (ok_ck (inR_of (by omega)) ?_)
      refine ih _ ⟨flo (sA s 11 i k - 1).toNat w (ndy (sA s 300 i) (sA s 302 i)) c1, ?_⟩
      rw [spI, if_pos ⟨h1, e2⟩]
  · obtain ⟨c1, rfl⟩ := hJ
    rw [f_X2_spreadLeast_9]
    exact ok_pos (by rw [mI]; omega) (hK c1)
theorem k_spreadMost_9 {m : Nat} (i c n w : Nat) (s : pS) (b l : Nat → UInt32) (ch : Nat → Int) (K : Int → pS → Option pS) (P : pS → Prop) (hX : cax s i c n) (hw : w ≤ 4) (hw2 : 2 ≤ w) (hm2 : 14 ≤ m) (hm : m + n ≤ 90) (hb : ∀ t, t < c → fb m (l t) ∧ nn (l t))
    (hK : ∀ ch', ok (K w (mk3 s i b (spI (wid (sA s 302 i)) (sA s 11 i) (sA s 5 i) (sB s 7 i) (sF s 2 i) w l n) ch')) P) : ok (f_X2_spreadMost_9 i K 400 w 0 (mk3 s i b l ch)) P := by
  obtain ⟨hc, hc2, hn, hn2, hit, hsg, hne, ht⟩ := hX
  have hin : ∀ j, j < n → sA s 11 i j ≠ 0 → sA s 5 i j = (w : Int) → (sA s 11 i j - 1).toNat + w ≤ c := by
    intro j hj h1 h2
    have := hit j hj
    have h3 := this.2.2.2 h1
    omega
  have hxs : ∀ j, j < n → fb 12 ((sB s 7 i) j) ∧ nn ((sB s 7 i) j) := fun j hj => ⟨(hne j (by omega)).2.2.2, (hne j (by omega)).2.2.1⟩
  have B : ∀ k, k ≤ n → ∀ t, t < c → fb (m + k) ((spI (wid (sA s 302 i)) (sA s 11 i) (sA s 5 i) (sB s 7 i) (sF s 2 i) w l k) t) ∧ nn ((spI (wid (sA s 302 i)) (sA s 11 i) (sA s 5 i) (sB s 7 i) (sF s 2 i) w l k) t) := fun k hk => spI_q hb hw ⟨hsg.2.2.2, hsg.2.2.1⟩ hm2 (by omega) (fun j hj => hin j (by omega)) (fun j hj => hxs j (by omega))
  refine itJ (fun r k u => f_X2_spreadMost_9 i K r w (k : Int) u) (fun k u => ∃ ch', u = mk3 s i b (spI (wid (sA s 302 i)) (sA s 11 i) (sA s 5 i) (sB s 7 i) (sF s 2 i) w l k) ch') n P (fun r k u hk hJ ih => ?_) (fun r u hJ => ?_) 400 0 _ (by omega) (by omega) ⟨ch, rfl⟩
  · obtain ⟨c1, rfl⟩ := hJ
    rw [f_X2_spreadMost_9]
    unfold f_X2_spreadMost_65
    try simp only [m9, m203, m204, mI, mF, m300, m302, m11, m5, m301, m303, m6, m7, mk3_9, mk3_203, mk3_204, nnat, ion]
    refine ok_neg (by omega) (ok_ck (by omega) (ok_if (fun h1 => ok_ck (inR_of (by omega)) ?_) (fun h1 => ok_ck (by omega) (ok_if (fun h2 => ok_ck (inR_of (by omega)) ?_) (fun h2 => ?_)))))
    · refine ih _ ⟨c1, ?_⟩
      rw [spI, if_neg (by omega)]
    · refine ih _ ⟨c1, ?_⟩
      rw [spI, if_neg (by omega)]
    · have hj := hin k hk h1 (by omega)
      have hj0 := (hit k hk).1
      have e1 : sA s 11 i k = (((sA s 11 i k - 1).toNat : Nat) : Int) + 1 := by omega
      have e2 : sA s 5 i k = (w : Int) := by omega
      refine ok_ck (by omega) (ok_eq (k_chooseWide i k s _ w _ _ _ (by omega) e1 e2 (by omega)) ?_)
      refine ok_eq (k_spread_203 (m := m + k) i k s _ w _ _ _ (wid (sA s 302 i)) _ (by omega) e1 e2 (by omega) hw (hxs k hk).1 (hxs k hk).2 ⟨hsg.2.2.2, hsg.2.2.1⟩ (fun t q1 q2 => B k (by omega) t (by omega)) (by omega) (by omega) (fun t q1 q2 => flo_in ⟨q1, q2⟩)) (ok_ck (inR_of (by omega)) ?_)
      refine ih _ ⟨flo (sA s 11 i k - 1).toNat w (wid (sA s 302 i)) c1, ?_⟩
      rw [spI, if_pos ⟨h1, e2⟩]
  · obtain ⟨c1, rfl⟩ := hJ
    rw [f_X2_spreadMost_9]
    exact ok_pos (by rw [mI]; omega) (hK c1)
theorem k_spreadLeast {m : Nat} (i c n : Nat) (s : pS) (b l : Nat → UInt32) (ch : Nat → Int) (hX : cax s i c n) (hm2 : 14 ≤ m) (hm : m ≤ 60) (hb : ∀ t, t < c → fb m (b t) ∧ nn (b t)) (hl : ∀ t, t < c → fb (m + 30) (l t)) :
    ok (f_X2_spreadLeast i (mk3 s i b l ch)) (fun u => ∃ ch', u = mk3 s i (spA (ndy (sA s 300 i) (sA s 302 i)) (sA s 11 i) (sA s 5 i) (sB s 6 i) (sF s 2 i) n b) (rz (spA (ndy (sA s 300 i) (sA s 302 i)) (sA s 11 i) (sA s 5 i) (sB s 6 i) (sF s 2 i) n b) l c) ch') := by
  have hX' := hX
  obtain ⟨hc, hc2, hn, hn2, hit, hsg, hne, ht⟩ := hX'
  have hh : ∀ w : Nat, ∀ j, j < n → sA s 11 i j ≠ 0 → sA s 5 i j = (w : Int) → (sA s 11 i j - 1).toNat + w ≤ c := by
    intro w j hj h1 h2
    have := hit j hj
    have h3 := this.2.2.2 h1
    omega
  have hxs : ∀ j, j < n → fb 12 (sB s 6 i j) ∧ nn (sB s 6 i j) := fun j hj => ⟨(hne j (by omega)).2.1, (hne j (by omega)).1⟩
  have r2 := spI_q (m := m) (w := 2) (n := n) hb (by omega) ⟨hsg.2.2.2, hsg.2.2.1⟩ hm2 (by omega) (hh 2) hxs (p := (ndy (sA s 300 i) (sA s 302 i)))
  have r3 := spI_q (m := m + n) (w := 3) (n := n) r2 (by omega) ⟨hsg.2.2.2, hsg.2.2.1⟩ (by omega) (by omega) (hh 3) hxs (p := (ndy (sA s 300 i) (sA s 302 i)))
  have r4 := spI_q (m := m + n + n) (w := 4) (n := n) r3 (by omega) ⟨hsg.2.2.2, hsg.2.2.1⟩ (by omega) (by omega) (hh 4) hxs (p := (ndy (sA s 300 i) (sA s 302 i)))
  unfold f_X2_spreadLeast
  rw [f_X2_spreadLeast_2]
  refine ok_neg (by decide) (k_spreadLeast_9 (m := m) i c n 2 s b l ch _ _ hX (by omega) (by omega) (by omega) (by omega) hb (fun c1 => ok_ck (inR_of (by decide)) ?_))
  rw [f_X2_spreadLeast_2]
  refine ok_neg (by decide) (k_spreadLeast_9 (m := m + n) i c n 3 s _ l c1 _ _ hX (by omega) (by omega) (by omega) (by omega) r2 (fun c2 => ok_ck (inR_of (by decide)) ?_))
  rw [f_X2_spreadLeast_2]
  refine ok_neg (by decide) (k_spreadLeast_9 (m := m + n + n) i c n 4 s _ l c2 _ _ hX (by omega) (by omega) (by omega) (by omega) r3 (fun c3 => ok_ck (inR_of (by decide)) ?_))
  rw [f_X2_spreadLeast_2]
  refine ok_pos (by decide) ?_
  exact ok_eq (k_raiseLimits (m := m + 30) i c s _ _ _ hc hc2 (fun t h => fb_le (r4 t h).1 (by omega)) hl (by omega)) (ok_some ⟨c3, rfl⟩)
theorem k_spreadMost {m : Nat} (i c n : Nat) (s : pS) (b l : Nat → UInt32) (ch : Nat → Int) (hX : cax s i c n) (hm2 : 14 ≤ m) (hm : m ≤ 60) (hb : ∀ t, t < c → fb m (l t) ∧ nn (l t)) :
    ok (f_X2_spreadMost i (mk3 s i b l ch)) (fun u => ∃ ch', u = mk3 s i b (spA (wid (sA s 302 i)) (sA s 11 i) (sA s 5 i) (sB s 7 i) (sF s 2 i) n l) ch') := by
  have hX' := hX
  obtain ⟨hc, hc2, hn, hn2, hit, hsg, hne, ht⟩ := hX'
  have hh : ∀ w : Nat, ∀ j, j < n → sA s 11 i j ≠ 0 → sA s 5 i j = (w : Int) → (sA s 11 i j - 1).toNat + w ≤ c := by
    intro w j hj h1 h2
    have := hit j hj
    have h3 := this.2.2.2 h1
    omega
  have hxs : ∀ j, j < n → fb 12 (sB s 7 i j) ∧ nn (sB s 7 i j) := fun j hj => ⟨(hne j (by omega)).2.2.2, (hne j (by omega)).2.2.1⟩
  have r2 := spI_q (m := m) (w := 2) (n := n) hb (by omega) ⟨hsg.2.2.2, hsg.2.2.1⟩ hm2 (by omega) (hh 2) hxs (p := (wid (sA s 302 i)))
  have r3 := spI_q (m := m + n) (w := 3) (n := n) r2 (by omega) ⟨hsg.2.2.2, hsg.2.2.1⟩ (by omega) (by omega) (hh 3) hxs (p := (wid (sA s 302 i)))
  unfold f_X2_spreadMost
  rw [f_X2_spreadMost_2]
  refine ok_neg (by decide) (k_spreadMost_9 (m := m) i c n 2 s b l ch _ _ hX (by omega) (by omega) (by omega) (by omega) hb (fun c1 => ok_ck (inR_of (by decide)) ?_))
  rw [f_X2_spreadMost_2]
  refine ok_neg (by decide) (k_spreadMost_9 (m := m + n) i c n 3 s b _ c1 _ _ hX (by omega) (by omega) (by omega) (by omega) r2 (fun c2 => ok_ck (inR_of (by decide)) ?_))
  rw [f_X2_spreadMost_2]
  refine ok_neg (by decide) (k_spreadMost_9 (m := m + n + n) i c n 4 s b _ c2 _ _ hX (by omega) (by omega) (by omega) (by omega) r3 (fun c3 => ok_ck (inR_of (by decide)) ?_))
  rw [f_X2_spreadMost_2]
  exact ok_pos (by decide) (ok_some ⟨c3, rfl⟩)
/-! growth -/
def cg (b l : Nat → UInt32) : Nat → Nat
  | 0 => 0
  | k + 1 => cg b l k + (if fk (b k) < fk (l k) then 1 else 0)
theorem cg_le (b l : Nat → UInt32) : ∀ k, cg b l k ≤ k
  | 0 => Nat.le_refl _
  | k + 1 => by
    have := cg_le b l k
    show cg b l k + (if fk (b k) < fk (l k) then 1 else 0) ≤ k + 1
    split <;> omega
def gB (b l : Nat → UInt32) (y : UInt32) : Nat → UInt32 := fun t => if fk (b t) < fk (l t) then (if fk y < fk (FP.fsub (l t) (b t)) then FP.fadd (b t) y else l t) else b t
def gx (b l : Nat → UInt32) (y x : UInt32) : Nat → UInt32
  | 0 => x
  | k + 1 => if fk (b k) < fk (l k) then FP.fsub (gx b l y x k) (mn (FP.fsub (l k) (b k)) y) else gx b l y x k
theorem k_countGrowing {m : Nat} (i c : Nat) (s : pS) (b l : Nat → UInt32) (ch : Nat → Int) (hc : sI s 8 i = (c : Int)) (hc2 : c ≤ 12) (hb : ∀ t, t < c → fb m (b t)) (hl : ∀ t, t < c → fb m (l t)) (hm : m ≤ 127) :
    f_X2_countGrowing i (mk3 s i b l ch) = some ((cg b l c : Int), mk3 s i b l ch) := by
  refine of_ok ?_
  unfold f_X2_countGrowing
  refine itS (fun r k => f_X2_countGrowing_4 i (fun x1 s1 => some (x1, s1)) r (cg b l k : Int) (k : Int) (mk3 s i b l ch)) c _ (fun r k hk ih => ?_) (fun r => ?_) 400 0 (by omega) (by omega)
  · rw [f_X2_countGrowing_4]
    have hcl := cg_le b l k
    unfold f_X2_countGrowing_34
    try simp only [m9, m203, m204, mI, mF, m300, m302, m11, m5, m301, m303, m6, m7, mk3_9, mk3_203, mk3_204, nnat, ion]
    have q := (fc_lt (fb_nan (hb k hk) hm) (fb_nan (hl k hk) hm) .g).2.2.1
    refine ok_neg (by omega) (ok_ck (by omega) (ok_ck (by omega) (ok_if (fun g => ok_ck (inR_of (by omega)) ?_) (fun g => ok_ck (inR_of (by omega)) (ok_ck (inR_of (by omega)) ?_)))))
    · rw [cg, if_neg (by have := q.mp g; omega)] at ih
      exact ih
    · rw [cg, if_pos (Int.not_le.mp (fun hx => g (q.mpr hx)))] at ih
      exact ih
  · rw [f_X2_countGrowing_4]
    exact ok_pos (by rw [mI]; omega) (ok_some rfl)
theorem gets_q {m : Nat} {b l y : UInt32} (hb : fb m b) (hl : fb m l) (hm : m ≤ 110) (h : fk b < fk l) (hy : fb 14 y) (hyn : nn y) : fb 14 (mn (FP.fsub l b) y) ∧ 0 ≤ fk (mn (FP.fsub l b) y) := by
  have h0 := sub_ge0 hl hb (by omega) (by omega)
  have hy0 : 0 ≤ fk y := by rw [fk_nn hyn]; omega
  unfold mn
  split
  · exact ⟨hy, hy0⟩
  · exact ⟨fb_between h0 (by omega) hy hyn, h0⟩
theorem gx_q {m c : Nat} {b l : Nat → UInt32} {x y : UInt32} (hb : ∀ t, t < c → fb m (b t)) (hl : ∀ t, t < c → fb m (l t)) (hm : m ≤ 110) (hx : fb 14 x) (hy : fb 14 y) (hyn : nn y) : ∀ {k : Nat}, k ≤ c → k ≤ 12 → fb (14 + k) (gx b l y x k) ∧ fk (gx b l y x k) ≤ fk x
  | 0, _, _ => ⟨hx, Int.le_refl _⟩
  | k + 1, h1, h2 => by
    have ih := gx_q hb hl hm hx hy hyn (k := k) (by omega) (by omega)
    show fb (14 + (k + 1)) (if fk (b k) < fk (l k) then FP.fsub (gx b l y x k) (mn (FP.fsub (l k) (b k)) y) else gx b l y x k) ∧ fk (if fk (b k) < fk (l k) then FP.fsub (gx b l y x k) (mn (FP.fsub (l k) (b k)) y) else gx b l y x k) ≤ fk x
    split
    · rename_i h
      have hg := gets_q (hb k (by omega)) (hl k (by omega)) hm h hy hyn
      exact ⟨fb_sub (m := 14 + k) ih.1 (fb_le hg.1 (by omega)) (by omega), Int.le_trans (sub_le' ih.1 (fb_le hg.1 (by omega)) (by omega) hg.2) ih.2⟩
    · exact ⟨fb_le ih.1 (by omega), ih.2⟩
theorem gB_q {m : Nat} {b l : Nat → UInt32} {y : UInt32} {t : Nat} (hb : fb m (b t) ∧ nn (b t)) (hl : fb m (l t) ∧ nn (l t)) (hm : m ≤ 110) (hm2 : 14 ≤ m) (hy : fb 14 y) (hyn : nn y) : fb (m + 1) (gB b l y t) ∧ nn (gB b l y t) := by
  unfold gB
  split
  · split
    · exact ⟨fb_add hb.1 (fb_le hy (by omega)) (by omega), nn_add hb.1 (fb_le hy (by omega)) (by omega) hb.2 hyn⟩
    · exact ⟨fb_le hl.1 (by omega), hl.2⟩
  · exact ⟨fb_le hb.1 (by omega), hb.2⟩
theorem k_growOnce {m : Nat} (i c : Nat) (s : pS) (b l : Nat → UInt32) (ch : Nat → Int) (x y : UInt32) (hc : sI s 8 i = (c : Int)) (hc2 : c ≤ 12) (hb : ∀ t, t < c → fb m (b t)) (hl : ∀ t, t < c → fb m (l t)) (hm : m ≤ 110) (hm2 : 14 ≤ m) (hx : fb 14 x) (hy : fb 14 y) (hyn : nn y) :
    f_X2_growOnce i x y (mk3 s i b l ch) = some (gx b l y x c, mk3 s i (flo 0 c (gB b l y) b) l ch) := by
  refine of_ok ?_
  unfold f_X2_growOnce
  have h := itS (fun r k => f_X2_growOnce_5 i (fun x3 s1 => some (x3, s1)) r y (gx b l y x k) (k : Int) (mk3 s i (flo 0 k (gB b l y) b) l ch)) c (fun z => z = (gx b l y x c, mk3 s i (flo 0 c (gB b l y) b) l ch)) (fun r k hk ih => ?_) (fun r => ?_) 400 0 (by omega) (by omega)
  · rw [flo_0] at h
    exact h
  · rw [f_X2_growOnce_5]
    unfold f_X2_growOnce_103 f_X2_growOnce_109
    try simp only [m9, m203, m204, mI, mF, m300, m302, m11, m5, m301, m303, m6, m7, mk3_9, mk3_203, mk3_204, nnat, ion]
    rw [flo_at0]
    have hbk := hb k hk
    have hlk := hl k hk
    have q := (fc_lt (fb_nan hbk (by omega)) (fb_nan hlk (by omega)) .g).2.2.1
    have hxk := gx_q (k := k) hb hl hm hx hy hyn (by omega) (by omega)
    refine ok_neg (by omega) (ok_ck (by omega) (ok_ck (by omega) (ok_if (fun g => ok_ck (inR_of (by omega)) ?_) (fun g => ?_))))
    · rw [gx, if_neg (by have := q.mp g; omega)] at ih
      rw [flo_skip0 (by unfold gB; rw [if_neg (by have := q.mp g; omega)])] at ih
      exact ih
    · have g1 : fk (b k) < fk (l k) := Int.not_le.mp (fun hx => g (q.mpr hx))
      have hr := fb_sub hlk hbk (by omega)
      have hg := gets_q hbk hlk hm g1 hy hyn
      rw [gx, if_pos g1] at ih
      refine ok_ck (by omega) (ok_ck (by omega) (ok_ck (fb_n32 hr (by omega)) (ok_eq (k_lesser (m := m + 1) _ (by omega) hr (fb_le hy (by omega))) ?_)))
      try simp only [m9, m203, m204, mI, mF, m300, m302, m11, m5, m301, m303, m6, m7, mk3_9, mk3_203, mk3_204, nnat, ion]
      rw [flo_at0]
      have q2 := (fc_lt (fb_nan hg.1 (by omega)) (fb_nan hr (by omega)) .g).2.2.1
      refine ok_ck (by omega) (ok_ck (by omega) (ok_ck (fb_n32 hr (by omega)) (ok_if (fun g2 => ?_) (fun g2 => ?_))))
      · have g3 : ¬ fk y < fk (FP.fsub (l k) (b k)) := by
          intro hx
          have := q2.mp g2
          unfold mn at this
          rw [if_pos hx] at this
          omega
        refine ok_ck (by omega) (ok_ck (by omega) (ok_bs (ok_ck (fb_n32 (fb_sub hxk.1 (fb_le hg.1 (by omega)) (by omega)) (by omega)) (ok_bs (ok_ck (inR_of (by omega)) ?_)))))
        rw [flo_up0 (by unfold gB; rw [if_pos g1, if_neg g3])]
        exact ih
      · have g3 : fk y < fk (FP.fsub (l k) (b k)) := by
          refine Int.not_le.mp (fun hx => g2 (q2.mpr ?_))
          unfold mn
          rw [if_neg (by omega)]
          exact Int.le_refl _
        have e : mn (FP.fsub (l k) (b k)) y = y := if_pos g3
        rw [e] at ih hg ⊢
        refine ok_ck (by omega) (ok_ck (fb_n32 (fb_add hbk (fb_le hy (by omega)) (by omega)) (by omega)) (ok_ck (by omega) (ok_bs (ok_ck (fb_n32 (fb_sub hxk.1 (fb_le hg.1 (by omega)) (by omega)) (by omega)) (ok_bs (ok_ck (inR_of (by omega)) ?_))))))
        rw [flo_up0 (by unfold gB; rw [if_pos g1, if_pos g3])]
        exact ih
  · rw [f_X2_growOnce_5]
    exact ok_pos (by rw [mI]; omega) (ok_some rfl)
/-- at most r rounds of growth -/
def grw (l : Nat → UInt32) (c : Nat) : Nat → (Nat → UInt32) → UInt32 → Nat → UInt32
  | 0, b, _ => b
  | r + 1, b, x => if fk x ≤ 0 then b else if cg b l c = 0 then b else grw l c r (flo 0 c (gB b l (FP.fdiv x (FP.i2f (Int32.ofInt (cg b l c : Int))))) b) (gx b l (FP.fdiv x (FP.i2f (Int32.ofInt (cg b l c : Int)))) x c)
theorem k_growTo {i c : Nat} {s : pS} {l : Nat → UInt32} {ch : Nat → Int} (hc : sI s 8 i = (c : Int)) (hc2 : c ≤ 12) (hl : ∀ t, t < c → fb 74 (l t) ∧ nn (l t)) : ∀ (r n : Nat) (b : Nat → UInt32) (x : UInt32), r < n → r ≤ 16 → (∀ t, t < c → fb (90 - r) (b t) ∧ nn (b t)) → fb 120 x → (0 < fk x → fb 12 x) → ok (f_X2_growToLimits_7 i (fun s2 => f_X2_growToLimits_45 i s2) n x (16 - (r : Int)) (mk3 s i b l ch)) (fun u => u = mk3 s i (grw l c r b x) l ch ∧ ∀ t, t < c → fb 90 (grw l c r b x t) ∧ nn (grw l c r b x t))
  | 0, n, b, x, h1, h2, hb, hx, hx2 => by
    obtain ⟨n, rfl⟩ : ∃ k, n = k + 1 := ⟨n - 1, by omega⟩
    rw [f_X2_growToLimits_7]
    exact ok_pos (by omega) (ok_some ⟨rfl, hb⟩)
  | r + 1, n, b, x, h1, h2, hb, hx, hx2 => by
    obtain ⟨n, rfl⟩ : ∃ k, n = k + 1 := ⟨n - 1, by omega⟩
    have hb' : ∀ t, t < c → fb 90 (b t) ∧ nn (b t) := fun t ht => ⟨fb_le (hb t ht).1 (by omega), (hb t ht).2⟩
    have q := (fc_lt (fb_nan hx (by omega)) (fb_nan (fb0 0) (by omega)) .l).2.1
    rw [show fk FP.fconst0 = 0 from rfl] at q
    rw [f_X2_growToLimits_7, grw]
    refine ok_neg (by omega) (ok_if (fun g => ?_) (fun g => ?_))
    · rw [if_pos (q.mp g)]
      exact ok_some ⟨rfl, hb'⟩
    · have g1 : 0 < fk x := Int.not_le.mp (fun hx => g (q.mpr hx))
      have hcl := cg_le b l c
      rw [if_neg (fun hx => g (q.mpr hx))]
      refine ok_eq (k_countGrowing (m := 90) i c s b l ch hc hc2 (fun t ht => (hb' t ht).1) (fun t ht => fb_le (hl t ht).1 (by omega)) (by omega)) ?_
      dsimp only
      refine ok_if (fun g2 => ?_) (fun g2 => ?_)
      · have hxx := hx2 g1
        have hxn := fk_pos_nn g1
        have p1 := part_fb (n := cg b l c) hxx (by omega) (by omega) (by omega)
        have p2 := part_nn (n := cg b l c) hxx hxn (by omega) (by omega) (by omega)
        rw [if_neg (by omega)]
        refine ok_ck (fb_n32 p1 (by omega)) (ok_eq (k_growOnce (m := 90 - (r + 1)) i c s b l ch x _ hc hc2 (fun t ht => (hb t ht).1) (fun t ht => fb_le (hl t ht).1 (by omega)) (by omega) (by omega) (fb_le hxx (by omega)) p1 p2) (ok_ck (inR_of (by omega)) ?_))
        have hgx := gx_q (k := c) (fun t ht => (hb t ht).1) (fun t ht => fb_le (hl t ht).1 (show 74 ≤ 90 - (r + 1) by omega)) (by omega) (fb_le hxx (by omega)) p1 p2 (Nat.le_refl _) hc2
        have h := k_growTo hc hc2 hl r n (flo 0 c (gB b l (FP.fdiv x (FP.i2f (Int32.ofInt (cg b l c : Int))))) b) (gx b l (FP.fdiv x (FP.i2f (Int32.ofInt (cg b l c : Int)))) x c) (by omega) (by omega) (fun t ht => by
          rw [flo_in (by omega)]
          have := gB_q (m := 90 - (r + 1)) (hb t ht) ⟨fb_le (hl t ht).1 (by omega), (hl t ht).2⟩ (by omega) (by omega) p1 p2
          exact ⟨fb_le this.1 (by omega), this.2⟩) (fb_le hgx.1 (by omega)) (fun h0 => (pos_fb hxx hxn h0 hgx.2).1) (ch := ch)
        rw [show (16 : Int) - ((r + 1 : Nat) : Int) + 1 = 16 - (r : Int) by omega]
        exact h
      · rw [if_pos (by omega)]
        exact ok_some ⟨rfl, hb'⟩
theorem k_growToLimits (i c n : Nat) (s : pS) (b l : Nat → UInt32) (ch : Nat → Int) (hX : cax s i c n) (hb : ∀ t, t < c → fb 74 (b t) ∧ nn (b t)) (hl : ∀ t, t < c → fb 74 (l t) ∧ nn (l t)) :
    ok (f_X2_growToLimits i (mk3 s i b l ch)) (fun u => u = mk3 s i (grw l c 16 b (rst (sF s 1 i) b (sF s 2 i) c)) l ch ∧ ∀ t, t < c → fb 90 (grw l c 16 b (rst (sF s 1 i) b (sF s 2 i) c) t) ∧ nn (grw l c 16 b (rst (sF s 1 i) b (sF s 2 i) c) t)) := by
  obtain ⟨hc, hc2, hn, hn2, hit, hsg, hne, ht⟩ := hX
  unfold f_X2_growToLimits
  have h1 := k_restOfSpace (m := 74) i c (mk3 s i b l ch) hc hc2 (fb_le hsg.2.1 (by omega)) (fb_le hsg.2.2.2 (by omega)) (fun t h => by rw [m9]; exact (hb t h).1) (by omega)
  rw [m9] at h1
  refine ok_eq h1 ?_
  have h2 := rst_fb (m := 74) (c := c) (b := b) (fb_le hsg.2.1 (by omega)) (fb_le hsg.2.2.2 (by omega)) (fun t h => (hb t h).1) hc2 (by omega)
  have h3 := rst_le (m := 74) (c := c) (b := b) (fb_le hsg.2.1 (by omega)) ⟨fb_le hsg.2.2.2 (by omega), hsg.2.2.1⟩ hb hc2 (by omega)
  exact k_growTo hc hc2 hl 16 400 b (rst (sF s 1 i) b (sF s 2 i) c) (by omega) (by omega) hb (fb_le h2 (by omega)) (fun h0 => (pos_fb hsg.2.1 hsg.1 h0 h3).1)
