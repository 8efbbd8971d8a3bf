/-! ===== SIZING: the reference (written by wip/whole/gen_mod.py) ===== -/
def mk6 (s : pS) (a : Nat) (b l : Nat → UInt32) (e c d : Nat → Int) : pS := wA (wA (wA (wB (wB s 634 0 (pt a (sB s 634 0) b)) 635 0 (pt a (sB s 635 0) l)) 636 0 (pt a (sA s 636 0) e)) 643 0 c) 644 0 d
theorem mk6_self (s : pS) (a : Nat) : mk6 s a (fun t => sB s 634 0 (12 * a + t)) (fun t => sB s 635 0 (12 * a + t)) (fun t => sA s 636 0 (12 * a + t)) (sA s 643 0) (sA s 644 0) = s := by
  unfold mk6
  rw [pt_self, pt_self, pt_self, wB_self, wB_self, wA_self, wA_self, wA_self]
theorem n634 (s : pS) (a : Nat) (b l : Nat → UInt32) (e c d : Nat → Int) : sB (mk6 s a b l e c d) 634 0 = pt a (sB s 634 0) b := rfl
theorem n635 (s : pS) (a : Nat) (b l : Nat → UInt32) (e c d : Nat → Int) : sB (mk6 s a b l e c d) 635 0 = pt a (sB s 635 0) l := rfl
theorem n636 (s : pS) (a : Nat) (b l : Nat → UInt32) (e c d : Nat → Int) : sA (mk6 s a b l e c d) 636 0 = pt a (sA s 636 0) e := rfl
theorem n643 (s : pS) (a : Nat) (b l : Nat → UInt32) (e c d : Nat → Int) : sA (mk6 s a b l e c d) 643 0 = c := rfl
theorem n644 (s : pS) (a : Nat) (b l : Nat → UInt32) (e c d : Nat → Int) : sA (mk6 s a b l e c d) 644 0 = d := rfl
theorem n6I (s : pS) (a : Nat) (b l : Nat → UInt32) (e c d : Nat → Int) (f j : Nat) : sI (mk6 s a b l e c d) f j = sI s f j := rfl
theorem n6F (s : pS) (a : Nat) (b l : Nat → UInt32) (e c d : Nat → Int) (f j : Nat) : sF (mk6 s a b l e c d) f j = sF s f j := rfl
theorem u634 (s : pS) (a : Nat) (b l b' : Nat → UInt32) (e c d : Nat → Int) : wB (mk6 s a b l e c d) 634 0 (pt a (sB s 634 0) b') = mk6 s a b' l e c d := by
  have h : wB (wB (wB s 634 0 (pt a (sB s 634 0) b)) 635 0 (pt a (sB s 635 0) l)) 634 0 (pt a (sB s 634 0) b') = wB (wB s 634 0 (pt a (sB s 634 0) b')) 635 0 (pt a (sB s 635 0) l) := by
    rw [wB_comm _ _ _ (by decide : 635 ≠ 634), wB_wB]
  unfold mk6
  exact congrArg (fun z => wA (wA (wA z 636 0 (pt a (sA s 636 0) e)) 643 0 c) 644 0 d) h
theorem u635 (s : pS) (a : Nat) (b l l' : Nat → UInt32) (e c d : Nat → Int) : wB (mk6 s a b l e c d) 635 0 (pt a (sB s 635 0) l') = mk6 s a b l' e c d := by
  have h : wB (wB (wB s 634 0 (pt a (sB s 634 0) b)) 635 0 (pt a (sB s 635 0) l)) 635 0 (pt a (sB s 635 0) l') = wB (wB s 634 0 (pt a (sB s 634 0) b)) 635 0 (pt a (sB s 635 0) l') := wB_wB _ _ _ _ _
  unfold mk6
  exact congrArg (fun z => wA (wA (wA z 636 0 (pt a (sA s 636 0) e)) 643 0 c) 644 0 d) h
theorem u636 (s : pS) (a : Nat) (b l : Nat → UInt32) (e e' c d : Nat → Int) : wA (mk6 s a b l e c d) 636 0 (pt a (sA s 636 0) e') = mk6 s a b l e' c d := by
  unfold mk6
  rw [wA_comm _ _ _ (by decide : 644 ≠ 636), wA_comm _ _ _ (by decide : 643 ≠ 636), wA_wA]
theorem u643 (s : pS) (a : Nat) (b l : Nat → UInt32) (e c d c' : Nat → Int) : wA (mk6 s a b l e c d) 643 0 c' = mk6 s a b l e c' d := by
  unfold mk6
  rw [wA_comm _ _ _ (by decide : 644 ≠ 643), wA_wA]
theorem u644 (s : pS) (a : Nat) (b l : Nat → UInt32) (e c d d' : Nat → Int) : wA (mk6 s a b l e c d) 644 0 d' = mk6 s a b l e c d' := by
  unfold mk6
  rw [wA_wA]
theorem n633 (s : pS) (a : Nat) (b l : Nat → UInt32) (e c d : Nat → Int) : sA (mk6 s a b l e c d) 633 0 = sA s 633 0 := rfl
theorem n604 (s : pS) (a : Nat) (b l : Nat → UInt32) (e c d : Nat → Int) : sA (mk6 s a b l e c d) 604 0 = sA s 604 0 := rfl
theorem n605 (s : pS) (a : Nat) (b l : Nat → UInt32) (e c d : Nat → Int) : sA (mk6 s a b l e c d) 605 0 = sA s 605 0 := rfl
theorem n606 (s : pS) (a : Nat) (b l : Nat → UInt32) (e c d : Nat → Int) : sA (mk6 s a b l e c d) 606 0 = sA s 606 0 := rfl
theorem n631 (s : pS) (a : Nat) (b l : Nat → UInt32) (e c d : Nat → Int) : sA (mk6 s a b l e c d) 631 0 = sA s 631 0 := rfl
theorem n621 (s : pS) (a : Nat) (b l : Nat → UInt32) (e c d : Nat → Int) : sA (mk6 s a b l e c d) 621 0 = sA s 621 0 := rfl
theorem n628 (s : pS) (a : Nat) (b l : Nat → UInt32) (e c d : Nat → Int) : sA (mk6 s a b l e c d) 628 0 = sA s 628 0 := rfl
theorem n607 (s : pS) (a : Nat) (b l : Nat → UInt32) (e c d : Nat → Int) : sB (mk6 s a b l e c d) 607 0 = sB s 607 0 := rfl
theorem n608 (s : pS) (a : Nat) (b l : Nat → UInt32) (e c d : Nat → Int) : sB (mk6 s a b l e c d) 608 0 = sB s 608 0 := rfl
theorem n622 (s : pS) (a : Nat) (b l : Nat → UInt32) (e c d : Nat → Int) : sB (mk6 s a b l e c d) 622 0 = sB s 622 0 := rfl
theorem n623 (s : pS) (a : Nat) (b l : Nat → UInt32) (e c d : Nat → Int) : sB (mk6 s a b l e c d) 623 0 = sB s 623 0 := rfl
theorem n626 (s : pS) (a : Nat) (b l : Nat → UInt32) (e c d : Nat → Int) : sB (mk6 s a b l e c d) 626 0 = sB s 626 0 := rfl
theorem n627 (s : pS) (a : Nat) (b l : Nat → UInt32) (e c d : Nat → Int) : sB (mk6 s a b l e c d) 627 0 = sB s 627 0 := rfl
theorem n638 (s : pS) (a : Nat) (b l : Nat → UInt32) (e c d : Nat → Int) : sB (mk6 s a b l e c d) 638 0 = sB s 638 0 := rfl
/-- what is known of the axis a in the reference -/
def mv (s : pS) (a c n : Nat) (lo hi ln sp : Nat → Int) (lnu hn le mo : Nat → UInt32) (spc g : UInt32) (how : Int) : Prop :=
  a < 2 ∧ sA s 633 0 a = (c : Int) ∧ c ≤ 12 ∧ sI s 619 0 = (n : Int) ∧ n ≤ 10
  ∧ (∀ t, t < c → (if sA s 604 0 a ≤ (t : Int) then 3 else sA s 605 0 (12 * a + t)) = lo t ∧ (if sA s 604 0 a ≤ (t : Int) then 3 else sA s 606 0 (12 * a + t)) = hi t ∧ (lo t = 0 → sB s 607 0 (12 * a + t) = lnu t) ∧ (lo t ≠ 0 → lnu t = FP.fconst0) ∧ (hi t = 0 ∨ hi t = 4 ∨ hi t = 5 → sB s 608 0 (12 * a + t) = hn t) ∧ 0 ≤ hi t ∧ hi t ≤ 5 ∧ nn (lnu t) ∧ fb 14 (lnu t) ∧ nn (hn t) ∧ fb 14 (hn t))
  ∧ (∀ j, j < n → sA s 631 0 (2 * j + a) = ln j ∧ sA s 621 0 (2 * j + a) = sp j ∧ sB s 622 0 (2 * j + a) = le j ∧ sB s 623 0 (2 * j + a) = mo j ∧ 0 ≤ ln j ∧ 1 ≤ sp j ∧ sp j ≤ 4 ∧ (ln j ≠ 0 → ln j - 1 + sp j ≤ (c : Int)) ∧ nn (le j) ∧ fb 12 (le j) ∧ nn (mo j) ∧ fb 12 (mo j))
  ∧ sB s 626 0 a = spc ∧ sB s 627 0 a = g ∧ sA s 628 0 a = how ∧ nn spc ∧ fb 12 spc ∧ nn g ∧ fb 12 g
section
variable {s : pS} {a c n : Nat} {lo hi ln sp : Nat → Int} {lnu hn le mo : Nat → UInt32} {spc g : UInt32} {how : Int}
theorem k6_highOf (hV : mv s a c n lo hi ln sp lnu hn le mo spc g how) (S : pS) (h1 : sA S 604 0 = sA s 604 0) (h2 : sA S 606 0 = sA s 606 0) (t : Nat) (ht : t < c) : f_X6_highOf a t S = some (hi t, S) := by
  obtain ⟨ha, hc, hc2, hn', hn2, hT, -⟩ := hV
  have h3 := (hT t ht).2.1
  refine of_ok ?_
  unfold f_X6_highOf f_X6_highOf_25
  rw [nnat, h1, h2]
  refine ok_ck (by omega) (ok_if (fun q => ok_some ?_) (fun q => ok_ck (inR_of (by omega)) (ok_ck (inR_of (by omega)) (ok_ck (by omega) (ok_some ?_)))))
  · rw [if_pos q] at h3; rw [h3]
  · rw [if_neg q] at h3; rw [i12, h3]
theorem k6_lowOf (hV : mv s a c n lo hi ln sp lnu hn le mo spc g how) (S : pS) (h1 : sA S 604 0 = sA s 604 0) (h2 : sA S 605 0 = sA s 605 0) (t : Nat) (ht : t < c) : f_X6_lowOf a t S = some (lo t, S) := by
  obtain ⟨ha, hc, hc2, hn', hn2, hT, -⟩ := hV
  have h3 := (hT t ht).1
  refine of_ok ?_
  unfold f_X6_lowOf f_X6_lowOf_25
  rw [nnat, h1, h2]
  refine ok_ck (by omega) (ok_if (fun q => ok_some ?_) (fun q => ok_ck (inR_of (by omega)) (ok_ck (inR_of (by omega)) (ok_ck (by omega) (ok_some ?_)))))
  · rw [if_pos q] at h3; rw [h3]
  · rw [if_neg q] at h3; rw [i12, h3]
theorem k6_hi (hV : mv s a c n lo hi ln sp lnu hn le mo spc g how) (b l : Nat → UInt32) (e ch d : Nat → Int) (t : Nat) (ht : t < c) : f_X6_highOf a t (mk6 s a b l e ch d) = some (hi t, mk6 s a b l e ch d) := k6_highOf hV (mk6 s a b l e ch d) rfl rfl t ht
theorem k6_lo (hV : mv s a c n lo hi ln sp lnu hn le mo spc g how) (b l : Nat → UInt32) (e ch d : Nat → Int) (t : Nat) (ht : t < c) : f_X6_lowOf a t (mk6 s a b l e ch d) = some (lo t, mk6 s a b l e ch d) := k6_lowOf hV (mk6 s a b l e ch d) rfl rfl t ht
theorem k6_raise {m : Nat} (s : pS) (a t : Nat) (b l : Nat → UInt32) (e ch d : Nat → Int) (ha : a < 2) (ht : t < 12) (hm : m ≤ 127) (he : e t = 0 → fb m (l t) ∧ fb m (b t)) :
    f_X6_raise (12 * (a : Int) + (t : Int)) (mk6 s a b l e ch d) = some (mk6 s a b (pm_up l t (if e t = 0 then mx (l t) (b t) else l t)) e ch d) := by
  refine of_ok ?_
  unfold f_X6_raise f_X6_raise_37
  try simp only [n634, n635, n636, n643, n644, n6I, n6F, u634, u635, u636, u643, u644, n633, n604, n605, n606, n631, n621, n628, n607, n608, n622, n623, n626, n627, n638, nnat, i12, i2, ion]
  rw [pt_at ht, pt_at ht, pt_at ht]
  refine ok_ck (by omega) (ok_if (fun q => ?_) (fun q => ?_))
  · rw [if_neg q, up_self]
    exact ok_some rfl
  · have q' : e t = 0 := Classical.not_not.mp q
    obtain ⟨h1, h2⟩ := he q'
    have hc := (fc_lt (fb_nan h1 hm) (fb_nan h2 hm) .g).2.2.1
    rw [if_pos q']
    unfold mx
    refine ok_ck (by omega) (ok_ck (by omega) (ok_if (fun r => ?_) (fun r => ?_)))
    · rw [if_neg (by have := hc.mp r; omega), up_self]
      exact ok_some rfl
    · rw [if_pos (Int.not_le.mp (fun h => r (hc.mpr h)))]
      refine ok_ck (by omega) (ok_ck (by omega) (ok_bs ?_))
      rw [pt_up ht, u635]
      exact ok_some rfl
/-! the beginning -/
def emB (hi : Nat → Int) : Nat → Int := fun t => if hi t = 0 ∨ hi t = 4 then 0 else 1
def lmB (hi : Nat → Int) (lnu hn : Nat → UInt32) : Nat → UInt32 := fun t => if hi t = 0 then mx (hn t) (lnu t) else if hi t = 4 then lnu t else FP.fconst0
theorem mx_self (x : UInt32) : mx x x = x := by
  unfold mx; split <;> rfl
theorem k6_begin (hV : mv s a c n lo hi ln sp lnu hn le mo spc g how) (b l : Nat → UInt32) (e ch d : Nat → Int) :
    f_X6_begin a (mk6 s a b l e ch d) = some (mk6 s a (flo 0 c lnu b) (flo 0 c (lmB hi lnu hn) l) (flo 0 c (emB hi) e) ch d) := by
  have hV' := hV
  obtain ⟨ha, hc, hc2, hn', hn2, hT, -⟩ := hV'
  refine of_ok ?_
  unfold f_X6_begin
  have h := itS (fun r k => f_X6_begin_2 (fun s1 => some s1) r a (k : Int) (mk6 s a (flo 0 k lnu b) (flo 0 k (lmB hi lnu hn) l) (flo 0 k (emB hi) e) ch d)) c (fun z => z = mk6 s a (flo 0 c lnu b) (flo 0 c (lmB hi lnu hn) l) (flo 0 c (emB hi) e) ch d) (fun r k hk ih => ?_) (fun r => ?_) 400 0 (by omega) (by omega)
  · rw [flo_0, flo_0, flo_0] at h
    exact h
  · obtain ⟨t1, t2, t3, t4, t5, t6, t7, t8, t9, t10, t11⟩ := hT k hk
    have hk12 : k < 12 := by omega
    rw [f_X6_begin_2]
    try simp only [n634, n635, n636, n643, n644, n6I, n6F, u634, u635, u636, u643, u644, n633, n604, n605, n606, n631, n621, n628, n607, n608, n622, n623, n626, n627, n638, nnat, i12, i2, ion]
    refine ok_ck (by omega) (ok_neg (by omega) (ok_ck (inR_of (by omega)) (ok_ck (inR_of (by omega)) (ok_bs ?_))))
    refine ok_eq (k6_hi hV _ _ _ _ _ k hk) (ok_eq (k6_lo hV _ _ _ _ _ k hk) ?_)
    dsimp only
    have key : ok (f_X6_begin_51 (f_X6_begin_2 (fun s1 => some s1) r) (fun s1 => some s1) a k (12 * (a : Int) + (k : Int)) (hi k) (12 * (a : Int) + (k : Int)) (lnu k) (mk6 s a (flo 0 k lnu b) (flo 0 k (lmB hi lnu hn) l) (flo 0 k (emB hi) e) ch d)) (fun z => z = mk6 s a (flo 0 c lnu b) (flo 0 c (lmB hi lnu hn) l) (flo 0 c (emB hi) e) ch d) := by
      unfold f_X6_begin_51 f_X6_begin_72 f_X6_begin_73 f_X6_begin_109
      try simp only [n634, n635, n636, n643, n644, n6I, n6F, u634, u635, u636, u643, u644, n633, n604, n605, n606, n631, n621, n628, n607, n608, n622, n623, n626, n627, n638, nnat, i12, i2, ion]
      refine ok_ck (by omega) (ok_bs ?_)
      rw [pt_up hk12, u634, flo_up0 rfl]
      have tail : ∀ (v : UInt32) (w : Int), w = emB hi k → (w = 0 → fb 14 v) → (if w = 0 then mx v (lnu k) else v) = lmB hi lnu hn k → ok (ck (0 ≤ 12 * (a : Int) + (k : Int) ∧ 12 * (a : Int) + (k : Int) < 24) (bs (wB (mk6 s a (flo 0 (k + 1) lnu b) (flo 0 k (lmB hi lnu hn) l) (flo 0 (k + 1) (emB hi) e) ch d) 635 0 (pm_up (pt a (sB s 635 0) (flo 0 k (lmB hi lnu hn) l)) (12 * a + k) v)) (fun s2 => (f_X6_raise (12 * (a : Int) + (k : Int)) s2).bind (fun q3 => ck (inR ((k : Int) + 1)) (f_X6_begin_2 (fun s1 => some s1) r a ((k : Int) + 1) q3))))) (fun z => z = mk6 s a (flo 0 c lnu b) (flo 0 c (lmB hi lnu hn) l) (flo 0 c (emB hi) e) ch d) := by
        intro v w hw hv hvv
        refine ok_ck (by omega) (ok_bs ?_)
        rw [pt_up hk12, u635]
        have e1 : flo 0 (k + 1) (emB hi) e k = w := by rw [flo_in (by omega), hw]
        have e2 : flo 0 (k + 1) lnu b k = lnu k := flo_in (by omega)
        refine ok_eq (k6_raise (m := 14) s a k _ _ _ _ _ ha hk12 (by omega) (fun h0 => ?_)) (ok_ck (inR_of (by omega)) ?_)
        · rw [e1] at h0
          rw [up_eq, e2]
          exact ⟨hv h0, t9⟩
        · rw [e1, e2, up_eq, hvv]
          have e3 : pm_up (pm_up (flo 0 k (lmB hi lnu hn) l) k v) k (lmB hi lnu hn k) = flo 0 (k + 1) (lmB hi lnu hn) l := by
            rw [← flo_up0 (v := lmB hi lnu hn k) rfl]
            funext j
            unfold pm_up
            split <;> rfl
          rw [e3]
          exact ih
      refine ok_if (fun q1 => ?_) (fun q1 => ?_)
      · have e1 : emB hi k = 0 := if_pos (Or.inl q1)
        refine ok_ck (by omega) (ok_ck (by simp) (ok_bs ?_))
        try simp only [n634, n635, n636, n643, n644, n6I, n6F, u634, u635, u636, u643, u644, n633, n604, n605, n606, n631, n621, n628, n607, n608, n622, n623, n626, n627, n638, nnat, i12, i2, ion]
        rw [pt_up hk12, u636, flo_up0 e1.symm]
        refine ok_neg (by omega) (ok_ck (by omega) ?_)
        try simp only [n634, n635, n636, n643, n644, n6I, n6F, u634, u635, u636, u643, u644, n633, n604, n605, n606, n631, n621, n628, n607, n608, n622, n623, n626, n627, n638, nnat, i12, i2, ion]
        rw [t5 (Or.inl q1)]
        exact tail (hn k) 0 e1.symm (fun _ => t11) (by rw [if_pos rfl]; unfold lmB; rw [if_pos q1])
      · refine ok_if (fun q2 => ?_) (fun q2 => ?_)
        · have e1 : emB hi k = 0 := if_pos (Or.inr q2)
          refine ok_ck (by omega) (ok_ck (by simp) (ok_bs ?_))
          try simp only [n634, n635, n636, n643, n644, n6I, n6F, u634, u635, u636, u643, u644, n633, n604, n605, n606, n631, n621, n628, n607, n608, n622, n623, n626, n627, n638, nnat, i12, i2, ion]
          rw [pt_up hk12, u636, flo_up0 e1.symm]
          refine ok_pos q1 (ok_neg (by omega) (ok_ck (by omega) ?_))
          try simp only [n634, n635, n636, n643, n644, n6I, n6F, u634, u635, u636, u643, u644, n633, n604, n605, n606, n631, n621, n628, n607, n608, n622, n623, n626, n627, n638, nnat, i12, i2, ion]
          rw [pt_at hk12, flo_in (by omega)]
          exact tail (lnu k) 0 e1.symm (fun _ => t9) (by rw [if_pos rfl]; unfold lmB; rw [if_neg q1, if_pos q2, mx_self])
        · have e1 : emB hi k = 1 := if_neg (by omega)
          refine ok_ck (by omega) (ok_ck (by simp) (ok_bs ?_))
          try simp only [n634, n635, n636, n643, n644, n6I, n6F, u634, u635, u636, u643, u644, n633, n604, n605, n606, n631, n621, n628, n607, n608, n622, n623, n626, n627, n638, nnat, i12, i2, ion]
          rw [pt_up hk12, u636, flo_up0 e1.symm]
          refine ok_pos q1 (ok_pos q2 ?_)
          exact tail FP.fconst0 1 e1.symm (fun h => absurd h (by decide)) (by rw [if_neg (by decide)]; unfold lmB; rw [if_neg q1, if_neg q2])
    refine ok_if (fun q => ?_) (fun q => ?_)
    · rw [t4 q] at key
      exact key
    · have q' : lo k = 0 := Classical.not_not.mp q
      refine ok_ck (by omega) ?_
      try simp only [n634, n635, n636, n643, n644, n6I, n6F, u634, u635, u636, u643, u644, n633, n604, n605, n606, n631, n621, n628, n607, n608, n622, n623, n626, n627, n638, nnat, i12, i2, ion]
      rw [t3 q']
      exact key
  · rw [f_X6_begin_2]
    try simp only [n634, n635, n636, n643, n644, n6I, n6F, u634, u635, u636, u643, u644, n633, n604, n605, n606, n631, n621, n628, n607, n608, n622, n623, n626, n627, n638, nnat, i12, i2, ion]
    exact ok_ck (by omega) (ok_pos (by omega) (ok_some rfl))
end
