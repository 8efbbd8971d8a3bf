/-! ===== SIZING: the reference, stretching, positions, extents (written by wip/whole/gen_mod9.py) ===== -/
theorem up_up {α : Type} (f : Nat → α) (k : Nat) (v w : α) : pm_up (pm_up f k v) k w = pm_up f k w := by
  funext j
  unfold pm_up
  split <;> rfl
theorem mk6_638 (s : pS) (a : Nat) (b l : Nat → UInt32) (e c d : Nat → Int) (v : Nat → UInt32) : wB (mk6 s a b l e c d) 638 0 v = mk6 (wB s 638 0 v) a b l e c d := by
  have h : wB (wB (wB s 634 0 (pt a (sB s 634 0) b)) 635 0 (pt a (sB s 635 0) l)) 638 0 v = wB (wB (wB s 638 0 v) 634 0 (pt a (sB s 634 0) b)) 635 0 (pt a (sB s 635 0) l) := by
    rw [wB_comm _ _ _ (by decide : 635 ≠ 638), wB_comm s _ _ (by decide : 634 ≠ 638)]
  exact congrArg (fun z => wA (wA (wA z 636 0 (pt a (sA s 636 0) e)) 643 0 c) 644 0 d) h
theorem r638 (s : pS) (v : Nat → UInt32) : sB (wB s 638 0 v) 638 0 = v := rfl
section
variable {s : pS} {a c n : Nat} {lo hi ln sp : Nat → Int} {lnu hn le mo : Nat → UInt32} {spc g : UInt32} {how : Int}
theorem k6_stretch (hV : mv s a c n lo hi ln sp lnu hn le mo spc g how) (b l : Nat → UInt32) (e ch d : Nat → Int) (hb : ∀ t, t < c → fb 90 (b t) ∧ nn (b t)) :
    f_X6_stretch a (mk6 s a b l e ch d) = some (mk6 (wB s 638 0 (pm_up (sB s 638 0) a (rst spc (stB hi how b spc g c) g c))) a (stB hi how b spc g c) l e ch d) := by
  have hV' := hV
  obtain ⟨ha, hc, hc2, hn', hn2, hT, hJ, hsp, hgg, hho, hsn, hsf, hgn, hgf⟩ := hV'
  have hcn := cn_le (aut hi) 0 c
  have r1 := rst_le (m := 90) (c := c) (b := b) (fb_le hsf (by omega)) ⟨fb_le hgf (by omega), hgn⟩ hb hc2 (by omega)
  have r2 := rst_fb (m := 90) (c := c) (b := b) (fb_le hsf (by omega)) (fb_le hgf (by omega)) (fun t h => (hb t h).1) hc2 (by omega)
  have q := fc0 .l r2 (by omega)
  have hV1 : ∀ v, mv (wB s 638 0 v) a c n lo hi ln sp lnu hn le mo spc g how := fun v => hV
  refine of_ok ?_
  unfold f_X6_stretch f_X6_stretch_32
  refine ok_eq (k6_left (m := 90) hV b l e ch d (fun t ht => (hb t ht).1) (by omega) (by omega)) ?_
  refine ok_ck (by omega) (ok_bs ?_)
  rw [nnat, n638, mk6_638]
  have e638 : ∀ v, sB (mk6 (wB s 638 0 (pm_up (sB s 638 0) a v)) a b l e ch d) 638 0 a = v := fun v => by rw [n638, r638, up_eq]
  refine ok_ck (by omega) (ok_if (fun g1 => ?_) (fun g1 => ok_ck (by omega) (ok_if (fun g2 => ?_) (fun g2 => ?_))))
  · rw [e638] at g1
    have e1 : stB hi how b spc g c = b := by
      unfold stB
      rw [if_neg (fun h => by have := q.1.mp g1; omega)]
    rw [e1]
    exact ok_some rfl
  · rw [e638] at g1
    have g1' : 0 < fk (rst spc b g c) := Int.not_le.mp (fun h => g1 (q.1.mpr h))
    have g2' : how = 3 := by rw [← hho]; exact g2
    have h := itS (fun r k => f_X6_stretch_37 (fun x1 x2 s6 => (if x2 ≠ 0 then ck (0 ≤ x1 ∧ x1 < 2) (ck (vf_n32 (FP.fdiv (sB s6 638 0 x1.toNat) (FP.i2f (Int32.ofInt x2)))) (bs ((FP.fdiv (sB s6 638 0 x1.toNat) (FP.i2f (Int32.ofInt x2)))) (fun v9 => f_X6_stretch_89 (fun x1 s10 => (f_X6_left x1 s10).bind (fun q11 => ck (0 ≤ x1 ∧ x1 < 2) (bs (wB q11.2 638 0 (pm_up (sB q11.2 638 0) x1.toNat q11.1)) (fun s13 => some s13)))) 400 x1 v9 0 s6))) else some s6)) r a (cn (aut hi) 0 k) (k : Int) (mk6 (wB s 638 0 (pm_up (sB s 638 0) a (rst spc b g c))) a b l e ch d)) c (fun z => z = mk6 (wB s 638 0 (pm_up (sB s 638 0) a (rst spc (stB hi how b spc g c) g c))) a (stB hi how b spc g c) l e ch d) (fun r k hk ih => ?_) (fun r => ?_) 400 0 (by omega) (by omega)
    · exact h
    · have hk2 := cn_le (aut hi) 0 k
      rw [f_X6_stretch_37]
      unfold f_X6_stretch_63
      rw [nnat, n633]
      refine ok_ck (by omega) (ok_neg (by show ¬ sA s 633 0 a ≤ _; omega) (ok_eq (k6_hi (hV1 _) _ _ _ _ _ k hk) ?_))
      dsimp only
      rw [cn, Nat.zero_add] at ih
      refine ok_if (fun g3 => ok_ck (inR_of (by omega)) (ok_bs (ok_ck (inR_of (by omega)) ?_))) (fun g3 => ok_ck (inR_of (by omega)) (ok_bs (ok_ck (inR_of (by omega)) ?_)))
      · rw [if_pos (by unfold aut; rw [if_neg g3])] at ih
        exact ih
      · rw [if_neg (by unfold aut; rw [if_pos (Classical.not_not.mp g3)]; decide)] at ih
        exact ih
    · rw [f_X6_stretch_37]
      rw [nnat, n633]
      refine ok_ck (by omega) (ok_pos (by show sA s 633 0 a ≤ _; omega) (ok_if (fun g3 => ?_) (fun g3 => ?_)))
      · have g3' : cn (aut hi) 0 c ≠ 0 := by omega
        have est : stB hi how b spc g c = flo 0 c (spn (FP.fdiv (rst spc b g c) (FP.i2f (Int32.ofInt (cn (aut hi) 0 c : Int)))) b (aut hi)) b := by
          unfold stB
          rw [if_pos ⟨g2', g3', g1'⟩]
        have hs := stB_q (hi := hi) (how := how) hc2 hb ⟨hsf, hsn⟩ ⟨hgf, hgn⟩
        have p := pos_fb hsf hsn g1' r1
        have q5 := part_fb (n := cn (aut hi) 0 c) p.1 g3' (by omega) (by omega)
        rw [est] at hs ⊢
        rw [e638]
        refine ok_ck (by omega) (ok_ck (fb_n32 q5 (by omega)) (ok_bs ?_))
        have h := itS (fun r k => f_X6_stretch_89 (fun x1 s10 => (f_X6_left x1 s10).bind (fun q11 => ck (0 ≤ x1 ∧ x1 < 2) (bs (wB q11.2 638 0 (pm_up (sB q11.2 638 0) x1.toNat q11.1)) (fun s13 => some s13)))) r a (FP.fdiv (rst spc b g c) (FP.i2f (Int32.ofInt (cn (aut hi) 0 c : Int)))) (k : Int) (mk6 (wB s 638 0 (pm_up (sB s 638 0) a (rst spc b g c))) a (flo 0 k (spn (FP.fdiv (rst spc b g c) (FP.i2f (Int32.ofInt (cn (aut hi) 0 c : Int)))) b (aut hi)) b) l e ch d)) c (fun z => z = mk6 (wB s 638 0 (pm_up (sB s 638 0) a (rst spc (flo 0 c (spn (FP.fdiv (rst spc b g c) (FP.i2f (Int32.ofInt (cn (aut hi) 0 c : Int)))) b (aut hi)) b) g c))) a (flo 0 c (spn (FP.fdiv (rst spc b g c) (FP.i2f (Int32.ofInt (cn (aut hi) 0 c : Int)))) b (aut hi)) b) l e ch d) (fun r k hk ih => ?_) (fun r => ?_) 400 0 (by omega) (by omega)
        · rw [flo_0] at h
          exact h
        · have hk12 : k < 12 := by omega
          rw [f_X6_stretch_89]
          unfold f_X6_stretch_137
          rw [nnat, n633]
          refine ok_ck (by omega) (ok_neg (by show ¬ sA s 633 0 a ≤ _; omega) (ok_eq (k6_hi (hV1 _) _ _ _ _ _ k hk) ?_))
          try simp only [n634, n635, n636, n643, n644, n6I, n6F, u634, u635, u636, u643, u644, n633, n604, n605, n606, n631, n621, n628, n607, n608, n622, n623, n626, n627, n638, nnat, i12, i2, ion]
          refine ok_if (fun g5 => ok_ck (inR_of (by omega)) ?_) (fun g5 => ?_)
          · rw [flo_skip0 (by unfold spn aut; rw [if_pos (by rw [if_neg g5])])] at ih
            exact ih
          · rw [pt_at hk12, flo_at0]
            refine ok_ck (inR_of (by omega)) (ok_ck (inR_of (by omega)) (ok_ck (inR_of (by omega)) (ok_ck (inR_of (by omega)) (ok_ck (by omega) (ok_ck (fb_n32 (fb_add (m := 90) (hb k hk).1 (fb_le q5 (by omega)) (by omega)) (by omega)) (ok_ck (by omega) (ok_bs ?_)))))))
            rw [pt_up hk12, u634, flo_up0 (by unfold spn aut; rw [if_neg (by rw [if_pos (Classical.not_not.mp g5)]; decide)])]
            exact ok_ck (inR_of (by omega)) ih
        · rw [f_X6_stretch_89]
          rw [nnat, n633]
          refine ok_ck (by omega) (ok_pos (by show sA s 633 0 a ≤ _; omega) ?_)
          refine ok_eq (k6_left (m := 91) (hV1 _) _ l e ch d (fun t ht => (hs t ht).1) (by omega) (by omega)) ?_
          refine ok_ck (by omega) (ok_bs ?_)
          dsimp only
          rw [n638, mk6_638, r638, up_up, wB_wB]
          exact ok_some rfl
      · have e1 : stB hi how b spc g c = b := by
          unfold stB
          rw [if_neg (fun h => h.2.1 (by omega))]
        rw [e1]
        exact ok_some rfl
  · have e1 : stB hi how b spc g c = b := by
      unfold stB
      rw [if_neg (fun h => g2 (by show sA s 628 0 (a : Int).toNat = 3; rw [nnat, hho]; exact h.1))]
    rw [e1]
    exact ok_some rfl
/-! positions and extents -/
theorem div02 : FP.fdiv FP.fconst0 FP.fconst2 = FP.fconst0 := by decide +kernel
def exM (ln sp : Nat → Int) (b : Nat → UInt32) (g : UInt32) : Nat → UInt32 := fun j => if ln j = 0 then FP.fconst0 else ext b g (ln j - 1).toNat (sp j).toNat
theorem k6_265 (hV : mv s a c n lo hi ln sp lnu hn le mo spc g how) (b l : Nat → UInt32) (e ch d : Nat → Int) (x : UInt32) (K : Int → pS → Option pS) (P : pS → Prop) (hb : ∀ t, t < c → fb 91 (b t)) (hx : fb 14 x)
    (hK : ok (K a (wB (mk6 s a b l e ch d) 637 0 (pt a (sB s 637 0) (flo 0 c (posn x g b) (fun t => sB s 637 0 (12 * a + t)))))) P) :
    ok (f_X6_sizes_265 K 400 a x 0 (mk6 s a b l e ch d)) P := by
  have hV' := hV
  obtain ⟨ha, hc, hc2, hn', hn2, hT, hJ, hsp, hgg, hho, hsn, hsf, hgn, hgf⟩ := hV'
  have h := itS (fun r k => f_X6_sizes_265 K r a (posn x g b k) (k : Int) (wB (mk6 s a b l e ch d) 637 0 (pt a (sB s 637 0) (flo 0 k (posn x g b) (fun t => sB s 637 0 (12 * a + t)))))) c P (fun r k hk ih => ?_) (fun r => ?_) 400 0 (by omega) (by omega)
  · rw [flo_0, pt_self, show sB s 637 0 = sB (mk6 s a b l e ch d) 637 0 from rfl, wB_self] at h
    exact h
  · have hk12 : k < 12 := by omega
    have q1 := posn_q (k := k) (fb_le hx (by omega)) (fb_le hgf (by omega)) hb (by omega) (by omega)
    have q2 := fb_add (m := 91 + 2 * k) q1 (fb_le (hb k hk) (by omega)) (by omega)
    have q3 := fb_add (m := 91 + 2 * k + 1) q2 (fb_le hgf (by omega)) (by omega)
    rw [f_X6_sizes_265]
    simp only [nnat, i12]
    refine ok_ck (by omega) (ok_neg (by show ¬ sA s 633 0 a ≤ _; omega) (ok_ck (inR_of (by omega)) (ok_ck (inR_of (by omega)) (ok_ck (by omega) (ok_bs ?_)))))
    rw [show sB (wB (mk6 s a b l e ch d) 637 0 (pt a (sB s 637 0) (flo 0 k (posn x g b) (fun t => sB s 637 0 (12 * a + t))))) 637 0 = pt a (sB s 637 0) (flo 0 k (posn x g b) (fun t => sB s 637 0 (12 * a + t))) from rfl, wB_wB, pt_up hk12, flo_up0 rfl]
    rw [show ∀ v, sB (wB (mk6 s a b l e ch d) 637 0 v) 634 0 (12 * a + k) = b k from fun v => (show pt a (sB s 634 0) b (12 * a + k) = b k from pt_at hk12), show ∀ v, sB (wB (mk6 s a b l e ch d) 637 0 v) 627 0 a = g from fun v => hgg]
    exact ok_ck (inR_of (by omega)) (ok_ck (inR_of (by omega)) (ok_ck (by omega) (ok_ck (fb_n32 q2 (by omega)) (ok_bs (ok_ck (by omega) (ok_ck (fb_n32 q3 (by omega)) (ok_bs (ok_ck (inR_of (by omega)) ih))))))))
  · rw [f_X6_sizes_265]
    simp only [nnat, i12]
    exact ok_ck (by omega) (ok_pos (by show sA s 633 0 a ≤ _; omega) hK)
theorem k6_ext (hV : mv s a c n lo hi ln sp lnu hn le mo spc g how) (S : pS) (b : Nat → UInt32) (j : Nat) (K : Int → Int → UInt32 → pS → Option pS) (P : pS → Prop) (hj : j < n) (hb : ∀ t, t < c → fb 91 (b t)) (hS1 : sA S 631 0 = sA s 631 0) (hS2 : sA S 621 0 = sA s 621 0) (hS3 : ∀ t, t < 12 → sB S 634 0 (12 * a + t) = b t) (hS4 : sB S 627 0 = sB s 627 0)
    (hK : ok (K a j (exM ln sp b g j) S) P) :
    ok (f_X6_sizes_337 (fun x1 x4 x5 s1 => f_X6_sizes_401 K 400 x1 x4 x5 1 s1) 400 a j FP.fconst0 0 S) P := by
  have hV' := hV
  obtain ⟨ha, hc, hc2, hn', hn2, hT, hJ, hsp, hgg, hho, hsn, hsf, hgn, hgf⟩ := hV'
  obtain ⟨j1, j2, j3, j4, j5, j6, j7, j8, j9, j10, j11, j12⟩ := hJ j hj
  by_cases hq : ln j = 0
  · unfold exM at hK
    rw [if_pos hq] at hK
    rw [f_X6_sizes_337, i2, hS1, hS2, j1, j2]
    refine ok_ck (inR_of (by omega)) (ok_ck (inR_of (by omega)) (ok_ck (by omega) (ok_neg (by omega) (ok_ck (inR_of (by omega)) (ok_ck (inR_of (by omega)) (ok_ck (by omega) (ok_pos (by omega) ?_)))))))
    rw [f_X6_sizes_401, i2, hS1, hS2, j1, j2]
    exact ok_ck (inR_of (by omega)) (ok_ck (inR_of (by omega)) (ok_ck (by omega) (ok_if (fun _ => hK) (fun _ => ok_ck (inR_of (by omega)) (ok_ck (inR_of (by omega)) (ok_ck (by omega) (ok_pos (by omega) hK)))))))
  · have j8' := j8 hq
    obtain ⟨f, hf⟩ : ∃ f : Nat, ln j = (f : Int) + 1 := ⟨(ln j - 1).toNat, by omega⟩
    obtain ⟨w, hw⟩ : ∃ w : Nat, sp j = (w : Int) := ⟨(sp j).toNat, by omega⟩
    unfold exM ext at hK
    rw [if_neg hq, hf, hw, show ((f : Int) + 1 - 1).toNat = f by omega, nnat] at hK
    have hfirst : f_X6_firstOf a j S = some ((f : Int), S) := by
      refine of_ok ?_
      unfold f_X6_firstOf
      rw [i2, hS1, j1, hf]
      refine ok_ck (inR_of (by omega)) (ok_ck (inR_of (by omega)) (ok_ck (by omega) (ok_ck (inR_of (by omega)) (ok_some ?_))))
      rw [show (f : Int) + 1 - 1 = (f : Int) by omega]
    refine itS (fun r k => f_X6_sizes_337 (fun x1 x4 x5 s1 => f_X6_sizes_401 K 400 x1 x4 x5 1 s1) r a j (adds FP.fconst0 (fun k => b (f + k)) k) (k : Int) S) w P (fun r k hk ih => ?_) (fun r => ?_) 400 0 (by omega) (by omega)
    · rw [f_X6_sizes_337, i2, hS1, hS2, j1, j2]
      refine ok_ck (inR_of (by omega)) (ok_ck (inR_of (by omega)) (ok_ck (by omega) (ok_neg (by omega) (ok_ck (inR_of (by omega)) (ok_ck (inR_of (by omega)) (ok_ck (by omega) (ok_neg (by omega) (ok_ck (inR_of (by omega)) (ok_eq hfirst ?_)))))))))
      dsimp only
      rw [show (12 * (a : Int) + (f : Int) + (k : Int)).toNat = 12 * a + (f + k) by omega, hS3 (f + k) (by omega)]
      exact ok_ck (inR_of (by omega)) (ok_ck (inR_of (by omega)) (ok_ck (by omega) (ok_ck (fb_n32 (adds_fb (n := k + 1) (b := fun k => b (f + k)) (fb0 91) (fun t ht => hb _ (by omega)) (by omega)) (by omega)) (ok_bs (ok_ck (inR_of (by omega)) ih)))))
    · rw [f_X6_sizes_337, i2, hS1, hS2, j1, j2]
      refine ok_ck (inR_of (by omega)) (ok_ck (inR_of (by omega)) (ok_ck (by omega) (ok_pos (by omega) ?_)))
      have q1 := adds_fb (n := w) (b := fun k => b (f + k)) (fb0 91) (fun t ht => hb _ (by omega)) (by omega)
      refine itS (fun r k => f_X6_sizes_401 K r a j (adds (adds FP.fconst0 (fun k => b (f + k)) w) (fun _ => g) k) ((k : Int) + 1) S) (w - 1) P (fun r k hk ih => ?_) (fun r => ?_) 400 0 (by omega) (by omega)
      · rw [f_X6_sizes_401, i2, hS1, hS2, j1, j2, nnat, hS4, hgg]
        exact ok_ck (inR_of (by omega)) (ok_ck (inR_of (by omega)) (ok_ck (by omega) (ok_neg (by omega) (ok_ck (inR_of (by omega)) (ok_ck (inR_of (by omega)) (ok_ck (by omega) (ok_neg (by omega) (ok_ck (by omega) (ok_ck (fb_n32 (adds_fb (n := k + 1) (b := fun _ => g) q1 (fun _ _ => fb_le hgf (by omega)) (by omega)) (by omega)) (ok_bs (ok_ck (inR_of (by omega)) ih)))))))))))
      · rw [f_X6_sizes_401, i2, hS1, hS2, j1, j2]
        exact ok_ck (inR_of (by omega)) (ok_ck (inR_of (by omega)) (ok_ck (by omega) (ok_pos (by omega) hK)))
theorem k6_322 (hV : mv s a c n lo hi ln sp lnu hn le mo spc g how) (S : pS) (b : Nat → UInt32) (hb : ∀ t, t < c → fb 91 (b t)) (hS0 : sI S 619 0 = sI s 619 0) (hS1 : sA S 631 0 = sA s 631 0) (hS2 : sA S 621 0 = sA s 621 0) (hS3 : ∀ t, t < 12 → sB S 634 0 (12 * a + t) = b t) (hS4 : sB S 627 0 = sB s 627 0) :
    f_X6_sizes_322 (fun s2 => some s2) 400 a 0 S = some (wB S 632 0 (flE (fun j => 2 * j + a) (exM ln sp b g) (sB S 632 0) n)) := by
  have hV' := hV
  obtain ⟨ha, hc, hc2, hn', hn2, hT, hJ, hsp, hgg, hho, hsn, hsf, hgn, hgf⟩ := hV'
  refine of_ok ?_
  have h := itS (fun r k => f_X6_sizes_322 (fun s2 => some s2) r a (k : Int) (wB S 632 0 (flE (fun j => 2 * j + a) (exM ln sp b g) (sB S 632 0) k))) n (fun z => z = wB S 632 0 (flE (fun j => 2 * j + a) (exM ln sp b g) (sB S 632 0) n)) (fun r k hk ih => ?_) (fun r => ?_) 400 0 (by omega) (by omega)
  · rw [show flE (fun j => 2 * j + a) (exM ln sp b g) (sB S 632 0) 0 = sB S 632 0 from rfl, wB_self] at h
    exact h
  · rw [f_X6_sizes_322]
    refine ok_neg (by rw [sI_wB, hS0]; omega) ?_
    refine k6_ext hV (wB S 632 0 (flE (fun j => 2 * j + a) (exM ln sp b g) (sB S 632 0) k)) b k (fun x1 x4 x5 s1 => f_X6_sizes_448 (f_X6_sizes_322 (fun s2 => some s2) r) (fun s2 => some s2) x1 x4 x5 s1) _ hk hb hS1 hS2 hS3 hS4 ?_
    unfold f_X6_sizes_448
    rw [i2]
    refine ok_ck (inR_of (by omega)) (ok_ck (inR_of (by omega)) (ok_ck (by omega) (ok_bs ?_)))
    rw [show sB (wB S 632 0 (flE (fun j => 2 * j + a) (exM ln sp b g) (sB S 632 0) k)) 632 0 = flE (fun j => 2 * j + a) (exM ln sp b g) (sB S 632 0) k from rfl, wB_wB]
    exact ok_ck (inR_of (by omega)) ih
  · rw [f_X6_sizes_322]
    exact ok_pos (by rw [sI_wB, hS0]; omega) (ok_some rfl)
/-- what comes behind the stretching -/
theorem k6_229 (hV : mv s a c n lo hi ln sp lnu hn le mo spc g how) (b l : Nat → UInt32) (e ch d : Nat → Int) (fr : UInt32) (hb : ∀ t, t < c → fb 91 (b t)) (hf : sB s 638 0 a = fr) (hf1 : fb 114 fr) (hf2 : 0 < fk fr → fb 12 fr) :
    ok (ck (0 ≤ (a : Int) ∧ (a : Int) < 2) ((if (pm_fc .l (sB (mk6 s a b l e ch d) 638 0 (a : Int).toNat) FP.fconst0) ≤ 0 then f_X6_sizes_229 a FP.fconst0 (mk6 s a b l e ch d) else ck (0 ≤ (a : Int) ∧ (a : Int) < 2) (f_X6_sizes_229 a (sB (mk6 s a b l e ch d) 638 0 (a : Int).toNat) (mk6 s a b l e ch d))))) (fun u => u = wB (wB (mk6 s a b l e ch d) 637 0 (pt a (sB s 637 0) (flo 0 c (posn (pos1 fr how) g b) (fun t => sB s 637 0 (12 * a + t))))) 632 0 (flE (fun j => 2 * j + a) (exM ln sp b g) (sB s 632 0) n)) := by
  have hV' := hV
  obtain ⟨ha, hc, hc2, hn', hn2, hT, hJ, hsp, hgg, hho, hsn, hsf, hgn, hgf⟩ := hV'
  have p1 := pos1_q (how := how) hf2
  have tail : ∀ x, x = pos1 fr how → ok (f_X6_sizes_261 a x (mk6 s a b l e ch d)) (fun u => u = wB (wB (mk6 s a b l e ch d) 637 0 (pt a (sB s 637 0) (flo 0 c (posn (pos1 fr how) g b) (fun t => sB s 637 0 (12 * a + t))))) 632 0 (flE (fun j => 2 * j + a) (exM ln sp b g) (sB s 632 0) n)) := by
    intro x hx
    rw [hx]
    unfold f_X6_sizes_261
    refine k6_265 hV b l e ch d _ _ _ hb p1 ?_
    exact ok_of (k6_322 hV _ b hb rfl rfl rfl (fun t ht => pt_at ht) rfl) rfl
  have q := (fc0 .l hf1 (by omega)).1
  rw [nnat, n638, hf]
  unfold f_X6_sizes_229
  rw [nnat, n628, hho]
  refine ok_ck (by omega) (ok_if (fun g1 => ok_ck (by omega) ?_) (fun g1 => ok_ck (by omega) (ok_ck (by omega) ?_)))
  · have e0 : FP.fconst0 = pos1 fr how := by unfold pos1; rw [if_pos (q.mp g1)]
    refine ok_if (fun g2 => ok_ck (by omega) (ok_if (fun g3 => tail _ e0) (fun g3 => tail _ e0))) (fun g2 => ?_)
    rw [div02]
    exact ok_ck (fb_n32 (fb0 0) (by omega)) (tail _ e0)
  · have g1' : ¬ fk fr ≤ 0 := fun h => g1 (q.mpr h)
    refine ok_if (fun g2 => ok_ck (by omega) (ok_if (fun g3 => ?_) (fun g3 => ?_))) (fun g2 => ?_)
    · exact tail _ (by unfold pos1; rw [if_neg g1', if_neg g2, if_neg g3])
    · exact tail _ (by unfold pos1; rw [if_neg g1', if_neg g2, if_pos (Classical.not_not.mp g3)])
    · exact ok_ck (fb_n32 (fb_div (hf2 (Int.not_le.mp g1')) fb2.1 fb2.2 (by omega)) (by omega)) (tail _ (by unfold pos1; rw [if_neg g1', if_pos (Classical.not_not.mp g2)]))
end
