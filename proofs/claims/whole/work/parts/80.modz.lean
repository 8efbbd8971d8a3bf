/-! ===== SIZING: the reference, all of it (written by wip/whole/gen_mod10.py) ===== -/
section
variable {s : pS} {a c n : Nat} {lo hi ln sp : Nat → Int} {lnu hn le mo : Nat → UInt32} {spc g : UInt32} {how : Int}
theorem z_q (hV : mv s a c n lo hi ln sp lnu hn le mo spc g how) (b0 l0 : Nat → UInt32) : (∀ t, t < c → fb 14 (flo 0 c lnu b0 t) ∧ nn (flo 0 c lnu b0 t)) ∧ (∀ t, t < c → fb 14 (rz (flo 0 c lnu b0) (flo 0 c (bgL hi lnu hn) l0) c t) ∧ nn (rz (flo 0 c lnu b0) (flo 0 c (bgL hi lnu hn) l0) c t)) ∧ (∀ t, t < c → fb 14 ((zB lo hi ln sp lnu hn le mo g c n b0) t) ∧ nn ((zB lo hi ln sp lnu hn le mo g c n b0) t)) ∧ (∀ t, t < c → fb 14 (sgL hi ln sp hn le mo (rz (flo 0 c lnu b0) (flo 0 c (bgL hi lnu hn) l0) c) n t) ∧ nn (sgL hi ln sp hn le mo (rz (flo 0 c lnu b0) (flo 0 c (bgL hi lnu hn) l0) c) n t)) ∧ (∀ t, t < c → fb 14 ((zL lo hi ln sp lnu hn le mo g c n b0 l0) t) ∧ nn ((zL lo hi ln sp lnu hn le mo g c n b0 l0) t)) ∧ (∀ t, t < c → fb 44 ((zB2 lo hi ln sp lnu hn le mo g c n b0) t) ∧ nn ((zB2 lo hi ln sp lnu hn le mo g c n b0) t)) ∧ (∀ t, t < c → fb 44 (rz (zB2 lo hi ln sp lnu hn le mo g c n b0) (zL lo hi ln sp lnu hn le mo g c n b0 l0) c t) ∧ nn (rz (zB2 lo hi ln sp lnu hn le mo g c n b0) (zL lo hi ln sp lnu hn le mo g c n b0 l0) c t)) ∧ (∀ t, t < c → fb 74 ((zL3 lo hi ln sp lnu hn le mo g c n b0 l0) t) ∧ nn ((zL3 lo hi ln sp lnu hn le mo g c n b0 l0) t)) := by
  have hV' := hV
  obtain ⟨ha, hc, hc2, hn', hn2, hT, hJ, hsp, hgg, hho, hsn, hsf, hgn, hgf⟩ := hV'
  have hin : ∀ j, j < n → ln j ≠ 0 → sp j = 1 → (ln j - 1).toNat < c := by
    intro j hj h1 h2
    have := (hJ j hj).2.2.2.2.2.2.2.1 h1
    have := (hJ j hj).2.2.2.2.1
    omega
  have fj : ∀ j, j < n → fb 14 (le j) ∧ fb 14 (mo j) := fun j hj => ⟨fb_le (hJ j hj).2.2.2.2.2.2.2.2.2.1 (by omega), fb_le (hJ j hj).2.2.2.2.2.2.2.2.2.2.2 (by omega)⟩
  have nj : ∀ j, j < n → nn (le j) ∧ nn (mo j) := fun j hj => ⟨(hJ j hj).2.2.2.2.2.2.2.2.1, (hJ j hj).2.2.2.2.2.2.2.2.2.2.1⟩
  have hnq : ∀ t, t < c → nn (hn t) ∧ fb 14 (hn t) := fun t ht => ⟨(hT t ht).2.2.2.2.2.2.2.2.2.1, (hT t ht).2.2.2.2.2.2.2.2.2.2⟩
  have hlq : ∀ t, t < c → nn (lnu t) ∧ fb 14 (lnu t) := fun t ht => ⟨(hT t ht).2.2.2.2.2.2.2.1, (hT t ht).2.2.2.2.2.2.2.2.1⟩
  have A1 : ∀ t, t < c → fb 14 (flo 0 c lnu b0 t) ∧ nn (flo 0 c lnu b0 t) := by
    intro t ht
    rw [flo_in (by omega)]
    exact ⟨(hlq t ht).2, (hlq t ht).1⟩
  have A0 : ∀ t, t < c → fb 14 (flo 0 c (bgL hi lnu hn) l0 t) ∧ nn (flo 0 c (bgL hi lnu hn) l0 t) := by
    intro t ht
    rw [flo_in (by omega)]
    unfold bgL
    split
    · exact ⟨(hlq t ht).2, (hlq t ht).1⟩
    · exact ⟨(hnq t ht).2, (hnq t ht).1⟩
  have A2 := and_all (rz_q (Q := fb 14) (fun _ _ => mx_fb) (and_1 A1) (and_1 A0)) (rz_q (Q := nn) (fun _ _ => mx_nn) (and_2 A1) (and_2 A0))
  have A3 : ∀ t, t < c → fb 14 ((zB lo hi ln sp lnu hn le mo g c n b0) t) ∧ nn ((zB lo hi ln sp lnu hn le mo g c n b0) t) := and_all (sgB_q (fun _ _ _ _ => mlow_fb) (and_1 A1) fj hin) (sgB_q (fun _ _ _ _ => mlow_nn) (and_2 A1) nj hin)
  have A4 := and_all (sgL_q (hi := hi) (fun _ _ _ _ _ hw hx hy hz => mhigh_fb hx hy hz hw) (fun t ht => ⟨(A2 t ht).1, (hnq t ht).2⟩) fj hin) (sgL_q (hi := hi) (fun _ _ _ _ _ hw hx hy hz => mhigh_nn hx hy hz hw) (fun t ht => ⟨(A2 t ht).2, (hnq t ht).1⟩) nj hin)
  have A5 : ∀ t, t < c → fb 14 ((zL lo hi ln sp lnu hn le mo g c n b0 l0) t) ∧ nn ((zL lo hi ln sp lnu hn le mo g c n b0 l0) t) := and_all (rz_q (Q := fb 14) (fun _ _ => mx_fb) (and_1 A3) (and_1 A4)) (rz_q (Q := nn) (fun _ _ => mx_nn) (and_2 A3) (and_2 A4))
  have A6 : ∀ t, t < c → fb 44 ((zB2 lo hi ln sp lnu hn le mo g c n b0) t) ∧ nn ((zB2 lo hi ln sp lnu hn le mo g c n b0) t) := spA_q A3 ⟨hgf, hgn⟩ (by omega) hn2 (by omega) (fun j hj => (hJ j hj).2.2.2.2.2.2.2.1) (fun j hj => (hJ j hj).2.2.2.2.1) (fun j hj => ⟨(hJ j hj).2.2.2.2.2.2.2.2.2.1, (nj j hj).1⟩)
  have A7 := and_all (rz_q (Q := fb 44) (fun _ _ => mx_fb) (and_1 A6) (fun t ht => fb_le (A5 t ht).1 (by omega))) (rz_q (Q := nn) (fun _ _ => mx_nn) (and_2 A6) (and_2 A5))
  have A8 : ∀ t, t < c → fb 74 ((zL3 lo hi ln sp lnu hn le mo g c n b0 l0) t) ∧ nn ((zL3 lo hi ln sp lnu hn le mo g c n b0 l0) t) := spA_q A7 ⟨hgf, hgn⟩ (by omega) hn2 (by omega) (fun j hj => (hJ j hj).2.2.2.2.2.2.2.1) (fun j hj => (hJ j hj).2.2.2.2.1) (fun j hj => ⟨(hJ j hj).2.2.2.2.2.2.2.2.2.2.2, (nj j hj).2⟩)
  exact ⟨A1, A2, A3, A4, A5, A6, A7, A8⟩
theorem k6_shAq (hV : mv s a c n lo hi ln sp lnu hn le mo spc g how) (b : Nat → UInt32) (ch0 : Nat → Int) (hb : ∀ t, t < c → fb 90 (b t) ∧ nn (b t)) : ∀ t, t < c → fb 90 (shA hi hn b spc g c ch0 t) ∧ nn (shA hi hn b spc g c ch0 t) := by
  have hV' := hV
  obtain ⟨ha, hc, hc2, hn', hn2, hT, hJ, hsp, hgg, hho, hsn, hsf, hgn, hgf⟩ := hV'
  have hh : ∀ t, t < c → fb 14 (hn t) ∧ nn (hn t) := fun t ht => ⟨(hT t ht).2.2.2.2.2.2.2.2.2.2, (hT t ht).2.2.2.2.2.2.2.2.2.1⟩
  have s2 := subs_le (n := c - 1) (b := fun _ => g) hsf (fun _ _ => ⟨hgf, hgn⟩) (by omega)
  have s1 := subs_fb (n := c - 1) (b := fun _ => g) hsf (fun _ _ => hgf) (by omega)
  have s3 := sfs_q (m := 90) (hi := hi) (k := c) (c := c) (fb_le s1 (by omega)) hb (Nat.le_refl _) (by omega)
  have key : ∀ (r : Nat) (ch : Nat → Int) (x : UInt32), fb (114 - cn ch 0 c) x → fk x ≤ fk spc → fk (shl hn b c r ch x).2 ≤ fk spc := by
    intro r
    induction r with
    | zero => intro ch x _ h; exact h
    | succ r ih =>
      intro ch x hx h
      rw [shl]
      have hcc := cn_le ch 0 c
      have hnt := ntg_cn (ch := ch) (hn := hn) (b := b) (y := one ch hn c x) c
      have hsx := sax_q (m := 114 - cn ch 0 c) (c := c) hx (fun t ht => ⟨fb_le (hb t ht).1 (by omega), (hb t ht).2⟩) (ch := ch) (hn := hn) (y := one ch hn c x) (k := c) (Nat.le_refl _) (by omega)
      split
      · exact ih _ _ (by rw [cn_flo]; exact fb_le hsx.1 (by omega)) (Int.le_trans hsx.2 h)
      · exact h
  have hcc := cn_le ch0 0 c
  have hx := key 12 ch0 (sfs (subs spc (fun _ => g) (c - 1)) hi b c) (fb_le s3.1 (by omega)) (Int.le_trans s3.2 s2)
  exact shA_q hb hh (one_q hc2 hh (fun h0 => (pos_fb hsf hsn h0 hx).1))
/-- the reference's sizing of the axis a -/
theorem k6_sizes (hV : mv s a c n lo hi ln sp lnu hn le mo spc g how) (l0 : Nat → UInt32) : ok (f_X6_sizes a s) (fun u => ∃ (b0 l3 l : Nat → UInt32) (ch0 e ch d : Nat → Int), ag c l3 (zL3 lo hi ln sp lnu hn le mo g c n b0 l0) ∧ ag c ch0 (shp hi) ∧ (∀ t, t < c → fb 91 (zB6 lo hi ln sp lnu hn le mo spc g how c n b0 l3 ch0 t)) ∧ fb 114 (rst spc (zB6 lo hi ln sp lnu hn le mo spc g how c n b0 l3 ch0) g c) ∧
    u = wB (wB (mk6 (wB s 638 0 (pm_up (sB s 638 0) a (rst spc (zB6 lo hi ln sp lnu hn le mo spc g how c n b0 l3 ch0) g c))) a (zB6 lo hi ln sp lnu hn le mo spc g how c n b0 l3 ch0) l e ch d) 637 0 (pt a (sB s 637 0) (flo 0 c (posn (pos1 (rst spc (zB6 lo hi ln sp lnu hn le mo spc g how c n b0 l3 ch0) g c) how) g (zB6 lo hi ln sp lnu hn le mo spc g how c n b0 l3 ch0)) (fun t => sB s 637 0 (12 * a + t))))) 632 0 (flE (fun j => 2 * j + a) (exM ln sp (zB6 lo hi ln sp lnu hn le mo spc g how c n b0 l3 ch0) g) (sB s 632 0) n)) := by
  have hV' := hV
  obtain ⟨ha, hc, hc2, hn', hn2, hT, hJ, hsp, hgg, hho, hsn, hsf, hgn, hgf⟩ := hV'
  generalize hb0 : (fun t => sB s 634 0 (12 * a + t)) = b0
  have hself := mk6_self s a
  rw [hb0] at hself
  obtain ⟨A1, A2, A3, A4, A5, A6, A7, A8⟩ := z_q hV b0 l0
  unfold f_X6_sizes
  have hbeg := k6_begin hV b0 (fun t => sB s 635 0 (12 * a + t)) (fun t => sA s 636 0 (12 * a + t)) (sA s 643 0) (sA s 644 0)
  rw [hself] at hbeg
  refine ok_eq hbeg ?_
  refine k6_singles hV (rz (flo 0 c lnu b0) (flo 0 c (bgL hi lnu hn) l0) c) _ _ _ _ _ _ _ A1 A2 (fun t ht => ?_) (fun l1 e1 h1 => ?_)
  · have hlt := hT t ht
    rw [flo_in (by omega), flo_in (by omega), flo_in (by omega)]
    unfold rz
    rw [flo_in (by omega), flo_in (by omega), flo_in (by omega)]
    unfold emB lmB bgL
    have n1 := hlt.2.2.2.2.2.2.2.1
    have n2 := hlt.2.2.2.2.2.2.2.2.2.1
    refine ⟨fun h => if_pos h, ?_⟩
    by_cases q1 : hi t = 0
    · rw [if_pos (show hi t = 0 ∨ hi t = 4 from Or.inl q1), if_pos rfl, if_pos q1, if_neg (show ¬ hi t ≠ 0 from fun h => h q1)]
      apply eq_nat
      rw [mx_nat (mx_nn n2 n1) n1, mx_nat n2 n1]
      omega
    · by_cases q2 : hi t = 4
      · rw [if_pos (show hi t = 0 ∨ hi t = 4 from Or.inr q2), if_pos rfl, if_neg q1, if_pos q2, if_pos q1, mx_self, mx_self]
      · rw [if_neg (show ¬ (hi t = 0 ∨ hi t = 4) by omega), if_neg (show ¬ (1 : Int) = 0 by decide), if_pos q1, mx_self, mx_self]
  · refine k6_39 (m := 14) hV (zL lo hi ln sp lnu hn le mo g c n b0 l0) (zB lo hi ln sp lnu hn le mo g c n b0) l1 e1 _ _ _ _ (by omega) (by omega) A3 A5 (fun t ht => ?_) (fun l2 ch2 h2 => ?_)
    · obtain ⟨q1, q2⟩ := h1 t ht
      refine ⟨q1, ?_⟩
      have e3 : (zL lo hi ln sp lnu hn le mo g c n b0 l0) t = mx (sgL hi ln sp hn le mo (rz (flo 0 c lnu b0) (flo 0 c (bgL hi lnu hn) l0) c) n t) ((zB lo hi ln sp lnu hn le mo g c n b0) t) := by
        unfold zL rz
        rw [flo_in (by omega)]
      rw [e3]
      refine Eq.trans q2 ?_
      apply eq_nat
      have m1 := (A4 t ht).2
      have m2 := (A3 t ht).2
      rw [mx_nat (mx_nn m1 m2) m2, mx_nat m1 m2]
      show (mx _ ((zB lo hi ln sp lnu hn le mo g c n b0) t)).toNat = _
      rw [mx_nat m1 m2]
      omega
    · refine k6_84 (m := 44) hV (rz (zB2 lo hi ln sp lnu hn le mo g c n b0) (zL lo hi ln sp lnu hn le mo g c n b0 l0) c) (zB2 lo hi ln sp lnu hn le mo g c n b0) l2 e1 ch2 _ _ _ (by omega) (by omega) A7 (fun t ht => ?_) (fun l4 e4 ch4 h4 => ?_)
      · obtain ⟨q1, q2⟩ := h2 t ht
        have e3 : rz (zB2 lo hi ln sp lnu hn le mo g c n b0) (zL lo hi ln sp lnu hn le mo g c n b0 l0) c t = mx ((zL lo hi ln sp lnu hn le mo g c n b0 l0) t) ((zB2 lo hi ln sp lnu hn le mo g c n b0) t) := by
          unfold rz
          rw [flo_in (by omega)]
        rw [e3]
        exact q2
      · refine k6_129 hV (zL3 lo hi ln sp lnu hn le mo g c n b0 l0) (zB2 lo hi ln sp lnu hn le mo g c n b0) l4 e4 ch4 _ _ _ h4 (fun l5 e5 h5 => ?_)
        refine ok_seq (k6_fill hV (zB2 lo hi ln sp lnu hn le mo g c n b0) l5 e5 ch4 _ (fun t ht => ⟨fb_le (A6 t ht).1 (by omega), (A6 t ht).2⟩) (fun t ht => by rw [h5 t ht]; exact A8 t ht)) (fun q6 h6 => ?_)
        obtain ⟨rfl, B4⟩ := h6
        refine ok_seq (k6_shares hV _ l5 e5 ch4 _ B4) (fun q7 h7 => ?_)
        obtain ⟨ch7, d7, rfl⟩ := h7
        have hh : ∀ t, t < c → fb 14 (hn t) ∧ nn (hn t) := fun t ht => ⟨(hT t ht).2.2.2.2.2.2.2.2.2.2, (hT t ht).2.2.2.2.2.2.2.2.2.1⟩
        have B5 := k6_shAq hV _ (chd hi (flo 0 c (fun _ => 0) (sA s 644 0))) B4
        have B6 := stB_q (hi := hi) (how := how) hc2 B5 ⟨hsf, hsn⟩ ⟨hgf, hgn⟩
        have F1 := rst_fb (m := 91) (x := spc) (g := g) (fb_le hsf (by omega)) (fb_le hgf (by omega)) (and_1 B6) hc2 (by omega)
        have F2 := rst_le (m := 91) (x := spc) (g := g) (fb_le hsf (by omega)) ⟨fb_le hgf (by omega), hgn⟩ B6 hc2 (by omega)
        refine ok_eq (k6_stretch hV _ l5 e5 ch7 d7 B5) ?_
        refine ok_mono (k6_229 (s := wB s 638 0 (pm_up (sB s 638 0) a _)) hV _ l5 e5 ch7 d7 _ (and_1 B6) (up_eq _ _ _) F1 (fun h0 => (pos_fb hsf hsn h0 F2).1)) (fun u hu => ?_)
        exact ⟨b0, l5, l5, chd hi (flo 0 c (fun _ => 0) (sA s 644 0)), e5, ch7, d7, h5, fun t ht => by unfold chd shp; rw [flo_in (by omega)]; by_cases h4 : hi t = 4 <;> simp [h4], and_1 B6, F1, hu⟩
end
