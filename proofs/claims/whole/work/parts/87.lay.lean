/-! ===== LAYOUT: what stands behind it ===== -/
/-- the same at the fields that D names -/
def fr (D : Nat → Prop) (s s' : pS) : Prop := (∀ f i, D f → sI s' f i = sI s f i ∧ sF s' f i = sF s f i ∧ sA s' f i = sA s f i ∧ sB s' f i = sB s f i) ∧ sD s' = sD s ∧ sN s' = sN s
theorem fr_refl (D : Nat → Prop) (s : pS) : fr D s s := ⟨fun _ _ _ => ⟨rfl, rfl, rfl, rfl⟩, rfl, rfl⟩
theorem fr_trans {D : Nat → Prop} {s s' s'' : pS} (h1 : fr D s s') (h2 : fr D s' s'') : fr D s s'' :=
  ⟨fun f i hf => ⟨(h2.1 f i hf).1.trans (h1.1 f i hf).1, (h2.1 f i hf).2.1.trans (h1.1 f i hf).2.1, (h2.1 f i hf).2.2.1.trans (h1.1 f i hf).2.2.1, (h2.1 f i hf).2.2.2.trans (h1.1 f i hf).2.2.2⟩, h2.2.1.trans h1.2.1, h2.2.2.trans h1.2.2⟩
theorem fr_wI {D : Nat → Prop} {s s' : pS} {f i : Nat} {v : Int} (hf : ¬ D f) (h : fr D s s') : fr D s (wI s' f i v) :=
  fr_trans h ⟨fun g j hg => ⟨by rw [sI_wI, if_neg (show ¬ (g = f ∧ j = i) from fun hx => hf (hx.1 ▸ hg))], rfl, rfl, rfl⟩, rfl, rfl⟩
theorem fr_wF {D : Nat → Prop} {s s' : pS} {f i : Nat} {v : UInt32} (hf : ¬ D f) (h : fr D s s') : fr D s (wF s' f i v) :=
  fr_trans h ⟨fun g j hg => ⟨rfl, by rw [sF_wF, if_neg (show ¬ (g = f ∧ j = i) from fun hx => hf (hx.1 ▸ hg))], rfl, rfl⟩, rfl, rfl⟩
theorem fr_wA {D : Nat → Prop} {s s' : pS} {f i : Nat} {v : Nat → Int} (hf : ¬ D f) (h : fr D s s') : fr D s (wA s' f i v) :=
  fr_trans h ⟨fun g j hg => ⟨rfl, rfl, by rw [sA_wA, if_neg (show ¬ (g = f ∧ j = i) from fun hx => hf (hx.1 ▸ hg))], rfl⟩, rfl, rfl⟩
theorem fr_wB {D : Nat → Prop} {s s' : pS} {f i : Nat} {v : Nat → UInt32} (hf : ¬ D f) (h : fr D s s') : fr D s (wB s' f i v) :=
  fr_trans h ⟨fun g j hg => ⟨rfl, rfl, rfl, by rw [sB_wB, if_neg (show ¬ (g = f ∧ j = i) from fun hx => hf (hx.1 ▸ hg))]⟩, rfl, rfl⟩
/-- the fields that the class's layout leaves alone -/
def dC (f : Nat) : Prop := f ≤ 7 ∨ 300 ≤ f
/-- the fields that the reference's layout leaves alone -/
def dM (f : Nat) : Prop := f ≤ 599 ∨ (601 ≤ f ∧ f ≤ 628) ∨ 700 ≤ f
/-- what the reference was told -/
def dT (f : Nat) : Prop := 601 ≤ f ∧ f ≤ 628
/-- the fields that a sizing of the reference leaves alone -/
def dZ (f : Nat) : Prop := f ≤ 631 ∨ f = 633 ∨ 645 ≤ f
theorem fr_mk3 {s s' : pS} {i : Nat} {b l : Nat → UInt32} {c : Nat → Int} (h : fr dC s s') : fr dC s (mk3 s' i b l c) := by
  unfold mk3
  exact fr_wB (by unfold dC; omega) (fr_wB (by unfold dC; omega) (fr_wA (by unfold dC; omega) h))
theorem fr_mkP {s s' : pS} {m : Nat} {LM LO T LB : Nat → Int} {cm co : Int} (h : fr dC s s') : fr dC s (mkP s' m LM LO T LB cm co) := by
  unfold mkP
  exact fr_wI (by unfold dC; omega) (fr_wI (by unfold dC; omega) (fr_wA (by unfold dC; omega) (fr_wA (by unfold dC; omega) (fr_wA (by unfold dC; omega) (fr_wA (by unfold dC; omega) h)))))
theorem fr_mk6 {s s' : pS} {a : Nat} {b l : Nat → UInt32} {e c d : Nat → Int} (h : fr dZ s s') : fr dZ s (mk6 s' a b l e c d) := by
  unfold mk6
  exact fr_wA (by unfold dZ; omega) (fr_wA (by unfold dZ; omega) (fr_wA (by unfold dZ; omega) (fr_wB (by unfold dZ; omega) (fr_wB (by unfold dZ; omega) h))))
theorem fr_mkQ {s s' : pS} {m : Nat} {Q : PT} {cm co : Int} (h : fr dM s s') : fr dM s (mkQ s' m Q cm co) := by
  unfold mkQ
  exact fr_wI (by unfold dM; omega) (fr_wI (by unfold dM; omega) (fr_wA (by unfold dM; omega) (fr_wA (by unfold dM; omega) h)))
theorem fr_sub {D D' : Nat → Prop} {s s' : pS} (hD : ∀ f, D f → D' f) (h : fr D' s s') : fr D s s' := ⟨fun f i hf => h.1 f i (hD f hf), h.2⟩
/-- the sizes of the axis a, told by the class's fields -/
def szB (s : pS) (a c n : Nat) (L : Nat → Int) (b0 l3 : Nat → UInt32) (ch0 : Nat → Int) : Nat → UInt32 := zB6 (sA s 300 a) (sA s 302 a) L (sA s 5 a) (sB s 301 a) (sB s 303 a) (sB s 6 a) (sB s 7 a) (sF s 1 a) (sF s 2 a) (sI s 3 a) c n b0 l3 ch0
def szL (s : pS) (a c n : Nat) (L : Nat → Int) (b0 l0 : Nat → UInt32) : Nat → UInt32 := zL3 (sA s 300 a) (sA s 302 a) L (sA s 5 a) (sB s 301 a) (sB s 303 a) (sB s 6 a) (sB s 7 a) (sF s 2 a) c n b0 l0
/-- what the class has at the axis a -/
def axC (s u : pS) (a c n : Nat) (L : Nat → Int) : Prop := sI u 8 a = (c : Int) ∧ sA u 11 a = L ∧ ∃ (b0 l0 : Nat → UInt32) (ch0 : Nat → Int), ag c ch0 (shp (sA s 302 a)) ∧ (∀ t, t < c → fb 91 (szB s a c n L b0 (szL s a c n L b0 l0) ch0 t)) ∧ fb 114 (rst (sF s 1 a) (szB s a c n L b0 (szL s a c n L b0 l0) ch0) (sF s 2 a) c) ∧ (0 < fk (rst (sF s 1 a) (szB s a c n L b0 (szL s a c n L b0 l0) ch0) (sF s 2 a) c) → fb 12 (rst (sF s 1 a) (szB s a c n L b0 (szL s a c n L b0 l0) ch0) (sF s 2 a) c)) ∧
  sB u 9 a = szB s a c n L b0 (szL s a c n L b0 l0) ch0 ∧ sF u 13 a = rst (sF s 1 a) (szB s a c n L b0 (szL s a c n L b0 l0) ch0) (sF s 2 a) c ∧
  (∀ t, t < c → sB u 10 a t = posn (pos1 (rst (sF s 1 a) (szB s a c n L b0 (szL s a c n L b0 l0) ch0) (sF s 2 a) c) (sI s 3 a)) (sF s 2 a) (szB s a c n L b0 (szL s a c n L b0 l0) ch0) t) ∧
  (∀ j, j < n → L j ≠ 0 → sB u 12 a j = ext (szB s a c n L b0 (szL s a c n L b0 l0) ch0) (sF s 2 a) (L j - 1).toNat (sA s 5 a j).toNat)
/-- lines in the grid -/
def lnb (s : pS) (a c n : Nat) (L : Nat → Int) : Prop := ∀ j, j < n → 0 ≤ L j ∧ (L j ≠ 0 → L j - 1 + sA s 5 a j ≤ (c : Int))
theorem cax_of {s S : pS} {a c n : Nat} {L : Nat → Int} (ha : a < 2) (hP : gPs s a) (hI : gIs s a) (hS : gSs s a) (hn : sI s 504 0 = (n : Int)) (hn2 : n ≤ 10) (hfr : fr dC s S) (h8 : sI S 8 a = (c : Int)) (hc : c ≤ 12) (h205 : sI S 205 a = (n : Int)) (hL : sA S 11 a = L) (hb : lnb s a c n L) : cax S a c n := by
  have d : ∀ f, f ≤ 7 ∨ 300 ≤ f → dC f := fun f h => h
  obtain ⟨p1, p2, p3, p4⟩ := hP
  obtain ⟨g1, g2, g3, g4, g5, g6, g7, g8, g9⟩ := hS
  refine ⟨h8, hc, h205, hn2, fun j hj => ?_, ?_, fun j hj => ?_, fun t ht => ?_⟩
  · rw [hL, (hfr.1 5 a (d 5 (by omega))).2.2.1]
    obtain ⟨q1, -⟩ := hI j (by omega)
    have q := q1 (by rw [hn]; omega)
    have := hb j hj
    exact ⟨this.1, by omega, by omega, this.2⟩
  · rw [(hfr.1 1 a (d 1 (by omega))).2.1, (hfr.1 2 a (d 2 (by omega))).2.1]
    exact ⟨g6, g7, g8, g9⟩
  · rw [(hfr.1 6 a (d 6 (by omega))).2.2.2, (hfr.1 7 a (d 7 (by omega))).2.2.2]
    obtain ⟨-, -, q3, q4, q5, q6⟩ := hI j hj
    exact ⟨q3, q4, q5, q6⟩
  · rw [(hfr.1 301 a (d 301 (by omega))).2.2.2, (hfr.1 303 a (d 303 (by omega))).2.2.2]
    obtain ⟨-, -, -, -, -, -, -, r1, r2, r3, r4⟩ := p4 t ht
    exact ⟨r1, r2, r3, r4⟩
/-- the other axis is left alone -/
def frX (a : Nat) (s s' : pS) : Prop := ∀ f i, f < 100 → i ≠ a → sI s' f i = sI s f i ∧ sF s' f i = sF s f i ∧ sA s' f i = sA s f i ∧ sB s' f i = sB s f i
theorem L_work {s S : pS} {a c n : Nat} {L : Nat → Int} (ha : a < 2) (hP : gPs s a) (hI : gIs s a) (hS : gSs s a) (hn : sI s 504 0 = (n : Int)) (hn2 : n ≤ 10) (hfr : fr dC s S) (h8 : sI S 8 a = (c : Int)) (hc : c ≤ 12) (hL : sA S 11 a = L) (hb : lnb s a c n L) :
    ok (f_X2_workOut a n S) (fun u => fr dC s u ∧ axC s u a c n L ∧ frX a S u) := by
  have d : ∀ f, f ≤ 7 ∨ 300 ≤ f → dC f := fun f h => h
  have hfr2 : fr dC s (wI S 205 a (n : Int)) := fr_wI (by unfold dC; omega) hfr
  have hX : cax (wI S 205 a (n : Int)) a c n := cax_of ha hP hI hS hn hn2 hfr2 (by rw [sI_wI, if_neg (by omega)]; exact h8) hc (by rw [sI_wI, if_pos ⟨rfl, rfl⟩]) hL hb
  refine ok_mono (k_workOut a c n S hX) (fun u hu => ?_)
  obtain ⟨ch, ch', rfl, W6, F1, F2⟩ := hu
  have e1 : w6B (wI S 205 a (n : Int)) a c n ch = szB s a c n L (sB S 9 a) (szL s a c n L (sB S 9 a) (sB S 203 a)) (flo 0 c (shp (sA s 302 a)) ch) := by
    have t300 := (hfr.1 300 a (d 300 (by omega))).2.2.1
    have t302 := (hfr.1 302 a (d 302 (by omega))).2.2.1
    have t5 := (hfr.1 5 a (d 5 (by omega))).2.2.1
    have t301 := (hfr.1 301 a (d 301 (by omega))).2.2.2
    have t303 := (hfr.1 303 a (d 303 (by omega))).2.2.2
    have t6 := (hfr.1 6 a (d 6 (by omega))).2.2.2
    have t7 := (hfr.1 7 a (d 7 (by omega))).2.2.2
    have t1 := (hfr.1 1 a (d 1 (by omega))).2.1
    have t2 := (hfr.1 2 a (d 2 (by omega))).2.1
    have t3 := (hfr2.1 3 a (d 3 (by omega))).1
    unfold szB szL zB6 zL3 zB2 zL zB w6B w5B w4B w3L w2L w2B w1L w1B
    simp only [sA_wI, sB_wI, sF_wI, t300, t302, t5, t301, t303, t6, t7, t1, t2, t3, hL]
  have t1 := (hfr.1 1 a (d 1 (by omega))).2.1
  have t2 := (hfr.1 2 a (d 2 (by omega))).2.1
  have t3 := (hfr2.1 3 a (d 3 (by omega))).1
  have t5 := (hfr.1 5 a (d 5 (by omega))).2.2.1
  have e2 : w6F (wI S 205 a (n : Int)) a c n ch = rst (sF s 1 a) (szB s a c n L (sB S 9 a) (szL s a c n L (sB S 9 a) (sB S 203 a)) (flo 0 c (shp (sA s 302 a)) ch)) (sF s 2 a) c := by
    unfold w6F
    rw [e1, sF_wI, sF_wI, t1, t2]
  rw [e1] at W6
  rw [e2] at F1 F2
  refine ⟨?_, ?_, ?_⟩
  · exact fr_wB (by unfold dC; omega) (fr_wB (by unfold dC; omega) (fr_mk3 (fr_wF (by unfold dC; omega) hfr2)))
  · refine ⟨?_, ?_, sB S 9 a, sB S 203 a, flo 0 c (shp (sA s 302 a)) ch, fun t ht => flo_in (by omega), and_1 W6, F1, F2, ?_, ?_, fun t ht => ?_, fun j hj hj0 => ?_⟩
    · rw [sI_wB, sI_wB, mI, sI_wF, sI_wI, if_neg (by omega)]; exact h8
    · rw [sA_wB, sA_wB]
      show sA (mk3 _ a _ _ ch') 11 a = L
      rw [m11]; exact hL
    · rw [sB_wB, if_neg (by omega), sB_wB, if_neg (by omega), m9, e1]
    · rw [sF_wB, sF_wB, mF, sF_wF, if_pos ⟨rfl, rfl⟩, e2]
    · rw [sB_wB, if_neg (by omega), sB_wB, if_pos ⟨rfl, rfl⟩, flo_in (by omega), e1, e2, t2, t3]
    · rw [sB_wB, if_pos ⟨rfl, rfl⟩, flo_in (by omega)]
      unfold exI
      rw [hL, if_neg hj0, e1, t2, t5]
  · intro f i hf hi
    refine ⟨?_, ?_, ?_, ?_⟩
    · rw [sI_wB, sI_wB, mI, sI_wF, sI_wI, if_neg (by omega)]
    · rw [sF_wB, sF_wB, mF, sF_wF, if_neg (by omega), sF_wI]
    · rw [sA_wB, sA_wB]
      unfold mk3
      rw [sA_wB, sA_wB, sA_wA, if_neg (by omega), sA_wF, sA_wI]
    · rw [sB_wB, if_neg (by omega), sB_wB, if_neg (by omega)]
      unfold mk3
      rw [sB_wB, if_neg (by omega), sB_wB, if_neg (by omega), sB_wA, sB_wF, sB_wI]
/-- what the reference has at the axis a -/
def axM (s u : pS) (a c n : Nat) (L : Nat → Int) (l0 : Nat → UInt32) : Prop := ∃ (b0 l3 : Nat → UInt32) (ch0 : Nat → Int), ag c l3 (szL s a c n L b0 l0) ∧ ag c ch0 (shp (sA s 302 a)) ∧
  (∀ t, t < c → sB u 634 0 (12 * a + t) = szB s a c n L b0 l3 ch0 t) ∧ sB u 638 0 a = rst (sF s 1 a) (szB s a c n L b0 l3 ch0) (sF s 2 a) c ∧
  (∀ t, t < c → sB u 637 0 (12 * a + t) = posn (pos1 (rst (sF s 1 a) (szB s a c n L b0 l3 ch0) (sF s 2 a) c) (sI s 3 a)) (sF s 2 a) (szB s a c n L b0 l3 ch0) t) ∧
  (∀ j, j < n → sB u 632 0 (2 * j + a) = exM L (sA s 5 a) (szB s a c n L b0 l3 ch0) (sF s 2 a) j)
def frY (a : Nat) (s s' : pS) : Prop := ∀ b, b ≠ a → b < 2 → (∀ t, t < 12 → sB s' 634 0 (12 * b + t) = sB s 634 0 (12 * b + t) ∧ sB s' 637 0 (12 * b + t) = sB s 637 0 (12 * b + t)) ∧ sB s' 638 0 b = sB s 638 0 b ∧ ∀ j : Nat, sB s' 632 0 (2 * j + b) = sB s 632 0 (2 * j + b)
theorem mv_of {s S : pS} {a c n : Nat} {L : Nat → Int} (ha : a < 2) (hP : gPs s a) (hI : gIs s a) (hS : gSs s a) (hC : gC (sI s 504 0) (sI s 619 0)) (hn : sI s 504 0 = (n : Int)) (hn2 : n ≤ 10) (hfr : fr dT s S) (h633 : sA S 633 0 a = (c : Int)) (hc : c ≤ 12) (hL : ∀ j, j < n → sA S 631 0 (2 * j + a) = L j) (hb : lnb s a c n L) :
    mv S a c n (sA s 300 a) (sA s 302 a) L (sA s 5 a) (sB s 301 a) (sB s 303 a) (sB s 6 a) (sB s 7 a) (sF s 1 a) (sF s 2 a) (sI s 3 a) := by
  have d : ∀ f, 601 ≤ f ∧ f ≤ 628 → dT f := fun f h => h
  obtain ⟨p1, p2, p3, p4⟩ := hP
  obtain ⟨g1, g2, g3, g4, g5, g6, g7, g8, g9⟩ := hS
  refine ⟨ha, h633, hc, ?_, hn2, fun t ht => ?_, fun j hj => ?_, ?_, ?_, ?_, g6, g7, g8, g9⟩
  · rw [(hfr.1 619 0 (d 619 (by omega))).1, ← hC.1]; exact hn
  · rw [(hfr.1 604 0 (d 604 (by omega))).2.2.1, (hfr.1 605 0 (d 605 (by omega))).2.2.1, (hfr.1 606 0 (d 606 (by omega))).2.2.1, (hfr.1 607 0 (d 607 (by omega))).2.2.2, (hfr.1 608 0 (d 608 (by omega))).2.2.2]
    obtain ⟨r1, r2, r3, r4, r5, r6, r7, r8, r9, r10, r11⟩ := p4 t (by omega)
    rw [← p1]
    refine ⟨?_, ?_, ?_, r3, ?_, r6, r7, r8, r9, r10, r11⟩
    · split
      · rename_i q; exact (r2 q).1.symm
      · rename_i q; exact (r1 (by omega)).1.symm
    · split
      · rename_i q; exact (r2 q).2.symm
      · rename_i q; exact (r1 (by omega)).2.1.symm
    · intro h0
      by_cases q : sI s 304 a ≤ (t : Int)
      · have := (r2 q).1; omega
      · exact ((r1 (by omega)).2.2.1 h0).symm
    · intro h0
      by_cases q : sI s 304 a ≤ (t : Int)
      · have := (r2 q).2; omega
      · exact ((r1 (by omega)).2.2.2 h0).symm
  · rw [(hfr.1 621 0 (d 621 (by omega))).2.2.1, (hfr.1 622 0 (d 622 (by omega))).2.2.2, (hfr.1 623 0 (d 623 (by omega))).2.2.2]
    obtain ⟨q1, -, q3, q4, q5, q6⟩ := hI j (by omega)
    obtain ⟨x1, x2, x3, x4, x5, x6, x7, x8, x9⟩ := q1 (by rw [hn]; omega)
    have hbj := hb j hj
    exact ⟨hL j hj, x2.symm, x3.symm, x4.symm, hbj.1, x7, x8, hbj.2, q3, q4, q5, q6⟩
  · rw [(hfr.1 626 0 (d 626 (by omega))).2.2.2]; exact g1.symm
  · rw [(hfr.1 627 0 (d 627 (by omega))).2.2.2]; exact g2.symm
  · rw [(hfr.1 628 0 (d 628 (by omega))).2.2.1]; exact g3.symm
theorem L_sizes {s S : pS} {a c n : Nat} {L : Nat → Int} (l0 : Nat → UInt32) (ha : a < 2) (hP : gPs s a) (hI : gIs s a) (hS : gSs s a) (hC : gC (sI s 504 0) (sI s 619 0)) (hn : sI s 504 0 = (n : Int)) (hn2 : n ≤ 10) (hfr : fr dT s S) (h633 : sA S 633 0 a = (c : Int)) (hc : c ≤ 12) (hL : ∀ j, j < n → sA S 631 0 (2 * j + a) = L j) (hb : lnb s a c n L) :
    ok (f_X6_sizes a S) (fun u => fr dZ S u ∧ axM s u a c n L l0 ∧ frY a S u) := by
  have hV := mv_of ha hP hI hS hC hn hn2 hfr h633 hc hL hb
  refine ok_mono (k6_sizes hV l0) (fun u hu => ?_)
  obtain ⟨b0, l3, l, ch0, e, ch, d, g1, g2, g3, g4, rfl⟩ := hu
  refine ⟨?_, ⟨b0, l3, ch0, g1, g2, fun t ht => ?_, ?_, fun t ht => ?_, fun j hj => ?_⟩, fun b hb2 hb3 => ⟨fun t ht => ⟨?_, ?_⟩, ?_, fun j => ?_⟩⟩
  · exact fr_wB (by unfold dZ; omega) (fr_wB (by unfold dZ; omega) (fr_mk6 (fr_wB (by unfold dZ; omega) (fr_refl _ _))))
  · rw [sB_wB, if_neg (by omega), sB_wB, if_neg (by omega), n634, pt_at (by omega)]
    rfl
  · rw [sB_wB, if_neg (by omega), sB_wB, if_neg (by omega), n638, sB_wB, if_pos ⟨rfl, rfl⟩, up_eq]
    rfl
  · rw [sB_wB, if_neg (by omega), sB_wB, if_pos ⟨rfl, rfl⟩, pt_at (by omega), flo_in (by omega)]
    rfl
  · rw [sB_wB, if_pos ⟨rfl, rfl⟩]
    exact flE_at (e := fun j => 2 * j + a) (fun i j h => by have h' : 2 * i + a = 2 * j + a := h; omega) hj
  · rw [sB_wB, if_neg (by omega), sB_wB, if_neg (by omega), n634, pt_other ht hb2, sB_wB, if_neg (by omega)]
  · rw [sB_wB, if_neg (by omega), sB_wB, if_pos ⟨rfl, rfl⟩, pt_other ht hb2]
  · rw [sB_wB, if_neg (by omega), sB_wB, if_neg (by omega), n638, sB_wB, if_pos ⟨rfl, rfl⟩, up_ne _ _ hb2]
  · rw [sB_wB, if_pos ⟨rfl, rfl⟩, flE_not (fun t ht h => by have h' : 2 * j + b = 2 * t + a := h; omega)]
