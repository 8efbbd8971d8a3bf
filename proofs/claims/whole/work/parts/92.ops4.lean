/-! ===== ITEM, AND THE QUESTIONS ===== -/
theorem f2d_q {m : Nat} {x : UInt32} (h : fb m x) (hm : m ≤ 127) : vf_n64 (FP.f2d x) ∧ pm_dc .l (FP.f2d x) (FP.f2d x) = 0 := by
  have hf := fb_fin h hm
  have e : FP.f2d x = FP.Core.f2d x := FP.f2d_core ((FP.Core.notNaN_iff32 x).mpr hf.ne_nan)
  have hd := FP.Core.f2d_fin hf
  rw [e]
  refine ⟨?_, ?_⟩
  · unfold vf_n64
    rw [UInt64.le_iff_toNat_le, FP.Core.mask_toNat]
    have := (FP.Core.fin_bits _).mp hd
    show _ ≤ 9218868437227405312
    omega
  · unfold pm_dc
    show (Op.cmpValue (FP.Core.dcmp (FP.Core.f2d x) (FP.Core.f2d x)) .l).toInt = 0
    rw [FP.Core.dcmp_self hd.ne_nan]
    rfl
def opT (A B : pS → Option (Int × pS)) (s : pS) : Prop := ok (A s) (fun q => ok (B q.2) (fun r => sI r.2 600 0 = q.1 ∧ (q.1 = 0 → sA r.2 700 0 0 = r.1) ∧ Inv r.2 ∧ sN r.2 ≤ sN s + 1))
def opD (A : pS → Option (Int × pS)) (B : pS → Option (UInt32 × pS)) (s : pS) : Prop := ok (A s) (fun q => ok (B q.2) (fun r => sI r.2 600 0 = q.1 ∧ (q.1 = 0 → sD r.2 0 = FP.f2d r.1 ∧ fb 120 r.1) ∧ Inv r.2 ∧ sN r.2 ≤ sN s + 1))
theorem r600 (s : pS) (v : Int) : sI (wI s 600 0 v) 600 0 = v := by rw [sI_wI, if_pos ⟨rfl, rfl⟩]
theorem k6_fails00 (s : pS) : f_X6_fails 0 0 s = some (0, wI s 600 0 0) := by
  refine of_ok ?_
  unfold f_X6_fails f_X6_fails_18 f_X6_fails_33
  exact ok_pos rfl (ok_pos rfl (ok_bs (ok_pos (by rw [r600]; decide) (ok_ck (Or.inl rfl) (ok_some rfl)))))
theorem k6_fails01 (s : pS) : f_X6_fails 0 1 s = some (1, wI s 600 0 2) := by
  refine of_ok ?_
  unfold f_X6_fails f_X6_fails_18 f_X6_fails_33
  exact ok_pos rfl (ok_neg (by decide) (ok_bs (ok_neg (by rw [r600]; decide) (ok_ck (Or.inr rfl) (ok_some rfl)))))
theorem k6_fails1 (b : Int) (s : pS) : f_X6_fails 1 b s = some (1, wI s 600 0 1) := by
  refine of_ok ?_
  unfold f_X6_fails f_X6_fails_18 f_X6_fails_33
  exact ok_neg (by decide) (ok_bs (ok_neg (by rw [r600]; decide) (ok_ck (Or.inr rfl) (ok_some rfl))))
/-! size, at -/
theorem k5_isTrack (a t : Int) (s : pS) (h : a = 0 ∨ a = 1 → True) : f_X5_isTrack a t s = some (if (a = 0 ∨ a = 1) ∧ 0 ≤ t ∧ t < sI s 8 a.toNat then 1 else 0, s) := by
  refine of_ok ?_
  unfold f_X5_isTrack f_X5_isTrack_28 f_X5_isTrack_29
  refine ok_eq (k5_isAxis a s) ?_
  by_cases h2 : a = 0 ∨ a = 1
  · rw [if_pos h2]
    dsimp only
    refine ok_neg (show ¬ (1 : Int) = 0 by decide) (ok_if (fun q => ok_ck (by simp) (ok_some ?_)) (fun q => ok_ck (by omega) (ok_if (fun q2 => ok_ck (by simp) (ok_some ?_)) (fun q2 => ok_ck (by simp) (ok_some ?_)))))
    · rw [if_neg (show ¬ ((a = 0 ∨ a = 1) ∧ 0 ≤ t ∧ t < sI s 8 a.toNat) from fun hh => by have := hh.2.1; omega)]
    · rw [if_neg (show ¬ ((a = 0 ∨ a = 1) ∧ 0 ≤ t ∧ t < sI s 8 a.toNat) from fun hh => by have := hh.2.2; omega)]
    · rw [if_pos (show ((a = 0 ∨ a = 1) ∧ 0 ≤ t ∧ t < sI s 8 a.toNat) from ⟨h2, by omega⟩)]
  · rw [if_neg h2]
    refine ok_pos (show (0 : Int) = 0 from rfl) (ok_ck (by simp) (ok_some ?_))
    rw [if_neg (fun hh => h2 hh.1)]
theorem k6_isTrack (a t : Int) (s : pS) : f_X6_isTrack a t s = some (if (a = 0 ∨ a = 1) ∧ sI s 629 0 ≠ 0 ∧ 0 ≤ t ∧ t < sA s 633 0 a.toNat then 1 else 0, s) := by
  refine of_ok ?_
  unfold f_X6_isTrack f_X6_isTrack_32 f_X6_isTrack_33
  refine ok_eq (k6_isAxis a s) ?_
  by_cases h2 : a = 0 ∨ a = 1
  · rw [if_pos h2]
    dsimp only
    refine ok_neg (show ¬ (1 : Int) = 0 by decide) (ok_if (fun q => ok_ck (by simp) (ok_some ?_)) (fun q => ok_if (fun q1 => ok_ck (by simp) (ok_some ?_)) (fun q1 => ok_ck (by omega) (ok_if (fun q2 => ok_ck (by simp) (ok_some ?_)) (fun q2 => ok_ck (by simp) (ok_some ?_))))))
    · rw [if_neg (show ¬ ((a = 0 ∨ a = 1) ∧ sI s 629 0 ≠ 0 ∧ 0 ≤ t ∧ t < sA s 633 0 a.toNat) from fun hh => hh.2.1 q)]
    · rw [if_neg (show ¬ ((a = 0 ∨ a = 1) ∧ sI s 629 0 ≠ 0 ∧ 0 ≤ t ∧ t < sA s 633 0 a.toNat) from fun hh => by have := hh.2.2.1; omega)]
    · rw [if_neg (show ¬ ((a = 0 ∨ a = 1) ∧ sI s 629 0 ≠ 0 ∧ 0 ≤ t ∧ t < sA s 633 0 a.toNat) from fun hh => by have := hh.2.2.2; omega)]
    · rw [if_pos (show ((a = 0 ∨ a = 1) ∧ sI s 629 0 ≠ 0 ∧ 0 ≤ t ∧ t < sA s 633 0 a.toNat) from ⟨h2, q, by omega⟩)]
  · rw [if_neg h2]
    refine ok_pos (show (0 : Int) = 0 from rfl) (ok_ck (by simp) (ok_some ?_))
    rw [if_neg (fun hh => h2 hh.1)]
theorem trk_iff {s : pS} (hI : Inv s) (a t : Int) : ((a = 0 ∨ a = 1) ∧ 0 ≤ t ∧ t < sI s 8 a.toNat) ↔ ((a = 0 ∨ a = 1) ∧ sI s 629 0 ≠ 0 ∧ 0 ≤ t ∧ t < sA s 633 0 a.toNat) := by
  obtain ⟨hT, hR, hP0, hP1, hC, hI0, hI1, hF, hS0, hS1, hL0, hL1, hX⟩ := hI
  have key : ∀ A : Nat, gLs s A → ((0 ≤ t ∧ t < sI s 8 A) ↔ (sI s 629 0 ≠ 0 ∧ 0 ≤ t ∧ t < sA s 633 0 A)) := by
    intro A g
    rcases g.1 with l | l
    · rw [l.2.2.1, l.1]
      omega
    · rw [← l.2.2.2.1, l.1]
      omega
  constructor
  · intro h
    refine ⟨h.1, ?_⟩
    rcases h.1 with h1 | h1
    · subst h1; exact (key 0 hL0).mp h.2
    · subst h1; exact (key 1 hL1).mp h.2
  · intro h
    refine ⟨h.1, ?_⟩
    rcases h.1 with h1 | h1
    · subst h1; exact (key 0 hL0).mpr h.2
    · subst h1; exact (key 1 hL1).mpr h.2
theorem op_size (a t : Int) (s : pS) (hI : Inv s) : opD (f_L_size a t) (f_X6_size a t) s := by
  have hiff := trk_iff hI a t
  have hI' := hI
  obtain ⟨hT, hR, hP0, hP1, hC, hI0, hI1, hF, hS0, hS1, hL0, hL1, hX⟩ := hI'
  unfold opD f_L_size f_X5_size
  by_cases h : (a = 0 ∨ a = 1) ∧ 0 ≤ t ∧ t < sI s 8 a.toNat
  · have fact : t < 12 ∧ sB s 9 a.toNat t.toNat = sB s 634 0 (12 * a + t).toNat ∧ fb 120 (sB s 9 a.toNat t.toNat) := by
      have key : ∀ A : Nat, A < 2 → a = (A : Int) → gLs s A → t < 12 ∧ sB s 9 a.toNat t.toNat = sB s 634 0 (12 * a + t).toNat ∧ fb 120 (sB s 9 a.toNat t.toNat) := by
        intro A hA ha g
        subst ha
        rw [nnat] at h ⊢
        obtain ⟨T, hT⟩ : ∃ T : Nat, t = (T : Int) := ⟨t.toNat, by omega⟩
        subst hT
        rw [nnat, i12]
        rcases g.1 with l | l
        · omega
        · have hh := l.2.2.2.2.2 T (by omega)
          exact ⟨by omega, hh.1, hh.2.2.1⟩
      rcases h.1 with h1 | h1
      · exact key 0 (by omega) h1 hL0
      · exact key 1 (by omega) h1 hL1
    have hf := f2d_q fact.2.2 (by omega)
    refine ok_bind (ok_eq (k5_isTrack a t s (fun _ => trivial)) ?_)
    rw [if_pos h]
    refine ok_pos (show (1 : Int) ≠ 0 by decide) (ok_ck (by omega) (ok_ck (by omega) (ok_some ?_)))
    show ok (ck (vf_n64 (FP.f2d (sB s 9 a.toNat t.toNat))) (bs (wD s (pm_up (sD s) 0 (FP.f2d (sB s 9 a.toNat t.toNat)))) (fun s5 => some (0, s5)))) _
    refine ok_ck hf.1 (ok_bs (ok_some ?_))
    unfold f_X6_size f_X6_size_15 f_X6_size_37
    refine ok_eq (k6_isTrack a t _) ?_
    rw [if_pos (show (a = 0 ∨ a = 1) ∧ sI (wD s (pm_up (sD s) 0 (FP.f2d (sB s 9 a.toNat t.toNat)))) 629 0 ≠ 0 ∧ 0 ≤ t ∧ t < sA (wD s (pm_up (sD s) 0 (FP.f2d (sB s 9 a.toNat t.toNat)))) 633 0 a.toNat from hiff.mp h)]
    refine ok_pos (show (1 : Int) ≠ 0 by decide) (ok_eq (k6_fails00 _) ?_)
    refine ok_pos rfl (ok_ck (inR_of (by omega)) (ok_ck (inR_of (by omega)) (ok_ck (by omega) (ok_some ⟨?_, fun _ => ⟨?_, ?_⟩, ?_, ?_⟩))))
    · rw [sI_wI, if_pos ⟨rfl, rfl⟩]
    · show pm_up (sD s) 0 (FP.f2d (sB s 9 a.toNat t.toNat)) 0 = FP.f2d (sB s 634 0 (12 * a + t).toNat)
      rw [up_eq, fact.2.1]
    · show fb 120 (sB s 634 0 (12 * a + t).toNat)
      rw [← fact.2.1]; exact fact.2.2
    · exact inv_6 (fr4_wI (by unfold d6; omega) (fr4_wD (fr4_refl _ _))) hI
    · exact Nat.le_succ _
  · refine ok_bind (ok_eq (k5_isTrack a t s (fun _ => trivial)) ?_)
    rw [if_neg h]
    refine ok_neg (show ¬ (0 : Int) ≠ 0 by decide) (ok_some ?_)
    show ok (if (2 : Nat) = 2 then some ((1 : Int), wN s) else none) _
    refine ok_pos rfl (ok_some ?_)
    unfold f_X6_size f_X6_size_15 f_X6_size_37
    refine ok_eq (k6_isTrack a t _) ?_
    rw [if_neg (show ¬ ((a = 0 ∨ a = 1) ∧ sI (wN s) 629 0 ≠ 0 ∧ 0 ≤ t ∧ t < sA (wN s) 633 0 a.toNat) from fun hh => h (hiff.mpr hh))]
    refine ok_neg (show ¬ (0 : Int) ≠ 0 by decide) (ok_eq (k6_fails1 0 _) ?_)
    refine ok_neg (show ¬ (1 : Int) = 0 by decide) (ok_some ⟨?_, fun h0 => ?_, ?_, ?_⟩)
    · rw [sI_wI, if_pos ⟨rfl, rfl⟩]
    · exact absurd h0 (show ¬ (1 : Int) = 0 by decide)
    · exact inv_6 (fr4_wI (by unfold d6; omega) (fr4_wN (fr4_refl _ _))) hI
    · exact Nat.le_refl _
theorem op_at (a t : Int) (s : pS) (hI : Inv s) : opD (f_L_at a t) (f_X6_at a t) s := by
  have hiff := trk_iff hI a t
  have hI' := hI
  obtain ⟨hT, hR, hP0, hP1, hC, hI0, hI1, hF, hS0, hS1, hL0, hL1, hX⟩ := hI'
  unfold opD f_L_at f_X5_at
  by_cases h : (a = 0 ∨ a = 1) ∧ 0 ≤ t ∧ t < sI s 8 a.toNat
  · have fact : t < 12 ∧ sB s 10 a.toNat t.toNat = sB s 637 0 (12 * a + t).toNat ∧ fb 120 (sB s 10 a.toNat t.toNat) := by
      have key : ∀ A : Nat, A < 2 → a = (A : Int) → gLs s A → t < 12 ∧ sB s 10 a.toNat t.toNat = sB s 637 0 (12 * a + t).toNat ∧ fb 120 (sB s 10 a.toNat t.toNat) := by
        intro A hA ha g
        subst ha
        rw [nnat] at h ⊢
        obtain ⟨T, hT⟩ : ∃ T : Nat, t = (T : Int) := ⟨t.toNat, by omega⟩
        subst hT
        rw [nnat, i12]
        rcases g.1 with l | l
        · omega
        · have hh := l.2.2.2.2.2 T (by omega)
          exact ⟨by omega, hh.2.1, hh.2.2.2⟩
      rcases h.1 with h1 | h1
      · exact key 0 (by omega) h1 hL0
      · exact key 1 (by omega) h1 hL1
    have hf := f2d_q fact.2.2 (by omega)
    refine ok_bind (ok_eq (k5_isTrack a t s (fun _ => trivial)) ?_)
    rw [if_pos h]
    refine ok_pos (show (1 : Int) ≠ 0 by decide) (ok_ck (by omega) (ok_ck (by omega) (ok_some ?_)))
    show ok (ck (vf_n64 (FP.f2d (sB s 10 a.toNat t.toNat))) (bs (wD s (pm_up (sD s) 0 (FP.f2d (sB s 10 a.toNat t.toNat)))) (fun s5 => some (0, s5)))) _
    refine ok_ck hf.1 (ok_bs (ok_some ?_))
    unfold f_X6_at f_X6_at_15 f_X6_at_37
    refine ok_eq (k6_isTrack a t _) ?_
    rw [if_pos (show (a = 0 ∨ a = 1) ∧ sI (wD s (pm_up (sD s) 0 (FP.f2d (sB s 10 a.toNat t.toNat)))) 629 0 ≠ 0 ∧ 0 ≤ t ∧ t < sA (wD s (pm_up (sD s) 0 (FP.f2d (sB s 10 a.toNat t.toNat)))) 633 0 a.toNat from hiff.mp h)]
    refine ok_pos (show (1 : Int) ≠ 0 by decide) (ok_eq (k6_fails00 _) ?_)
    refine ok_pos rfl (ok_ck (inR_of (by omega)) (ok_ck (inR_of (by omega)) (ok_ck (by omega) (ok_some ⟨?_, fun _ => ⟨?_, ?_⟩, ?_, ?_⟩))))
    · rw [sI_wI, if_pos ⟨rfl, rfl⟩]
    · show pm_up (sD s) 0 (FP.f2d (sB s 10 a.toNat t.toNat)) 0 = FP.f2d (sB s 637 0 (12 * a + t).toNat)
      rw [up_eq, fact.2.1]
    · show fb 120 (sB s 637 0 (12 * a + t).toNat)
      rw [← fact.2.1]; exact fact.2.2
    · exact inv_6 (fr4_wI (by unfold d6; omega) (fr4_wD (fr4_refl _ _))) hI
    · exact Nat.le_succ _
  · refine ok_bind (ok_eq (k5_isTrack a t s (fun _ => trivial)) ?_)
    rw [if_neg h]
    refine ok_neg (show ¬ (0 : Int) ≠ 0 by decide) (ok_some ?_)
    show ok (if (2 : Nat) = 2 then some ((1 : Int), wN s) else none) _
    refine ok_pos rfl (ok_some ?_)
    unfold f_X6_at f_X6_at_15 f_X6_at_37
    refine ok_eq (k6_isTrack a t _) ?_
    rw [if_neg (show ¬ ((a = 0 ∨ a = 1) ∧ sI (wN s) 629 0 ≠ 0 ∧ 0 ≤ t ∧ t < sA (wN s) 633 0 a.toNat) from fun hh => h (hiff.mpr hh))]
    refine ok_neg (show ¬ (0 : Int) ≠ 0 by decide) (ok_eq (k6_fails1 0 _) ?_)
    refine ok_neg (show ¬ (1 : Int) = 0 by decide) (ok_some ⟨?_, fun h0 => ?_, ?_, ?_⟩)
    · rw [sI_wI, if_pos ⟨rfl, rfl⟩]
    · exact absurd h0 (show ¬ (1 : Int) = 0 by decide)
    · exact inv_6 (fr4_wI (by unfold d6; omega) (fr4_wN (fr4_refl _ _))) hI
    · exact Nat.le_refl _
/-! line, extent -/
theorem k5_line (i a : Int) (s : pS) (hC : gC (sI s 504 0) (sI s 619 0)) : f_X5_line i a s = some (if (0 ≤ i ∧ i < sI s 504 0) ∧ (a = 0 ∨ a = 1) then sA s 11 a.toNat i.toNat else 0, s) := by
  obtain ⟨c1, c2, c3⟩ := hC
  refine of_ok ?_
  unfold f_X5_line f_X5_line_29 f_X5_line_30
  refine ok_eq (k5_isItem i s) ?_
  by_cases h1 : 0 ≤ i ∧ i < sI s 504 0
  · rw [if_pos h1]
    refine ok_neg (show ¬ (1 : Int) = 0 by decide) (ok_eq (k5_isAxis a s) ?_)
    by_cases h2 : a = 0 ∨ a = 1
    · rw [if_pos h2, if_pos (show ((0 ≤ i ∧ i < sI s 504 0) ∧ (a = 0 ∨ a = 1)) from ⟨h1, h2⟩)]
      exact ok_neg (show ¬ (1 : Int) = 0 by decide) (ok_ck (by omega) (ok_ck (by omega) (ok_some rfl)))
    · rw [if_neg h2, if_neg (show ¬ ((0 ≤ i ∧ i < sI s 504 0) ∧ (a = 0 ∨ a = 1)) from fun hh => h2 hh.2)]
      exact ok_pos (show (0 : Int) = 0 from rfl) (ok_some rfl)
  · rw [if_neg h1, if_neg (show ¬ ((0 ≤ i ∧ i < sI s 504 0) ∧ (a = 0 ∨ a = 1)) from fun hh => h1 hh.1)]
    exact ok_pos (show (0 : Int) = 0 from rfl) (ok_some rfl)
theorem k6_lineOf (i a : Int) (s : pS) (h : sI s 630 0 ≤ 10) : f_X6_lineOf i a s = some (if (0 ≤ i ∧ i < sI s 630 0) ∧ (a = 0 ∨ a = 1) then sA s 631 0 (2 * i + a).toNat else 0, s) := by
  refine of_ok ?_
  unfold f_X6_lineOf f_X6_lineOf_19 f_X6_lineOf_33
  refine ok_if (fun q => ok_some ?_) (fun q => ok_if (fun q2 => ok_some ?_) (fun q2 => ok_eq (k6_isAxis a s) ?_))
  · rw [if_neg (show ¬ ((0 ≤ i ∧ i < sI s 630 0) ∧ (a = 0 ∨ a = 1)) from fun hh => by have := hh.1.1; omega)]
  · rw [if_neg (show ¬ ((0 ≤ i ∧ i < sI s 630 0) ∧ (a = 0 ∨ a = 1)) from fun hh => by have := hh.1.2; omega)]
  · by_cases h2 : a = 0 ∨ a = 1
    · rw [if_pos h2, if_pos (show ((0 ≤ i ∧ i < sI s 630 0) ∧ (a = 0 ∨ a = 1)) from ⟨by omega, h2⟩)]
      exact ok_pos (show (1 : Int) ≠ 0 by decide) (ok_ck (inR_of (by omega)) (ok_ck (inR_of (by omega)) (ok_ck (by omega) (ok_some rfl))))
    · rw [if_neg h2, if_neg (show ¬ ((0 ≤ i ∧ i < sI s 630 0) ∧ (a = 0 ∨ a = 1)) from fun hh => h2 hh.2)]
      exact ok_neg (show ¬ (0 : Int) ≠ 0 by decide) (ok_some rfl)
/-- the lines are the same -/
theorem line_same {s : pS} (hI : Inv s) (i a : Int) : (if (0 ≤ i ∧ i < sI s 504 0) ∧ (a = 0 ∨ a = 1) then sA s 11 a.toNat i.toNat else 0) = (if (0 ≤ i ∧ i < sI s 630 0) ∧ (a = 0 ∨ a = 1) then sA s 631 0 (2 * i + a).toNat else 0) ∧ sI s 630 0 ≤ 10 ∧ ((if (0 ≤ i ∧ i < sI s 504 0) ∧ (a = 0 ∨ a = 1) then sA s 11 a.toNat i.toNat else 0) ≠ 0 → i < 10 ∧ sB s 12 a.toNat i.toNat = sB s 632 0 (2 * i + a).toNat ∧ fb 120 (sB s 12 a.toNat i.toNat)) := by
  obtain ⟨hT, hR, hP0, hP1, hC, hI0, hI1, hF, hS0, hS1, hL0, hL1, hX⟩ := hI
  obtain ⟨c1, c2, c3⟩ := hC
  have l3 := hL0.2.2.2.1
  refine ⟨?_, by omega, ?_⟩
  all_goals
    by_cases h2 : a = 0 ∨ a = 1
    · have key : ∀ A : Nat, A < 2 → a = (A : Int) → gLs s A → ((if (0 ≤ i ∧ i < sI s 504 0) ∧ (a = 0 ∨ a = 1) then sA s 11 a.toNat i.toNat else 0) = (if (0 ≤ i ∧ i < sI s 630 0) ∧ (a = 0 ∨ a = 1) then sA s 631 0 (2 * i + a).toNat else 0)) ∧ ((if (0 ≤ i ∧ i < sI s 504 0) ∧ (a = 0 ∨ a = 1) then sA s 11 a.toNat i.toNat else 0) ≠ 0 → i < 10 ∧ sB s 12 a.toNat i.toNat = sB s 632 0 (2 * i + a).toNat ∧ fb 120 (sB s 12 a.toNat i.toNat)) := by
        intro A hA ha g
        subst ha
        obtain ⟨-, -, g3, g4, g5⟩ := g
        by_cases h1 : 0 ≤ i ∧ i < sI s 504 0
        · obtain ⟨I, hI⟩ : ∃ I : Nat, i = (I : Int) := ⟨i.toNat, by omega⟩
          subst hI
          rw [nnat, nnat, i2]
          obtain ⟨q1, q2⟩ := g5 I (by omega)
          rw [if_pos ⟨h1, h2⟩]
          by_cases h3 : (I : Int) < sI s 630 0
          · rw [if_pos ⟨⟨h1.1, h3⟩, h2⟩]
            obtain ⟨r1, r2, r3, r4⟩ := q1 h3
            exact ⟨r1, fun h0 => ⟨by omega, r4 h0⟩⟩
          · rw [if_neg (fun hh => h3 hh.1.2)]
            have := q2 (by omega)
            exact ⟨this, fun h0 => absurd this h0⟩
        · rw [if_neg (fun hh => h1 hh.1), if_neg (fun hh => h1 ⟨hh.1.1, by omega⟩)]
          exact ⟨rfl, fun h0 => absurd rfl h0⟩
      rcases h2 with h2 | h2
      · first | exact (key 0 (by omega) h2 hL0).1 | exact (key 0 (by omega) h2 hL0).2
      · first | exact (key 1 (by omega) h2 hL1).1 | exact (key 1 (by omega) h2 hL1).2
    · first
      | (rw [if_neg (fun hh => h2 hh.2), if_neg (fun hh => h2 hh.2)]; done)
      | (rw [if_neg (fun hh => h2 hh.2)]; exact fun h0 => absurd rfl h0)
theorem op_line (i a : Int) (s : pS) (hI : Inv s) : opI (f_X5_line i a) (f_X6_line i a) s := by
  obtain ⟨e1, e2, -⟩ := line_same hI i a
  unfold opI
  refine ok_of (k5_line i a s hI.2.2.2.2.1) ?_
  unfold f_X6_line
  refine ok_bs (ok_eq (k6_lineOf i a _ e2) (ok_some ⟨?_, inv_600 0 hI, Nat.le_succ _⟩))
  rw [e1]
  rfl
theorem op_extent (i a : Int) (s : pS) (hI : Inv s) : opD (f_L_extent i a) (f_X6_extent i a) s := by
  obtain ⟨e1, e2, e3⟩ := line_same hI i a
  obtain ⟨c1, c2, c3⟩ := id hI.2.2.2.2.1
  unfold opD f_L_extent f_X5_extent
  by_cases h : (if (0 ≤ i ∧ i < sI s 504 0) ∧ (a = 0 ∨ a = 1) then sA s 11 a.toNat i.toNat else 0) ≠ 0
  · have hc : (0 ≤ i ∧ i < sI s 504 0) ∧ (a = 0 ∨ a = 1) := Classical.byContradiction (fun hh => h (if_neg hh))
    obtain ⟨f1, f2, f3⟩ := e3 h
    have hf := f2d_q f3 (by omega)
    refine ok_bind (ok_eq (k5_line i a s hI.2.2.2.2.1) ?_)
    refine ok_pos h (ok_ck (by omega) (ok_ck (by omega) (ok_some ?_)))
    show ok (ck (vf_n64 (FP.f2d (sB s 12 a.toNat i.toNat))) (bs (wD s (pm_up (sD s) 0 (FP.f2d (sB s 12 a.toNat i.toNat)))) (fun s5 => some (0, s5)))) _
    refine ok_ck hf.1 (ok_bs (ok_some ?_))
    unfold f_X6_extent f_X6_extent_15 f_X6_extent_36
    refine ok_eq (k6_lineOf i a _ e2) ?_
    refine ok_pos (fun hh => h (e1.trans hh)) (ok_eq (k6_fails00 _) ?_)
    refine ok_pos rfl (ok_ck (inR_of (by omega)) (ok_ck (inR_of (by omega)) (ok_ck (by omega) (ok_some ⟨?_, fun _ => ⟨?_, ?_⟩, ?_, ?_⟩))))
    · rw [sI_wI, if_pos ⟨rfl, rfl⟩]
    · show pm_up (sD s) 0 (FP.f2d (sB s 12 a.toNat i.toNat)) 0 = FP.f2d (sB s 632 0 (2 * i + a).toNat)
      rw [up_eq, f2]
    · show fb 120 (sB s 632 0 (2 * i + a).toNat)
      rw [← f2]; exact f3
    · exact inv_6 (fr4_wI (by unfold d6; omega) (fr4_wD (fr4_refl _ _))) hI
    · exact Nat.le_succ _
  · refine ok_bind (ok_eq (k5_line i a s hI.2.2.2.2.1) ?_)
    refine ok_neg h (ok_some ?_)
    show ok (if (2 : Nat) = 2 then some ((1 : Int), wN s) else none) _
    refine ok_pos rfl (ok_some ?_)
    unfold f_X6_extent f_X6_extent_15 f_X6_extent_36
    refine ok_eq (k6_lineOf i a _ e2) ?_
    refine ok_neg (fun hh => h (fun h0 => hh (e1.symm.trans h0))) (ok_eq (k6_fails1 0 _) ?_)
    refine ok_neg (show ¬ (1 : Int) = 0 by decide) (ok_some ⟨?_, fun h0 => ?_, ?_, ?_⟩)
    · rw [sI_wI, if_pos ⟨rfl, rfl⟩]
    · exact absurd h0 (show ¬ (1 : Int) = 0 by decide)
    · exact inv_6 (fr4_wI (by unfold d6; omega) (fr4_wN (fr4_refl _ _))) hI
    · exact Nat.le_refl _
/-! free -/
theorem op_free (a : Int) (s : pS) (hI : Inv s) : ok (f_X5_free a s) (fun q => ok (f_X6_free a q.2) (fun r => q.1 = r.1 ∧ fb 120 q.1 ∧ Inv r.2 ∧ sN r.2 ≤ sN s + 1)) := by
  have hI' := hI
  obtain ⟨hT, hR, hP0, hP1, hC, hI0, hI1, hF, hS0, hS1, hL0, hL1, hX⟩ := hI'
  unfold f_X5_free f_X5_free_20
  refine ok_eq (k5_isAxis a s) ?_
  by_cases h2 : a = 0 ∨ a = 1
  · rw [if_pos h2]
    refine ok_neg (show ¬ (1 : Int) = 0 by decide) (ok_ck (by omega) (ok_some ?_))
    unfold f_X6_free f_X6_free_19 f_X6_free_29
    refine ok_bs (ok_eq (k6_isAxis a _) ?_)
    rw [if_pos h2]
    have key : ∀ A : Nat, a = (A : Int) → gLs s A → (sI s 629 0 = 0 → sF s 13 a.toNat = FP.fconst0) ∧ (sI s 629 0 ≠ 0 → sF s 13 a.toNat = sB s 638 0 a.toNat) ∧ fb 120 (sF s 13 a.toNat) := by
      intro A ha g
      subst ha
      rw [nnat]
      obtain ⟨g1, g2, -⟩ := g
      refine ⟨fun h0 => ?_, fun h0 => ?_, g2⟩
      · rcases g1 with l | l
        · exact l.2.2.2
        · omega
      · rcases g1 with l | l
        · omega
        · exact l.2.2.2.2.1
    have fact : (sI s 629 0 = 0 → sF s 13 a.toNat = FP.fconst0) ∧ (sI s 629 0 ≠ 0 → sF s 13 a.toNat = sB s 638 0 a.toNat) ∧ fb 120 (sF s 13 a.toNat) := by
      rcases h2 with h2 | h2
      · exact key 0 h2 hL0
      · exact key 1 h2 hL1
    refine ok_neg (show ¬ (1 : Int) = 0 by decide) (ok_if (fun q => ok_ck (by omega) (ok_some ⟨fact.2.1 q, fact.2.2, inv_600 0 hI, Nat.le_succ _⟩)) (fun q => ok_some ⟨fact.1 (Classical.not_not.mp q), fact.2.2, inv_600 0 hI, Nat.le_succ _⟩))
  · rw [if_neg h2]
    refine ok_pos (show (0 : Int) = 0 from rfl) (ok_some ?_)
    unfold f_X6_free f_X6_free_19 f_X6_free_29
    refine ok_bs (ok_eq (k6_isAxis a _) ?_)
    rw [if_neg h2]
    exact ok_pos (show (0 : Int) = 0 from rfl) (ok_some ⟨rfl, fb0 _, inv_600 0 hI, Nat.le_succ _⟩)
