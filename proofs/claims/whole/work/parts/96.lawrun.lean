/-! ===== THE LAW'S LOOP (written by wip/whole/gen_law2.py) ===== -/
theorem vfm_fb (v : Int) : fb 36 (FP.fmul (FP.i2f (Int32.ofInt v)) (UInt32.ofNat 1040187392)) := by
  have h : fb 0 (UInt32.ofNat 1040187392) := by unfold fb; decide
  have h2 := fb_mul (m := 33) (k := 0) (fb_i2f (Int32.ofInt v)) h (by omega)
  exact fb_le h2 (by omega)
theorem vfm (v : Int) : vf_n32 (FP.fmul (FP.i2f (Int32.ofInt v)) (UInt32.ofNat 1040187392)) := fb_n32 (vfm_fb v) (by omega)
theorem vfn (v : Int) : FP.Core.val32 (FP.fmul (FP.i2f (Int32.ofInt v)) (UInt32.ofNat 1040187392)) ≠ .nan := fb_nan (vfm_fb v) (by omega)
theorem lc_self (x : Int) : pm_lc x x = 0 := by
  unfold pm_lc
  rw [if_neg (by omega), if_pos rfl]
set_option maxHeartbeats 4000000 in
theorem law_run (L : Nat) (xs : Nat → Int) (hL : L ≤ 240) (K681 K771 K898 : pS → Option (Int × pS)) (K1006 : UInt64 → UInt64 → pS → Option (Int × pS)) : ∀ (d N : Nat) (x5 : Int) (s : pS), d < N → 0 ≤ x5 → (L : Int) < x5 + 5 * d + 5 → x5 ≤ 1000 → Inv s → sN s + d ≤ 48 → ok (f_L_law_28 L xs K681 K771 K898 K1006 (fun s => some (1, s)) N x5 s) (fun q => q.1 = 1 ∧ sN q.2 ≤ 48) := by
  intro d
  induction d with
  | zero =>
    intro N x5 s h1 h2 h3 h4 hI hN
    obtain ⟨N, rfl⟩ : ∃ q, N = q + 1 := ⟨N - 1, by omega⟩
    rw [f_L_law_28]
    exact ok_ck (inR_of (by omega)) (ok_pos (by omega) (ok_some ⟨rfl, by omega⟩))
  | succ d ih =>
    intro N x5 s h1 h2 h3 h4 hI hN
    obtain ⟨N, rfl⟩ : ∃ q, N = q + 1 := ⟨N - 1, by omega⟩
    have next : (x5 + 5 ≤ (L : Int)) → ∀ s' : pS, Inv s' → sN s' ≤ sN s + 1 → ok (ck (inR (x5 + 5)) (f_L_law_28 L xs K681 K771 K898 K1006 (fun s => some (1, s)) N (x5 + 5) s')) (fun q => q.1 = 1 ∧ sN q.2 ≤ 48) := fun h5 s' hs' hn' => ok_ck (inR_of (by omega)) (ih N (x5 + 5) s' (by omega) (by omega) (by omega) (by omega) hs' (by omega))
    rw [f_L_law_28]
    unfold f_L_law_1011 f_L_law_204 f_L_law_309 f_L_law_683 f_L_law_773 f_L_law_900 f_L_law_1008 f_L_law_404 f_L_law_418 f_L_law_436 f_L_law_450
    unfold f_L_law_1011
    refine ok_ck (inR_of (by omega)) (ok_if (fun q => ok_some ⟨rfl, show sN s ≤ 48 by omega⟩) (fun q => ?_))
    have next := next (by omega)
    have m16 : 0 ≤ xs x5.toNat % 16 ∧ xs x5.toNat % 16 < 16 := by omega
    refine ok_ck (by omega) ?_
    refine ok_if (fun k0 => ?_) (fun k0 => ?_)
    · repeat (refine ok_ck (by first | omega | (refine inR_of ?_; omega) | exact vfm _) ?_)
      refine ok_bind (ok_mono (op_write _ (by omega) s hI) (fun q hq => ?_))
      repeat (refine ok_ck (by first | omega | (refine inR_of ?_; omega) | exact vfm _) ?_)
      refine ok_bind (ok_mono hq (fun r hr => ok_pos hr.1 (next _ hr.2.1 hr.2.2)))
    refine ok_if (fun k1 => ?_) (fun k1 => ?_)
    · repeat (refine ok_ck (by first | omega | (refine inR_of ?_; omega) | exact vfm _) ?_)
      refine ok_bind (ok_mono (op_template _ s hI) (fun q hq => ?_))
      repeat (refine ok_ck (by first | omega | (refine inR_of ?_; omega) | exact vfm _) ?_)
      refine ok_bind (ok_mono hq (fun r hr => ?_))
      unfold f_X6_thrown
      refine ok_bind (ok_some (ok_pos hr.1 (ok_if (fun z => next _ hr.2.2.1 hr.2.2.2) (fun z => ok_pos ?_ (next _ hr.2.2.1 hr.2.2.2)))))
      rw [hr.2.1 (Classical.not_not.mp z)]
      exact lc_self _
    refine ok_if (fun k2 => ?_) (fun k2 => ?_)
    · repeat (refine ok_ck (by first | omega | (refine inR_of ?_; omega) | exact vfm _) ?_)
      refine ok_bind (ok_mono (op_place s hI) (fun q hq => ?_))
      repeat (refine ok_ck (by first | omega | (refine inR_of ?_; omega) | exact vfm _) ?_)
      refine ok_bind (ok_mono hq (fun r hr => ok_pos hr.1 (next _ hr.2.1 hr.2.2)))
    refine ok_if (fun k3 => ?_) (fun k3 => ?_)
    · repeat (refine ok_ck (by first | omega | (refine inR_of ?_; omega) | exact vfm _) ?_)
      refine ok_bind (ok_mono (op_item _ _ _ _ s hI) (fun q hq => ?_))
      repeat (refine ok_ck (by first | omega | (refine inR_of ?_; omega) | exact vfm _) ?_)
      refine ok_bind (ok_mono hq (fun r hr => ?_))
      unfold f_X6_thrown
      refine ok_bind (ok_some (ok_pos hr.1 (ok_if (fun z => next _ hr.2.2.1 hr.2.2.2) (fun z => ok_pos ?_ (next _ hr.2.2.1 hr.2.2.2)))))
      rw [hr.2.1 (Classical.not_not.mp z)]
      exact lc_self _
    refine ok_if (fun k4 => ?_) (fun k4 => ?_)
    · repeat (refine ok_ck (by first | omega | (refine inR_of ?_; omega) | exact vfm _) ?_)
      refine ok_bind (ok_mono (op_need _ _ _ _ (vfn _) (vfn _) s hI) (fun q hq => ?_))
      repeat (refine ok_ck (by first | omega | (refine inR_of ?_; omega) | exact vfm _) ?_)
      refine ok_bind (ok_mono hq (fun r hr => ok_pos hr.1 (next _ hr.2.1 hr.2.2)))
    refine ok_if (fun k5 => ?_) (fun k5 => ?_)
    · repeat (refine ok_ck (by first | omega | (refine inR_of ?_; omega) | exact vfm _) ?_)
      have fin : ∀ a b : Int, (a = 0 ∨ a = 1) → (b = 0 ∨ b = 1) → ok (f_X5_flow a b s) (fun q => ok (f_X6_flow a b q) (fun r => ok (ck (inR (x5 + 5)) (f_L_law_28 L xs K681 K771 K898 K1006 (fun s => some (1, s)) N (x5 + 5) r)) (fun q => q.1 = 1 ∧ sN q.2 ≤ 48))) := fun a b ha hb => ok_mono (op_flow a b ha hb s hI) (fun q hq => ok_mono hq (fun r hr => next r hr.1 hr.2))
      refine ok_if (fun z1 => ?_) (fun z1 => ?_)
      · refine ok_ck (inR_of (by omega)) (ok_ck (by omega) (ok_if (fun z2 => ?_) (fun z2 => ?_)))
        · refine ok_bind (ok_mono (fin 0 0 (Or.inl rfl) (Or.inl rfl)) (fun q hq => ok_ck (inR_of (by omega)) (ok_ck (by omega) (ok_pos z1 (ok_ck (inR_of (by omega)) (ok_ck (by omega) (ok_pos z2 (ok_bind hq))))))))
        · refine ok_bind (ok_mono (fin 0 1 (Or.inl rfl) (Or.inr rfl)) (fun q hq => ok_ck (inR_of (by omega)) (ok_ck (by omega) (ok_pos z1 (ok_ck (inR_of (by omega)) (ok_ck (by omega) (ok_neg z2 (ok_bind hq))))))))
      · refine ok_ck (inR_of (by omega)) (ok_ck (by omega) (ok_if (fun z2 => ?_) (fun z2 => ?_)))
        · refine ok_bind (ok_mono (fin 1 0 (Or.inr rfl) (Or.inl rfl)) (fun q hq => ok_ck (inR_of (by omega)) (ok_ck (by omega) (ok_neg z1 (ok_ck (inR_of (by omega)) (ok_ck (by omega) (ok_pos z2 (ok_bind hq))))))))
        · refine ok_bind (ok_mono (fin 1 1 (Or.inr rfl) (Or.inr rfl)) (fun q hq => ok_ck (inR_of (by omega)) (ok_ck (by omega) (ok_neg z1 (ok_ck (inR_of (by omega)) (ok_ck (by omega) (ok_neg z2 (ok_bind hq))))))))
    refine ok_if (fun k6 => ?_) (fun k6 => ?_)
    · repeat (refine ok_ck (by first | omega | (refine inR_of ?_; omega) | exact vfm _) ?_)
      refine ok_bind (ok_mono (op_room _ _ _ (vfn _) (vfn _) s hI) (fun q hq => ?_))
      repeat (refine ok_ck (by first | omega | (refine inR_of ?_; omega) | exact vfm _) ?_)
      refine ok_bind (ok_mono hq (fun r hr => ok_pos hr.1 (next _ hr.2.1 hr.2.2)))
    refine ok_if (fun k7 => ?_) (fun k7 => ?_)
    · repeat (refine ok_ck (by first | omega | (refine inR_of ?_; omega) | exact vfm _) ?_)
      refine ok_bind (ok_mono (op_put _ _ s hI) (fun q hq => ?_))
      repeat (refine ok_ck (by first | omega | (refine inR_of ?_; omega) | exact vfm _) ?_)
      refine ok_bind (ok_mono hq (fun r hr => ok_pos hr.1 (next _ hr.2.1 hr.2.2)))
    refine ok_if (fun k8 => ?_) (fun k8 => ?_)
    · repeat (refine ok_ck (by first | omega | (refine inR_of ?_; omega) | exact vfm _) ?_)
      refine ok_bind (ok_mono (op_layout s hI) (fun q hq => ?_))
      repeat (refine ok_ck (by first | omega | (refine inR_of ?_; omega) | exact vfm _) ?_)
      refine ok_bind (ok_mono hq (fun r hr => ok_pos hr.1 (next _ hr.2.1 hr.2.2)))
    refine ok_if (fun k9 => ?_) (fun k9 => ?_)
    · repeat (refine ok_ck (by first | omega | (refine inR_of ?_; omega) | exact vfm _) ?_)
      refine ok_bind (ok_mono (op_tracks _ s hI) (fun q hq => ?_))
      repeat (refine ok_ck (by first | omega | (refine inR_of ?_; omega) | exact vfm _) ?_)
      refine ok_bind (ok_mono hq (fun r hr => ok_pos hr.1 (next _ hr.2.1 hr.2.2)))
    refine ok_if (fun k10 => ?_) (fun k10 => ?_)
    · repeat (refine ok_ck (by first | omega | (refine inR_of ?_; omega) | exact vfm _) ?_)
      refine ok_bind (ok_mono (op_size _ _ s hI) (fun q hq => ?_))
      repeat (refine ok_ck (by first | omega | (refine inR_of ?_; omega) | exact vfm _) ?_)
      refine ok_bind (ok_mono hq (fun r hr => ?_))
      unfold f_X6_thrown
      refine ok_bind (ok_some (ok_pos hr.1 (ok_if (fun z => next _ hr.2.2.1 hr.2.2.2) (fun z => ?_))))
      obtain ⟨e1, e2⟩ := hr.2.1 (Classical.not_not.mp z)
      obtain ⟨f1, f2⟩ := f2d_q e2 (by omega)
      refine ok_ck f1 (ok_pos ?_ (next _ hr.2.2.1 hr.2.2.2))
      show pm_dc .l (sD r.2 0) (FP.f2d r.1) = 0
      rw [e1]
      exact f2
    refine ok_if (fun k11 => ?_) (fun k11 => ?_)
    · repeat (refine ok_ck (by first | omega | (refine inR_of ?_; omega) | exact vfm _) ?_)
      refine ok_bind (ok_mono (op_at _ _ s hI) (fun q hq => ?_))
      repeat (refine ok_ck (by first | omega | (refine inR_of ?_; omega) | exact vfm _) ?_)
      refine ok_bind (ok_mono hq (fun r hr => ?_))
      unfold f_X6_thrown
      refine ok_bind (ok_some (ok_pos hr.1 (ok_if (fun z => next _ hr.2.2.1 hr.2.2.2) (fun z => ?_))))
      obtain ⟨e1, e2⟩ := hr.2.1 (Classical.not_not.mp z)
      obtain ⟨f1, f2⟩ := f2d_q e2 (by omega)
      refine ok_ck f1 (ok_pos ?_ (next _ hr.2.2.1 hr.2.2.2))
      show pm_dc .l (sD r.2 0) (FP.f2d r.1) = 0
      rw [e1]
      exact f2
    refine ok_if (fun k12 => ?_) (fun k12 => ?_)
    · repeat (refine ok_ck (by first | omega | (refine inR_of ?_; omega) | exact vfm _) ?_)
      refine ok_bind (ok_mono (op_line _ _ s hI) (fun q hq => ?_))
      repeat (refine ok_ck (by first | omega | (refine inR_of ?_; omega) | exact vfm _) ?_)
      refine ok_bind (ok_mono hq (fun r hr => ok_pos hr.1 (next _ hr.2.1 hr.2.2)))
    refine ok_if (fun k13 => ?_) (fun k13 => ?_)
    · repeat (refine ok_ck (by first | omega | (refine inR_of ?_; omega) | exact vfm _) ?_)
      refine ok_bind (ok_mono (op_extent _ _ s hI) (fun q hq => ?_))
      repeat (refine ok_ck (by first | omega | (refine inR_of ?_; omega) | exact vfm _) ?_)
      refine ok_bind (ok_mono hq (fun r hr => ?_))
      unfold f_X6_thrown
      refine ok_bind (ok_some (ok_pos hr.1 (ok_if (fun z => next _ hr.2.2.1 hr.2.2.2) (fun z => ?_))))
      obtain ⟨e1, e2⟩ := hr.2.1 (Classical.not_not.mp z)
      obtain ⟨f1, f2⟩ := f2d_q e2 (by omega)
      refine ok_ck f1 (ok_pos ?_ (next _ hr.2.2.1 hr.2.2.2))
      show pm_dc .l (sD r.2 0) (FP.f2d r.1) = 0
      rw [e1]
      exact f2
    refine ok_if (fun k14 => ?_) (fun k14 => ?_)
    · repeat (refine ok_ck (by first | omega | (refine inR_of ?_; omega) | exact vfm _) ?_)
      refine ok_bind (ok_mono (op_hit _ _ s hI) (fun q hq => ?_))
      repeat (refine ok_ck (by first | omega | (refine inR_of ?_; omega) | exact vfm _) ?_)
      refine ok_bind (ok_mono hq (fun r hr => ok_pos hr.1 (next _ hr.2.1 hr.2.2)))
    refine ok_pos (by omega) ?_
    repeat (refine ok_ck (by first | omega | (refine inR_of ?_; omega) | exact vfm _) ?_)
    refine ok_bind (ok_mono (op_free _ s hI) (fun q hq => ?_))
    obtain ⟨r, hr, e1, e2, e3, e4⟩ := hq
    obtain ⟨f1, f2⟩ := f2d_q e2 (by omega)
    refine ok_ck f1 (ok_bs (ok_ck (inR_of (by omega)) (ok_ck (by omega) (ok_eq hr ?_))))
    rw [← e1]
    exact ok_ck f1 (ok_bs (ok_pos f2 (next _ e3 e4)))
