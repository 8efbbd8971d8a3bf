/-! ===== THE OTHER SMALL OPERATIONS ===== -/
theorem k5_isAxis (a : Int) (s : pS) : f_X5_isAxis a s = some (if a = 0 ∨ a = 1 then 1 else 0, s) := by
  unfold f_X5_isAxis f_X5_isAxis_9 f_X5_isAxis_14
  by_cases h0 : a = 0
  · rw [if_pos h0, if_pos (Or.inl h0), ck_pos (Or.inr rfl)]
  · rw [if_neg h0]
    by_cases h1 : a = 1
    · rw [if_neg (show ¬ a ≠ 1 from fun h => h h1), if_pos (Or.inr h1), ck_pos (Or.inr rfl)]
    · rw [if_pos h1, if_neg (show ¬ (a = 0 ∨ a = 1) by omega), ck_pos (Or.inl rfl)]
theorem k6_isAxis (a : Int) (s : pS) : f_X6_isAxis a s = some (if a = 0 ∨ a = 1 then 1 else 0, s) := by
  unfold f_X6_isAxis f_X6_isAxis_9 f_X6_isAxis_14
  by_cases h0 : a = 0
  · rw [if_pos h0, if_pos (Or.inl h0), ck_pos (Or.inr rfl)]
  · rw [if_neg h0]
    by_cases h1 : a = 1
    · rw [if_neg (show ¬ a ≠ 1 from fun h => h h1), if_pos (Or.inr h1), ck_pos (Or.inr rfl)]
    · rw [if_pos h1, if_neg (show ¬ (a = 0 ∨ a = 1) by omega), ck_pos (Or.inl rfl)]
theorem k5_isItem (i : Int) (s : pS) : f_X5_isItem i s = some (if 0 ≤ i ∧ i < sI s 504 0 then 1 else 0, s) := by
  unfold f_X5_isItem f_X5_isItem_16 f_X5_isItem_17
  by_cases h0 : i < 0
  · rw [if_pos h0, if_neg (show ¬ (0 ≤ i ∧ i < sI s 504 0) by omega), ck_pos (Or.inl rfl)]
  · rw [if_neg h0]
    by_cases h1 : sI s 504 0 ≤ i
    · rw [if_pos h1, if_neg (show ¬ (0 ≤ i ∧ i < sI s 504 0) by omega), ck_pos (Or.inl rfl)]
    · rw [if_neg h1, if_pos (show 0 ≤ i ∧ i < sI s 504 0 by omega), ck_pos (Or.inr rfl)]
theorem k6_outside (v b c : Int) (s : pS) : f_X6_outside v b c s = some (if b ≤ v ∧ v ≤ c then 0 else 1, s) := by
  unfold f_X6_outside f_X6_outside_10 f_X6_outside_15
  by_cases h0 : v < b
  · rw [if_pos h0, if_neg (show ¬ (b ≤ v ∧ v ≤ c) by omega), ck_pos (Or.inr rfl)]
  · rw [if_neg h0]
    by_cases h1 : v ≤ c
    · rw [if_pos h1, if_pos (show b ≤ v ∧ v ≤ c by omega), ck_pos (Or.inl rfl)]
    · rw [if_neg h1, if_neg (show ¬ (b ≤ v ∧ v ≤ c) by omega), ck_pos (Or.inr rfl)]
/-- is it a size -/
def msr (x : UInt32) : Int := if pm_fc .l x FP.fconst0 < 0 then 0 else if 0 < pm_fc .g x (UInt32.ofNat 1166016512) then 0 else 1
def wos (x : UInt32) : UInt32 := if pm_fc .l x FP.fconst0 ≠ 0 then x else FP.fconst0
theorem k5_isMeasure (x : UInt32) (s : pS) : f_X5_isMeasure x s = some (msr x, s) := by
  unfold f_X5_isMeasure f_X5_isMeasure_17 f_X5_isMeasure_18 msr
  split
  · rw [ck_pos (Or.inl rfl)]
  · split
    · rw [ck_pos (Or.inl rfl)]
    · rw [ck_pos (Or.inr rfl)]
theorem k6_isSize (x : UInt32) (s : pS) : f_X6_isSize x s = some (msr x, s) := by
  unfold f_X6_isSize f_X6_isSize_17 f_X6_isSize_18 msr
  split
  · rw [ck_pos (Or.inl rfl)]
  · split
    · rw [ck_pos (Or.inl rfl)]
    · rw [ck_pos (Or.inr rfl)]
theorem k5_withoutSign (x : UInt32) (s : pS) : f_X5_withoutSign x s = some (wos x, s) := by
  unfold f_X5_withoutSign f_X5_withoutSign_11 wos
  split <;> rfl
theorem msr_01 (x : UInt32) : msr x = 0 ∨ msr x = 1 := by
  unfold msr
  (repeat' split) <;> omega
theorem c4096 : fb 12 (UInt32.ofNat 1166016512) ∧ nn (UInt32.ofNat 1166016512) ∧ fk (UInt32.ofNat 1166016512) = 1166016512 := by
  refine ⟨?_, ?_, ?_⟩
  · unfold fb; decide
  · unfold nn; decide
  · decide
/-- a size has no minus sign and is at most 4096 -/
theorem wos_q {x : UInt32} (hx : FP.Core.val32 x ≠ .nan) (h : msr x ≠ 0) : nn (wos x) ∧ fb 12 (wos x) := by
  have h1 := fc_lt hx (fb_nan (fb0 0) (by omega)) .l
  have h2 := fc_lt hx (fb_nan c4096.1 (by omega)) .g
  rw [fk0] at h1
  unfold msr at h
  by_cases q1 : pm_fc .l x FP.fconst0 < 0
  · rw [if_pos q1] at h; omega
  · rw [if_neg q1] at h
    by_cases q2 : 0 < pm_fc .g x (UInt32.ofNat 1166016512)
    · rw [if_pos q2] at h; omega
    · have r1 : 0 ≤ fk x := Int.not_lt.mp (fun hh => q1 (h1.1.mpr hh))
      have r2 : fk x ≤ fk (UInt32.ofNat 1166016512) := Int.not_lt.mp (fun hh => q2 (h2.2.2.2.1.mpr hh))
      unfold wos
      split
      · rename_i q3
        have r3 : 0 < fk x := by
          have : fk x ≠ 0 := fun hh => q3 (h1.2.2.2.2.mpr hh)
          omega
        have := pos_fb c4096.1 c4096.2.1 r3 r2
        exact ⟨this.2, this.1⟩
      · exact ⟨nn0, fb0 _⟩
theorem op_need (i a : Int) (x y : UInt32) (hx : FP.Core.val32 x ≠ .nan) (hy : FP.Core.val32 y ≠ .nan) (s : pS) (hI : Inv s) : opI (f_X5_need i a x y) (f_X6_need i a x y) s := by
  have hI' := hI
  obtain ⟨hT, hR, hP0, hP1, hC, hI0, hI1, hF, hS0, hS1, hL0, hL1, hX⟩ := hI'
  have bad : ∀ v, Inv (wI s 600 0 v) := fun v => ⟨hT, hR, hP0, hP1, hC, hI0, hI1, hF, hS0, hS1, hL0, hL1, hX⟩
  obtain ⟨c1, c2, c3⟩ := id hC
  unfold opI
  by_cases hok : (0 ≤ i ∧ i < sI s 504 0) ∧ (a = 0 ∨ a = 1) ∧ msr x ≠ 0 ∧ msr y ≠ 0 ∧ pm_fc .l x y ≤ 0
  · obtain ⟨h1, h2, h3, h4, h5⟩ := hok
    have m3 : msr x = 1 := by have := msr_01 x; omega
    have m4 : msr y = 1 := by have := msr_01 y; omega
    have w1 := wos_q hx h3
    have w2 := wos_q hy h4
    have key : ∀ A : Nat, A < 2 → a = (A : Int) → gIs s A → (∀ B : Nat, B < 2 → B ≠ A → gIs s B) → ok (f_X5_need i a x y s) (fun q => ok (f_X6_need i a x y q.2) (fun r => q.1 = r.1 ∧ Inv r.2 ∧ sN r.2 ≤ sN s + 1)) := by
      intro A hA ha gA gB
      obtain ⟨j, hj⟩ : ∃ j : Nat, i = (j : Int) := ⟨i.toNat, by omega⟩
      subst hj
      subst ha
      have hj10 : j < 10 := by omega
      unfold f_X5_need
      refine ok_eq (k5_isItem _ s) ?_
      rw [if_pos h1]
      refine ok_neg (show ¬ (1 : Int) = 0 by decide) (ok_eq (k5_isAxis _ s) ?_)
      rw [if_pos h2]
      refine ok_pos (show (1 : Int) ≠ 0 by decide) (ok_eq (k5_isMeasure x s) ?_)
      rw [m3]
      refine ok_neg (show ¬ (1 : Int) = 0 by decide) (ok_eq (k5_isMeasure y s) ?_)
      rw [m4]
      refine ok_neg (show ¬ (1 : Int) = 0 by decide) (ok_pos h5 (ok_ck (by omega) (ok_eq (k5_withoutSign x s) (ok_ck (by omega) (ok_bs (ok_ck (by omega) (ok_eq (k5_withoutSign y _) (ok_ck (by omega) (ok_bs (ok_some ?_))))))))))
      dsimp only
      simp only [nnat]
      have e7 : ∀ v, sB (wB s 6 A v) 7 A = sB s 7 A := fun v => by rw [sB_wB, if_neg (by omega)]
      rw [e7]
      unfold f_X6_need f_X6_need_48 f_X6_need_70 f_X6_need_93
      refine ok_bs ?_
      generalize hs1 : wI (wB (wB s 6 A (pm_up (sB s 6 A) j (wos x))) 7 A (pm_up (sB s 7 A) j (wos y))) 600 0 0 = s1
      have q619 : sI s1 619 0 = sI s 504 0 := by rw [← hs1, c1]; rfl
      rw [q619]
      refine ok_ck (inR_of (by omega)) (ok_eq (k6_outside _ _ _ s1) ?_)
      rw [if_pos (show 0 ≤ (j : Int) ∧ (j : Int) ≤ sI s 504 0 - 1 by omega)]
      refine ok_neg (show ¬ (0 : Int) ≠ 0 by decide) (ok_eq (k6_isAxis _ s1) ?_)
      rw [if_pos h2]
      refine ok_neg (show ¬ (1 : Int) = 0 by decide) (ok_eq (k6_isSize x s1) ?_)
      rw [m3]
      refine ok_neg (show ¬ (1 : Int) = 0 by decide) (ok_eq (k6_isSize y s1) ?_)
      rw [m4]
      refine ok_neg (show ¬ (1 : Int) = 0 by decide) (ok_pos h5 (ok_ck (inR_of (by omega)) (ok_ck (inR_of (by omega)) ?_)))
      have e623 : ∀ v, sB (wB s1 622 0 v) 623 0 = sB s1 623 0 := fun v => by rw [sB_wB, if_neg (by omega)]
      have f622 : sB s1 622 0 = sB s 622 0 := by rw [← hs1]; rw [sB_wI, sB_wB, if_neg (by omega), sB_wB, if_neg (by omega)]
      have f623 : sB s1 623 0 = sB s 623 0 := by rw [← hs1]; rw [sB_wI, sB_wB, if_neg (by omega), sB_wB, if_neg (by omega)]
      have goal : ∀ (u v : UInt32), u = wos x → v = wos y → (1 : Int) = 1 ∧ Inv (wB (wB s1 622 0 (pm_up (sB s1 622 0) (2 * (j : Int) + (A : Int)).toNat u)) 623 0 (pm_up (sB (wB s1 622 0 (pm_up (sB s1 622 0) (2 * (j : Int) + (A : Int)).toNat u)) 623 0) (2 * (j : Int) + (A : Int)).toNat v)) ∧ sN (wB (wB s1 622 0 (pm_up (sB s1 622 0) (2 * (j : Int) + (A : Int)).toNat u)) 623 0 (pm_up (sB (wB s1 622 0 (pm_up (sB s1 622 0) (2 * (j : Int) + (A : Int)).toNat u)) 623 0) (2 * (j : Int) + (A : Int)).toNat v)) ≤ sN s + 1 := by
        intro u v hu hv
        rw [hu, hv, i2, e623, f622, f623]
        refine ⟨rfl, ?_, ?_⟩
        · generalize hw : wB (wB s1 622 0 (pm_up (sB s 622 0) (2 * j + A) (wos x))) 623 0 (pm_up (sB s 623 0) (2 * j + A) (wos y)) = w
          have w622 : sB w 622 0 = pm_up (sB s 622 0) (2 * j + A) (wos x) := by rw [← hw, sB_wB, if_neg (by omega), sB_wB, if_pos ⟨rfl, rfl⟩]
          have w623 : sB w 623 0 = pm_up (sB s 623 0) (2 * j + A) (wos y) := by rw [← hw, sB_wB, if_pos ⟨rfl, rfl⟩]
          have wI' : ∀ f, f ≠ 600 → ∀ i, sI w f i = sI s f i := fun f hf i => by rw [← hw, ← hs1, sI_wB, sI_wB, sI_wI, if_neg (by omega), sI_wB, sI_wB]
          have wA' : ∀ f i, sA w f i = sA s f i := fun f i => by rw [← hw, ← hs1]; rfl
          have wF' : ∀ f i, sF w f i = sF s f i := fun f i => by rw [← hw, ← hs1]; rfl
          have wB' : ∀ f i, f ≠ 622 → f ≠ 623 → (f ≠ 6 ∧ f ≠ 7 ∨ i ≠ A) → sB w f i = sB s f i := fun f i h1 h2 h3 => by rw [← hw, ← hs1, sB_wB, if_neg (by omega), sB_wB, if_neg (by omega), sB_wI, sB_wB, if_neg (by omega), sB_wB, if_neg (by omega)]
          have w6 : sB w 6 A = pm_up (sB s 6 A) j (wos x) := by rw [← hw, ← hs1, sB_wB, if_neg (by omega), sB_wB, if_neg (by omega), sB_wI, sB_wB, if_neg (by omega), sB_wB, if_pos ⟨rfl, rfl⟩]
          have w7 : sB w 7 A = pm_up (sB s 7 A) j (wos y) := by rw [← hw, ← hs1, sB_wB, if_neg (by omega), sB_wB, if_neg (by omega), sB_wI, sB_wB, if_pos ⟨rfl, rfl⟩]
          have gi : ∀ B, B < 2 → gIs w B := by
            intro B hB
            unfold gIs
            rw [wI' 504 (by decide), wA', wA', w622, w623, wA', wA']
            by_cases hBA : B = A
            · subst hBA
              rw [w6, w7]
              intro k hk
              obtain ⟨g1, g2, g3, g4, g5, g6⟩ := gA k hk
              by_cases hkj : k = j
              · subst hkj
                rw [up_eq, up_eq, up_eq, up_eq]
                refine ⟨fun hlt => ?_, fun hge => by omega, w1.1, w1.2, w2.1, w2.2⟩
                obtain ⟨x1, x2, x3, x4, x5⟩ := g1 hlt
                exact ⟨x1, x2, rfl, rfl, x5⟩
              · rw [up_ne _ _ hkj, up_ne _ _ hkj, up_ne _ _ (by omega), up_ne _ _ (by omega)]
                exact ⟨g1, g2, g3, g4, g5, g6⟩
            · rw [wB' 6 B (by decide) (by decide) (Or.inr hBA), wB' 7 B (by decide) (by decide) (Or.inr hBA)]
              intro k hk
              obtain ⟨g1, g2, g3, g4, g5, g6⟩ := gB B hB hBA k hk
              rw [up_ne _ _ (by omega), up_ne _ _ (by omega)]
              exact ⟨g1, g2, g3, g4, g5, g6⟩
          have gp : ∀ B, gPs s B → gPs w B := by
            intro B h
            unfold gPs
            rw [wI' 304 (by decide), wA', wB' 301 B (by decide) (by decide) (Or.inl (by decide)), wA', wB' 303 B (by decide) (by decide) (Or.inl (by decide)), wA', wA', wA', wB' 607 0 (by decide) (by decide) (Or.inl (by decide)), wB' 608 0 (by decide) (by decide) (Or.inl (by decide))]
            exact h
          have gs : ∀ B, gSs s B → gSs w B := by
            intro B h
            unfold gSs
            rw [wF', wF', wI' 3 (by decide), wB' 626 0 (by decide) (by decide) (Or.inl (by decide)), wB' 627 0 (by decide) (by decide) (Or.inl (by decide)), wA']
            exact h
          have gl : ∀ B, gLs s B → gLs w B := by
            intro B h
            unfold gLs
            rw [wI' 504 (by decide), wI' 629 (by decide), wI' 630 (by decide), wI' 8 (by decide), wB' 9 B (by decide) (by decide) (Or.inl (by decide)), wB' 10 B (by decide) (by decide) (Or.inl (by decide)), wA', wB' 12 B (by decide) (by decide) (Or.inl (by decide)), wF', wA', wB' 634 0 (by decide) (by decide) (Or.inl (by decide)), wB' 637 0 (by decide) (by decide) (Or.inl (by decide)), wA', wB' 632 0 (by decide) (by decide) (Or.inl (by decide)), wB' 638 0 (by decide) (by decide) (Or.inl (by decide))]
            exact h
          refine ⟨?_, ?_, gp 0 hP0, gp 1 hP1, ?_, gi 0 (by omega), gi 1 (by omega), ?_, gs 0 hS0, gs 1 hS1, gl 0 hL0, gl 1 hL1, ?_⟩
          · unfold gTs
            rw [wI' 403 (by decide), wI' 601 (by decide), wA', wA']
            exact hT
          · rw [wI' 505 (by decide), wI' 603 (by decide)]; exact hR
          · rw [wI' 504 (by decide), wI' 619 (by decide)]; exact hC
          · rw [wI' 506 (by decide), wI' 507 (by decide), wI' 624 (by decide), wI' 625 (by decide)]; exact hF
          · rw [wA', wA']; exact hX
        · rw [← hs1]; exact Nat.le_succ _
      have wp : ∀ z : UInt32, pm_fc .l z FP.fconst0 ≠ 0 → z = wos z := fun z q => by unfold wos; rw [if_pos q]
      have wn : ∀ z : UInt32, ¬ pm_fc .l z FP.fconst0 ≠ 0 → FP.fconst0 = wos z := fun z q => by unfold wos; rw [if_neg q]
      refine ok_if (fun q1 => ok_ck (by omega) (ok_bs (ok_ck (inR_of (by omega)) (ok_ck (inR_of (by omega)) (ok_if (fun q2 => ok_ck (by omega) (ok_bs (ok_some (goal _ _ (wp x q1) (wp y q2))))) (fun q2 => ok_ck (by omega) (ok_bs (ok_some (goal _ _ (wp x q1) (wn y q2)))))))))) (fun q1 => ok_ck (by omega) (ok_bs (ok_ck (inR_of (by omega)) (ok_ck (inR_of (by omega)) (ok_if (fun q2 => ok_ck (by omega) (ok_bs (ok_some (goal _ _ (wn x q1) (wp y q2))))) (fun q2 => ok_ck (by omega) (ok_bs (ok_some (goal _ _ (wn x q1) (wn y q2))))))))))
    rcases h2 with h2 | h2
    · exact key 0 (by omega) h2 hI0 (fun B hB hne => by rw [show B = 1 by omega]; exact hI1)
    · exact key 1 (by omega) h2 hI1 (fun B hB hne => by rw [show B = 0 by omega]; exact hI0)
  · -- refused on both sides
    have r1 : f_X5_need i a x y s = some (0, s) := by
      refine of_ok ?_
      unfold f_X5_need f_X5_need_15 f_X5_need_39
      refine ok_eq (k5_isItem _ s) ?_
      by_cases h1 : 0 ≤ i ∧ i < sI s 504 0
      · rw [if_pos h1]
        refine ok_neg (show ¬ (1 : Int) = 0 by decide) (ok_eq (k5_isAxis _ s) ?_)
        by_cases h2 : a = 0 ∨ a = 1
        · rw [if_pos h2]
          refine ok_pos (show (1 : Int) ≠ 0 by decide) (ok_eq (k5_isMeasure x s) (ok_if (fun q => ok_some rfl) (fun q => ok_eq (k5_isMeasure y s) (ok_if (fun q2 => ok_some rfl) (fun q2 => ok_neg (fun h5 => hok ⟨h1, h2, q, q2, h5⟩) (ok_some rfl))))))
        · rw [if_neg h2]
          exact ok_neg (show ¬ (0 : Int) ≠ 0 by decide) (ok_some rfl)
      · rw [if_neg h1]
        exact ok_pos (show (0 : Int) = 0 from rfl) (ok_some rfl)
    have r2 : f_X6_need i a x y s = some (0, wI s 600 0 0) := by
      refine of_ok ?_
      unfold f_X6_need f_X6_need_48
      refine ok_bs ?_
      have q619 : sI (wI s 600 0 0) 619 0 = sI s 504 0 := c1.symm
      rw [q619]
      refine ok_ck (inR_of (by omega)) (ok_eq (k6_outside _ _ _ _) ?_)
      by_cases h1 : 0 ≤ i ∧ i < sI s 504 0
      · rw [if_pos (show 0 ≤ i ∧ i ≤ sI s 504 0 - 1 by omega)]
        refine ok_neg (show ¬ (0 : Int) ≠ 0 by decide) (ok_eq (k6_isAxis _ _) ?_)
        by_cases h2 : a = 0 ∨ a = 1
        · rw [if_pos h2]
          refine ok_neg (show ¬ (1 : Int) = 0 by decide) (ok_eq (k6_isSize x _) (ok_if (fun q => ok_some rfl) (fun q => ok_eq (k6_isSize y _) (ok_if (fun q2 => ok_some rfl) (fun q2 => ok_neg (fun h5 => hok ⟨h1, h2, q, q2, h5⟩) (ok_some rfl))))))
        · rw [if_neg h2]
          exact ok_pos (show (0 : Int) = 0 from rfl) (ok_some rfl)
      · rw [if_neg (show ¬ (0 ≤ i ∧ i ≤ sI s 504 0 - 1) by omega)]
        exact ok_pos (show (1 : Int) ≠ 0 by decide) (ok_some rfl)
    exact ok_of r1 (ok_of r2 ⟨rfl, bad 0, Nat.le_succ _⟩)
