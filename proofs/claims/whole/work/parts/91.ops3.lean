/-! ===== THE OTHER SMALL OPERATIONS, on ===== -/
def fr4 (D : Nat → Prop) (s w : pS) : Prop := ∀ f i, D f → sI w f i = sI s f i ∧ sF w f i = sF s f i ∧ sA w f i = sA s f i ∧ sB w f i = sB s f i
theorem fr4_refl (D : Nat → Prop) (s : pS) : fr4 D s s := fun _ _ _ => ⟨rfl, rfl, rfl, rfl⟩
theorem fr4_wI {D : Nat → Prop} {s s' : pS} {f i : Nat} {v : Int} (hf : ¬ D f) (h : fr4 D s s') : fr4 D s (wI s' f i v) := fun g j hg => by
  obtain ⟨h1, h2, h3, h4⟩ := h g j hg
  exact ⟨by rw [sI_wI, if_neg (show ¬ (g = f ∧ j = i) from fun hx => hf (hx.1 ▸ hg))]; exact h1, h2, h3, h4⟩
theorem fr4_wF {D : Nat → Prop} {s s' : pS} {f i : Nat} {v : UInt32} (hf : ¬ D f) (h : fr4 D s s') : fr4 D s (wF s' f i v) := fun g j hg => by
  obtain ⟨h1, h2, h3, h4⟩ := h g j hg
  exact ⟨h1, by rw [sF_wF, if_neg (show ¬ (g = f ∧ j = i) from fun hx => hf (hx.1 ▸ hg))]; exact h2, h3, h4⟩
theorem fr4_wA {D : Nat → Prop} {s s' : pS} {f i : Nat} {v : Nat → Int} (hf : ¬ D f) (h : fr4 D s s') : fr4 D s (wA s' f i v) := fun g j hg => by
  obtain ⟨h1, h2, h3, h4⟩ := h g j hg
  exact ⟨h1, h2, by rw [sA_wA, if_neg (show ¬ (g = f ∧ j = i) from fun hx => hf (hx.1 ▸ hg))]; exact h3, h4⟩
theorem fr4_wB {D : Nat → Prop} {s s' : pS} {f i : Nat} {v : Nat → UInt32} (hf : ¬ D f) (h : fr4 D s s') : fr4 D s (wB s' f i v) := fun g j hg => by
  obtain ⟨h1, h2, h3, h4⟩ := h g j hg
  exact ⟨h1, h2, h3, by rw [sB_wB, if_neg (show ¬ (g = f ∧ j = i) from fun hx => hf (hx.1 ▸ hg))]; exact h4⟩
theorem fr4_wD {D : Nat → Prop} {s s' : pS} {v : Nat → UInt64} (h : fr4 D s s') : fr4 D s (wD s' v) := h
theorem fr4_wN {D : Nat → Prop} {s s' : pS} (h : fr4 D s s') : fr4 D s (wN s') := h
theorem grp_T {D : Nat → Prop} {s w : pS} (h : fr4 D s w) (hd : ∀ f, f = 403 ∨ f = 601 ∨ f = 402 ∨ f = 602 → D f) (g : gTs s) : gTs w := by
  unfold gTs
  rw [(h 403 0 (hd 403 (by omega))).1, (h 601 0 (hd 601 (by omega))).1, (h 402 0 (hd 402 (by omega))).2.2.1, (h 602 0 (hd 602 (by omega))).2.2.1]
  exact g
theorem grp_R {D : Nat → Prop} {s w : pS} (h : fr4 D s w) (hd : ∀ f, f = 505 ∨ f = 603 → D f) (g : sI s 505 0 = sI s 603 0) : sI w 505 0 = sI w 603 0 := by
  rw [(h 505 0 (hd 505 (by omega))).1, (h 603 0 (hd 603 (by omega))).1]
  exact g
theorem grp_P {D : Nat → Prop} {s w : pS} {a : Nat} (h : fr4 D s w) (hd : ∀ f, (300 ≤ f ∧ f ≤ 304) ∨ (604 ≤ f ∧ f ≤ 608) → D f) (g : gPs s a) : gPs w a := by
  unfold gPs
  rw [(h 304 a (hd 304 (by omega))).1, (h 300 a (hd 300 (by omega))).2.2.1, (h 301 a (hd 301 (by omega))).2.2.2, (h 302 a (hd 302 (by omega))).2.2.1, (h 303 a (hd 303 (by omega))).2.2.2, (h 604 0 (hd 604 (by omega))).2.2.1, (h 605 0 (hd 605 (by omega))).2.2.1, (h 606 0 (hd 606 (by omega))).2.2.1, (h 607 0 (hd 607 (by omega))).2.2.2, (h 608 0 (hd 608 (by omega))).2.2.2]
  exact g
theorem grp_C {D : Nat → Prop} {s w : pS} (h : fr4 D s w) (hd : ∀ f, f = 504 ∨ f = 619 → D f) (g : gC (sI s 504 0) (sI s 619 0)) : gC (sI w 504 0) (sI w 619 0) := by
  rw [(h 504 0 (hd 504 (by omega))).1, (h 619 0 (hd 619 (by omega))).1]
  exact g
theorem grp_I {D : Nat → Prop} {s w : pS} {a : Nat} (h : fr4 D s w) (hd : ∀ f, f = 504 ∨ (4 ≤ f ∧ f ≤ 7) ∨ (620 ≤ f ∧ f ≤ 623) → D f) (g : gIs s a) : gIs w a := by
  unfold gIs
  rw [(h 504 0 (hd 504 (by omega))).1, (h 4 a (hd 4 (by omega))).2.2.1, (h 5 a (hd 5 (by omega))).2.2.1, (h 6 a (hd 6 (by omega))).2.2.2, (h 7 a (hd 7 (by omega))).2.2.2, (h 620 0 (hd 620 (by omega))).2.2.1, (h 621 0 (hd 621 (by omega))).2.2.1, (h 622 0 (hd 622 (by omega))).2.2.2, (h 623 0 (hd 623 (by omega))).2.2.2]
  exact g
theorem grp_F {D : Nat → Prop} {s w : pS} (h : fr4 D s w) (hd : ∀ f, f = 506 ∨ f = 507 ∨ f = 624 ∨ f = 625 → D f) (g : gF (sI s 506 0) (sI s 507 0) (sI s 624 0) (sI s 625 0)) : gF (sI w 506 0) (sI w 507 0) (sI w 624 0) (sI w 625 0) := by
  rw [(h 506 0 (hd 506 (by omega))).1, (h 507 0 (hd 507 (by omega))).1, (h 624 0 (hd 624 (by omega))).1, (h 625 0 (hd 625 (by omega))).1]
  exact g
theorem grp_S {D : Nat → Prop} {s w : pS} {a : Nat} (h : fr4 D s w) (hd : ∀ f, (1 ≤ f ∧ f ≤ 3) ∨ (626 ≤ f ∧ f ≤ 628) → D f) (g : gSs s a) : gSs w a := by
  unfold gSs
  rw [(h 1 a (hd 1 (by omega))).2.1, (h 2 a (hd 2 (by omega))).2.1, (h 3 a (hd 3 (by omega))).1, (h 626 0 (hd 626 (by omega))).2.2.2, (h 627 0 (hd 627 (by omega))).2.2.2, (h 628 0 (hd 628 (by omega))).2.2.1]
  exact g
theorem grp_L {D : Nat → Prop} {s w : pS} {a : Nat} (h : fr4 D s w) (hd : ∀ f, f = 504 ∨ (8 ≤ f ∧ f ≤ 13) ∨ (629 ≤ f ∧ f ≤ 634) ∨ f = 637 ∨ f = 638 → D f) (g : gLs s a) : gLs w a := by
  unfold gLs
  rw [(h 504 0 (hd 504 (by omega))).1, (h 629 0 (hd 629 (by omega))).1, (h 630 0 (hd 630 (by omega))).1, (h 8 a (hd 8 (by omega))).1, (h 9 a (hd 9 (by omega))).2.2.2, (h 10 a (hd 10 (by omega))).2.2.2, (h 11 a (hd 11 (by omega))).2.2.1, (h 12 a (hd 12 (by omega))).2.2.2, (h 13 a (hd 13 (by omega))).2.1, (h 633 0 (hd 633 (by omega))).2.2.1, (h 634 0 (hd 634 (by omega))).2.2.2, (h 637 0 (hd 637 (by omega))).2.2.2, (h 631 0 (hd 631 (by omega))).2.2.1, (h 632 0 (hd 632 (by omega))).2.2.2, (h 638 0 (hd 638 (by omega))).2.2.2]
  exact g
theorem grp_X {D : Nat → Prop} {s w : pS} (h : fr4 D s w) (hd : D 11) (g : gX (sA s 11 0) (sA s 11 1)) : gX (sA w 11 0) (sA w 11 1) := by
  rw [(h 11 0 hd).2.2.1, (h 11 1 hd).2.2.1]
  exact g
/-- all but the word of what was thrown, and the answers kept -/
def d6 (f : Nat) : Prop := f ≠ 600 ∧ f ≠ 700 ∧ f ≠ 701
theorem inv_6 {s w : pS} (h : fr4 d6 s w) (hI : Inv s) : Inv w := by
  obtain ⟨hT, hR, hP0, hP1, hC, hI0, hI1, hF, hS0, hS1, hL0, hL1, hX⟩ := hI
  exact ⟨grp_T h (fun f hf => by unfold d6; omega) hT, grp_R h (fun f hf => by unfold d6; omega) hR, grp_P h (fun f hf => by unfold d6; omega) hP0, grp_P h (fun f hf => by unfold d6; omega) hP1, grp_C h (fun f hf => by unfold d6; omega) hC, grp_I h (fun f hf => by unfold d6; omega) hI0, grp_I h (fun f hf => by unfold d6; omega) hI1, grp_F h (fun f hf => by unfold d6; omega) hF, grp_S h (fun f hf => by unfold d6; omega) hS0, grp_S h (fun f hf => by unfold d6; omega) hS1, grp_L h (fun f hf => by unfold d6; omega) hL0, grp_L h (fun f hf => by unfold d6; omega) hL1, grp_X h (by unfold d6; omega) hX⟩
theorem inv_600 {s : pS} (v : Int) (hI : Inv s) : Inv (wI s 600 0 v) := inv_6 (fr4_wI (by unfold d6; omega) (fr4_refl _ _)) hI
/-! flow -/
theorem op_flow (a b : Int) (ha : a = 0 ∨ a = 1) (hb : b = 0 ∨ b = 1) (s : pS) (hI : Inv s) : ok (f_X5_flow a b s) (fun q => ok (f_X6_flow a b q) (fun r => Inv r ∧ sN r ≤ sN s + 1)) := by
  obtain ⟨hT, hR, hP0, hP1, hC, hI0, hI1, hF, hS0, hS1, hL0, hL1, hX⟩ := hI
  unfold f_X5_flow
  refine ok_ck ha (ok_bs (ok_ck hb (ok_bs (ok_some ?_))))
  unfold f_X6_flow f_X6_flow_15
  have key : ∀ v : Int, (a = 0 ∧ v = 1 ∨ a = 1 ∧ v = 0) → Inv (wI (wI (wI (wI (wI s 506 0 a) 507 0 b) 600 0 0) 624 0 v) 625 0 b) ∧ sN (wI (wI (wI (wI (wI s 506 0 a) 507 0 b) 600 0 0) 624 0 v) 625 0 b) ≤ sN s + 1 := by
    intro v hv
    have h : fr4 (fun f => f ≠ 506 ∧ f ≠ 507 ∧ f ≠ 600 ∧ f ≠ 624 ∧ f ≠ 625) s (wI (wI (wI (wI (wI s 506 0 a) 507 0 b) 600 0 0) 624 0 v) 625 0 b) := fr4_wI (by omega) (fr4_wI (by omega) (fr4_wI (by omega) (fr4_wI (by omega) (fr4_wI (by omega) (fr4_refl _ _)))))
    refine ⟨⟨grp_T h (fun f hf => by omega) hT, grp_R h (fun f hf => by omega) hR, grp_P h (fun f hf => by omega) hP0, grp_P h (fun f hf => by omega) hP1, grp_C h (fun f hf => by omega) hC, grp_I h (fun f hf => by omega) hI0, grp_I h (fun f hf => by omega) hI1, ?_, grp_S h (fun f hf => by omega) hS0, grp_S h (fun f hf => by omega) hS1, grp_L h (fun f hf => by omega) hL0, grp_L h (fun f hf => by omega) hL1, grp_X h (by omega) hX⟩, Nat.le_succ _⟩
    simp only [sI_wI, Nat.reduceEqDiff, false_and, and_false, and_true, true_and, if_true, if_false]
    exact ⟨hv, rfl, hb⟩
  refine ok_bs (ok_if (fun q => ok_bs (ok_ck hb (ok_bs (ok_some (key 1 (Or.inl ⟨q, rfl⟩)))))) (fun q => ok_bs (ok_ck hb (ok_bs (ok_some (key 0 (Or.inr ⟨by omega, rfl⟩)))))))
/-! room -/
theorem op_room (a : Int) (x y : UInt32) (hx : FP.Core.val32 x ≠ .nan) (hy : FP.Core.val32 y ≠ .nan) (s : pS) (hI : Inv s) : opI (f_X5_room a x y) (f_X6_room a x y) s := by
  have hI' := hI
  obtain ⟨hT, hR, hP0, hP1, hC, hI0, hI1, hF, hS0, hS1, hL0, hL1, hX⟩ := hI'
  have wp : ∀ z : UInt32, pm_fc .l z FP.fconst0 ≠ 0 → z = wos z := fun z q => by unfold wos; rw [if_pos q]
  have wn : ∀ z : UInt32, ¬ pm_fc .l z FP.fconst0 ≠ 0 → FP.fconst0 = wos z := fun z q => by unfold wos; rw [if_neg q]
  unfold opI
  by_cases hok : (a = 0 ∨ a = 1) ∧ msr x ≠ 0 ∧ msr y ≠ 0
  · obtain ⟨h2, h3, h4⟩ := hok
    have w1 := wos_q hx h3
    have w2 := wos_q hy h4
    have key : ∀ A : Nat, A < 2 → a = (A : Int) → gSs s A → (∀ B : Nat, B < 2 → B ≠ A → gSs s B) → ok (f_X5_room a x y s) (fun q => ok (f_X6_room a x y q.2) (fun r => q.1 = r.1 ∧ Inv r.2 ∧ sN r.2 ≤ sN s + 1)) := by
      intro A hA ha gA gB
      subst ha
      unfold f_X5_room
      refine ok_eq (k5_isAxis _ s) ?_
      rw [if_pos h2]
      refine ok_neg (show ¬ (1 : Int) = 0 by decide) (ok_eq (k5_isMeasure x s) (ok_neg h3 (ok_eq (k5_isMeasure y s) (ok_pos h4 (ok_ck (by omega) (ok_eq (k5_withoutSign x s) (ok_bs (ok_ck (by omega) (ok_eq (k5_withoutSign y _) (ok_bs (ok_some ?_)))))))))))
      simp only [nnat]
      unfold f_X6_room f_X6_room_26 f_X6_room_44 f_X6_room_61
      refine ok_bs ?_
      generalize hs1 : wI (wF (wF s 1 A (wos x)) 2 A (wos y)) 600 0 0 = s1
      refine ok_eq (k6_isAxis _ s1) ?_
      rw [if_pos h2]
      refine ok_neg (show ¬ (1 : Int) = 0 by decide) (ok_eq (k6_isSize x s1) (ok_neg h3 (ok_eq (k6_isSize y s1) (ok_pos h4 ?_))))
      simp only [nnat]
      have f626 : sB s1 626 0 = sB s 626 0 := by rw [← hs1, sB_wI, sB_wF, sB_wF]
      have f627 : ∀ v, sB (wB s1 626 0 v) 627 0 = sB s 627 0 := fun v => by rw [sB_wB, if_neg (by omega), ← hs1, sB_wI, sB_wF, sB_wF]
      have goal : ∀ (u v : UInt32), u = wos x → v = wos y → (1 : Int) = 1 ∧ Inv (wB (wB s1 626 0 (pm_up (sB s1 626 0) A u)) 627 0 (pm_up (sB (wB s1 626 0 (pm_up (sB s1 626 0) A u)) 627 0) A v)) ∧ sN (wB (wB s1 626 0 (pm_up (sB s1 626 0) A u)) 627 0 (pm_up (sB (wB s1 626 0 (pm_up (sB s1 626 0) A u)) 627 0) A v)) ≤ sN s + 1 := by
        intro u v hu hv
        rw [hu, hv, f627, f626]
        have h : fr4 (fun f => f ≠ 1 ∧ f ≠ 2 ∧ f ≠ 600 ∧ f ≠ 626 ∧ f ≠ 627) s (wB (wB s1 626 0 (pm_up (sB s 626 0) A (wos x))) 627 0 (pm_up (sB s 627 0) A (wos y))) := by
          rw [← hs1]
          exact fr4_wB (by omega) (fr4_wB (by omega) (fr4_wI (by omega) (fr4_wF (by omega) (fr4_wF (by omega) (fr4_refl _ _)))))
        have gs : ∀ B, B < 2 → gSs (wB (wB s1 626 0 (pm_up (sB s 626 0) A (wos x))) 627 0 (pm_up (sB s 627 0) A (wos y))) B := by
          intro B hB
          have e1 : sF s1 1 B = if B = A then wos x else sF s 1 B := by
            rw [← hs1, sF_wI, sF_wF, if_neg (by omega), sF_wF]
            by_cases hb : B = A
            · rw [if_pos ⟨rfl, hb⟩, if_pos hb]
            · rw [if_neg (fun hh => hb hh.2), if_neg hb]
          have e2 : sF s1 2 B = if B = A then wos y else sF s 2 B := by
            rw [← hs1, sF_wI, sF_wF, sF_wF]
            by_cases hb : B = A
            · rw [if_pos ⟨rfl, hb⟩, if_pos hb]
            · rw [if_neg (fun hh => hb hh.2), if_neg (by omega), if_neg hb]
          have e3 : sI s1 3 B = sI s 3 B := by rw [← hs1, sI_wI, if_neg (by omega), sI_wF, sI_wF]
          have e4 : sA s1 628 0 = sA s 628 0 := by rw [← hs1, sA_wI, sA_wF, sA_wF]
          have x626 : ∀ U V : Nat → UInt32, sB (wB (wB s1 626 0 U) 627 0 V) 626 0 = U := fun U V => by rw [sB_wB, if_neg (by omega), sB_wB, if_pos ⟨rfl, rfl⟩]
          have x627 : ∀ U V : Nat → UInt32, sB (wB (wB s1 626 0 U) 627 0 V) 627 0 = V := fun U V => by rw [sB_wB, if_pos ⟨rfl, rfl⟩]
          unfold gSs
          rw [x626, x627, sF_wB, sF_wB, sF_wB, sF_wB, sI_wB, sI_wB, sA_wB, sA_wB, e1, e2, e3, e4]
          by_cases hb : B = A
          · subst hb
            rw [if_pos rfl, if_pos rfl]
            obtain ⟨g1, g2, g3, g4, g5, g6, g7, g8, g9⟩ := gA
            exact ⟨(up_eq _ _ _).symm, (up_eq _ _ _).symm, g3, g4, g5, w1.1, w1.2, w2.1, w2.2⟩
          · rw [if_neg hb, if_neg hb]
            obtain ⟨g1, g2, g3, g4, g5, g6, g7, g8, g9⟩ := gB B hB hb
            exact ⟨by rw [up_ne _ _ hb]; exact g1, by rw [up_ne _ _ hb]; exact g2, g3, g4, g5, g6, g7, g8, g9⟩
        refine ⟨rfl, ⟨grp_T h (fun f hf => by omega) hT, grp_R h (fun f hf => by omega) hR, grp_P h (fun f hf => by omega) hP0, grp_P h (fun f hf => by omega) hP1, grp_C h (fun f hf => by omega) hC, grp_I h (fun f hf => by omega) hI0, grp_I h (fun f hf => by omega) hI1, grp_F h (fun f hf => by omega) hF, gs 0 (by omega), gs 1 (by omega), grp_L h (fun f hf => by omega) hL0, grp_L h (fun f hf => by omega) hL1, grp_X h (by omega) hX⟩, ?_⟩
        rw [← hs1, sN_wB, sN_wB, sN_wI, sN_wF, sN_wF]
        omega
      refine ok_if (fun q1 => ok_ck (by omega) (ok_bs (ok_if (fun q2 => ok_ck (by omega) (ok_bs (ok_some (goal _ _ (wp x q1) (wp y q2))))) (fun q2 => ok_ck (by omega) (ok_bs (ok_some (goal _ _ (wp x q1) (wn y q2)))))))) (fun q1 => ok_ck (by omega) (ok_bs (ok_if (fun q2 => ok_ck (by omega) (ok_bs (ok_some (goal _ _ (wn x q1) (wp y q2))))) (fun q2 => ok_ck (by omega) (ok_bs (ok_some (goal _ _ (wn x q1) (wn y q2))))))))
    rcases h2 with h2 | h2
    · exact key 0 (by omega) h2 hS0 (fun B hB hne => by rw [show B = 1 by omega]; exact hS1)
    · exact key 1 (by omega) h2 hS1 (fun B hB hne => by rw [show B = 0 by omega]; exact hS0)
  · have r1 : f_X5_room a x y s = some (0, s) := by
      refine of_ok ?_
      unfold f_X5_room f_X5_room_21
      refine ok_eq (k5_isAxis _ s) ?_
      by_cases h2 : a = 0 ∨ a = 1
      · rw [if_pos h2]
        exact ok_neg (show ¬ (1 : Int) = 0 by decide) (ok_eq (k5_isMeasure x s) (ok_if (fun q => ok_some rfl) (fun q => ok_eq (k5_isMeasure y s) (ok_neg (fun q2 => hok ⟨h2, q, q2⟩) (ok_some rfl)))))
      · rw [if_neg h2]
        exact ok_pos (show (0 : Int) = 0 from rfl) (ok_some rfl)
    have r2 : f_X6_room a x y s = some (0, wI s 600 0 0) := by
      refine of_ok ?_
      unfold f_X6_room f_X6_room_26
      refine ok_bs (ok_eq (k6_isAxis _ _) ?_)
      by_cases h2 : a = 0 ∨ a = 1
      · rw [if_pos h2]
        exact ok_neg (show ¬ (1 : Int) = 0 by decide) (ok_eq (k6_isSize x _) (ok_if (fun q => ok_some rfl) (fun q => ok_eq (k6_isSize y _) (ok_neg (fun q2 => hok ⟨h2, q, q2⟩) (ok_some rfl)))))
      · rw [if_neg h2]
        exact ok_pos (show (0 : Int) = 0 from rfl) (ok_some rfl)
    exact ok_of r1 (ok_of r2 ⟨rfl, inv_600 0 hI, Nat.le_succ _⟩)
/-! put -/
theorem op_put (a h : Int) (s : pS) (hI : Inv s) : opI (f_X5_put a h) (f_X6_put a h) s := by
  have hI' := hI
  obtain ⟨hT, hR, hP0, hP1, hC, hI0, hI1, hF, hS0, hS1, hL0, hL1, hX⟩ := hI'
  unfold opI
  by_cases hok : (a = 0 ∨ a = 1) ∧ 0 ≤ h ∧ h ≤ 3
  · obtain ⟨h2, h3, h4⟩ := hok
    have key : ∀ A : Nat, A < 2 → a = (A : Int) → gSs s A → (∀ B : Nat, B < 2 → B ≠ A → gSs s B) → ok (f_X5_put a h s) (fun q => ok (f_X6_put a h q.2) (fun r => q.1 = r.1 ∧ Inv r.2 ∧ sN r.2 ≤ sN s + 1)) := by
      intro A hA ha gA gB
      subst ha
      unfold f_X5_put
      refine ok_eq (k5_isAxis _ s) ?_
      rw [if_pos h2]
      refine ok_neg (show ¬ (1 : Int) = 0 by decide) (ok_neg (by omega) (ok_pos h4 (ok_ck (by omega) (ok_bs (ok_some ?_)))))
      simp only [nnat]
      unfold f_X6_put
      refine ok_bs (ok_eq (k6_isAxis _ _) ?_)
      rw [if_pos h2]
      refine ok_neg (show ¬ (1 : Int) = 0 by decide) (ok_eq (k6_outside _ _ _ _) ?_)
      rw [if_pos (show 0 ≤ h ∧ h ≤ 3 from ⟨h3, h4⟩)]
      refine ok_pos (show (0 : Int) = 0 from rfl) (ok_ck (by omega) (ok_bs (ok_some ?_)))
      simp only [nnat]
      generalize hw : wA (wI (wI s 3 A h) 600 0 0) 628 0 (pm_up (sA (wI (wI s 3 A h) 600 0 0) 628 0) A h) = w
      have hfr : fr4 (fun f => f ≠ 3 ∧ f ≠ 600 ∧ f ≠ 628) s w := by
        rw [← hw]
        exact fr4_wA (by omega) (fr4_wI (by omega) (fr4_wI (by omega) (fr4_refl _ _)))
      have gs : ∀ B, B < 2 → gSs w B := by
        intro B hB
        have e3 : sI w 3 B = if B = A then h else sI s 3 B := by
          rw [← hw, sI_wA, sI_wI, if_neg (by omega), sI_wI]
          by_cases hb : B = A
          · rw [if_pos ⟨rfl, hb⟩, if_pos hb]
          · rw [if_neg (fun hh => hb hh.2), if_neg hb]
        have e4 : sA w 628 0 = pm_up (sA s 628 0) A h := by rw [← hw, sA_wA, if_pos ⟨rfl, rfl⟩, sA_wI, sA_wI]
        unfold gSs
        rw [(hfr 1 B (by omega)).2.1, (hfr 2 B (by omega)).2.1, (hfr 626 0 (by omega)).2.2.2, (hfr 627 0 (by omega)).2.2.2, e3, e4]
        by_cases hb : B = A
        · subst hb
          rw [if_pos rfl]
          obtain ⟨g1, g2, g3, g4, g5, g6⟩ := gA
          exact ⟨g1, g2, (up_eq _ _ _).symm, h3, h4, g6⟩
        · rw [if_neg hb]
          obtain ⟨g1, g2, g3, g4⟩ := gB B hB hb
          exact ⟨g1, g2, by rw [up_ne _ _ hb]; exact g3, g4⟩
      refine ⟨trivial, ⟨grp_T hfr (fun f hf => by omega) hT, grp_R hfr (fun f hf => by omega) hR, grp_P hfr (fun f hf => by omega) hP0, grp_P hfr (fun f hf => by omega) hP1, grp_C hfr (fun f hf => by omega) hC, grp_I hfr (fun f hf => by omega) hI0, grp_I hfr (fun f hf => by omega) hI1, grp_F hfr (fun f hf => by omega) hF, gs 0 (by omega), gs 1 (by omega), grp_L hfr (fun f hf => by omega) hL0, grp_L hfr (fun f hf => by omega) hL1, grp_X hfr (by omega) hX⟩, ?_⟩
      rw [← hw, sN_wA, sN_wI, sN_wI]
      omega
    rcases h2 with h2 | h2
    · exact key 0 (by omega) h2 hS0 (fun B hB hne => by rw [show B = 1 by omega]; exact hS1)
    · exact key 1 (by omega) h2 hS1 (fun B hB hne => by rw [show B = 0 by omega]; exact hS0)
  · have r1 : f_X5_put a h s = some (0, s) := by
      refine of_ok ?_
      unfold f_X5_put f_X5_put_16
      refine ok_eq (k5_isAxis _ s) ?_
      by_cases h2 : a = 0 ∨ a = 1
      · rw [if_pos h2]
        exact ok_neg (show ¬ (1 : Int) = 0 by decide) (ok_if (fun q => ok_some rfl) (fun q => ok_neg (fun q2 => hok ⟨h2, by omega, q2⟩) (ok_some rfl)))
      · rw [if_neg h2]
        exact ok_pos (show (0 : Int) = 0 from rfl) (ok_some rfl)
    have r2 : f_X6_put a h s = some (0, wI s 600 0 0) := by
      refine of_ok ?_
      unfold f_X6_put f_X6_put_21
      refine ok_bs (ok_eq (k6_isAxis _ _) ?_)
      by_cases h2 : a = 0 ∨ a = 1
      · rw [if_pos h2]
        refine ok_neg (show ¬ (1 : Int) = 0 by decide) (ok_eq (k6_outside _ _ _ _) ?_)
        rw [if_neg (show ¬ (0 ≤ h ∧ h ≤ 3) from fun hh => hok ⟨h2, hh⟩)]
        exact ok_neg (show ¬ (1 : Int) = 0 by decide) (ok_some rfl)
      · rw [if_neg h2]
        exact ok_pos (show (0 : Int) = 0 from rfl) (ok_some rfl)
    exact ok_of r1 (ok_of r2 ⟨rfl, inv_600 0 hI, Nat.le_succ _⟩)
