/-! ===== ITEM ===== -/
def std (a b : Int) : Prop := 0 ≤ a ∧ a ≤ 12 ∧ 1 ≤ b ∧ b ≤ 4 ∧ a + b ≤ 13
theorem k5_isStand (a b : Int) (s : pS) : (std a b → f_X5_isStand a b s = some (1, s)) ∧ (¬ std a b → f_X5_isStand a b s = some (0, s)) := by
  unfold std
  refine ⟨fun h => of_ok ?_, fun h => of_ok ?_⟩
  · unfold f_X5_isStand f_X5_isStand_32 f_X5_isStand_33
    exact ok_neg (by omega) (ok_neg (by omega) (ok_neg (by omega) (ok_neg (by omega) (ok_ck (inR_of (by omega)) (ok_neg (by omega) (ok_ck (by simp) (ok_some rfl)))))))
  · unfold f_X5_isStand f_X5_isStand_32 f_X5_isStand_33
    exact ok_if (fun _ => ok_ck (by simp) (ok_some rfl)) (fun _ => ok_if (fun _ => ok_ck (by simp) (ok_some rfl)) (fun _ => ok_if (fun _ => ok_ck (by simp) (ok_some rfl)) (fun _ => ok_if (fun _ => ok_ck (by simp) (ok_some rfl)) (fun _ => ok_ck (inR_of (by omega)) (ok_pos (by omega) (ok_ck (by simp) (ok_some rfl)))))))
theorem k6_isBad (a b : Int) (s : pS) : (std a b → f_X6_isBad a b s = some (0, s)) ∧ (¬ std a b → f_X6_isBad a b s = some (1, s)) := by
  unfold std
  refine ⟨fun h => of_ok ?_, fun h => of_ok ?_⟩
  · unfold f_X6_isBad f_X6_isBad_27 f_X6_isBad_32
    refine ok_eq (k6_outside _ _ _ s) ?_
    rw [if_pos (show (0 : Int) ≤ a ∧ a ≤ 12 by omega)]
    refine ok_neg (show ¬ (0 : Int) ≠ 0 by decide) (ok_eq (k6_outside _ _ _ s) ?_)
    rw [if_pos (show (1 : Int) ≤ b ∧ b ≤ 4 by omega)]
    exact ok_neg (show ¬ (0 : Int) ≠ 0 by decide) (ok_ck (inR_of (by omega)) (ok_pos (by omega) (ok_ck (by simp) (ok_some rfl))))
  · unfold f_X6_isBad f_X6_isBad_27 f_X6_isBad_32
    refine ok_eq (k6_outside _ _ _ s) ?_
    by_cases h1 : (0 : Int) ≤ a ∧ a ≤ 12
    · rw [if_pos h1]
      refine ok_neg (show ¬ (0 : Int) ≠ 0 by decide) (ok_eq (k6_outside _ _ _ s) ?_)
      by_cases h2 : (1 : Int) ≤ b ∧ b ≤ 4
      · rw [if_pos h2]
        exact ok_neg (show ¬ (0 : Int) ≠ 0 by decide) (ok_ck (inR_of (by omega)) (ok_neg (by omega) (ok_ck (by simp) (ok_some rfl))))
      · rw [if_neg h2]
        exact ok_pos (show (1 : Int) ≠ 0 by decide) (ok_ck (by simp) (ok_some rfl))
    · rw [if_neg h1]
      exact ok_pos (show (1 : Int) ≠ 0 by decide) (ok_ck (by simp) (ok_some rfl))
theorem op_item (a b c d : Int) (s : pS) (hI : Inv s) : opT (f_L_item a b c d) (f_X6_item a b c d) s := by
  have hI' := hI
  obtain ⟨hT, hR, hP0, hP1, hC, hI0, hI1, hF, hS0, hS1, hL0, hL1, hX⟩ := hI'
  obtain ⟨c1, c2, c3⟩ := id hC
  have inv1 : ∀ v, Inv (wI (wN s) 600 0 v) := fun v => inv_6 (fr4_wI (by unfold d6; omega) (fr4_wN (fr4_refl _ _))) hI
  unfold opT f_L_item f_X5_item f_X5_item_17
  by_cases h1 : std a b
  · refine ok_bind (ok_eq ((k5_isStand a b s).1 h1) (ok_neg (show ¬ (1 : Int) = 0 by decide) ?_))
    by_cases h2 : std c d
    · refine ok_eq ((k5_isStand c d s).1 h2) (ok_pos (show (1 : Int) ≠ 0 by decide) ?_)
      dsimp only
      by_cases h3 : sI s 504 0 < 10
      · obtain ⟨n, hn⟩ : ∃ n : Nat, sI s 504 0 = (n : Int) := ⟨(sI s 504 0).toNat, by omega⟩
        refine ok_pos h3 ?_
        unfold f_X0_stand
        have q504 : ∀ u v, sI (wA (wA s 4 0 u) 5 0 v) 504 0 = (n : Int) := fun u v => hn
        have q504' : ∀ u v x y, sI (wA (wA (wA (wA s 4 0 u) 5 0 v) 4 1 x) 5 1 y) 504 0 = (n : Int) := fun u v x y => hn
        rw [hn, nnat]
        have t5 : ∀ u, sA (wA s 4 0 u) 5 0 = sA s 5 0 := fun u => by rw [sA_wA, if_neg (by omega)]
        have t4 : ∀ u v, sA (wA (wA s 4 0 u) 5 0 v) 4 1 = sA s 4 1 := fun u v => by rw [sA_wA, if_neg (by omega), sA_wA, if_neg (by omega)]
        have t51 : ∀ u v x, sA (wA (wA (wA s 4 0 u) 5 0 v) 4 1 x) 5 1 = sA s 5 1 := fun u v x => by rw [sA_wA, if_neg (by omega), sA_wA, if_neg (by omega), sA_wA, if_neg (by omega)]
        have b0 : (0 : Int) ≤ (n : Int) ∧ (n : Int) < 10 := by omega
        refine ok_bind (ok_ck b0 (ok_bs (ok_ck b0 (ok_bs (ok_some (ok_bind ?_))))))
        rw [q504, nnat, t5]
        refine ok_ck b0 (ok_bs (ok_ck b0 (ok_bs (ok_some ?_))))
        rw [t4, t51]
        generalize hz : wA (wA (wA (wA s 4 0 (pm_up (sA s 4 0) n a)) 5 0 (pm_up (sA s 5 0) n b)) 4 1 (pm_up (sA s 4 1) n c)) 5 1 (pm_up (sA s 5 1) n d) = z
        have z504 : sI z 504 0 = (n : Int) := by rw [← hz]; exact hn
        rw [z504]
        refine ok_ck (inR_of (by omega)) (ok_bs ?_)
        have e504 : ∀ v, sI (wI z 504 0 v) 504 0 = v := fun v => by rw [sI_wI, if_pos ⟨rfl, rfl⟩]
        rw [e504, show (n : Int) + 1 - 1 = (n : Int) by omega]
        refine ok_ck (inR_of (by omega)) (ok_some ?_)
        show ok (bs (wA (wI z 504 0 ((n : Int) + 1)) 700 0 (pm_up (sA (wI z 504 0 ((n : Int) + 1)) 700 0) 0 (n : Int))) (fun s4 => some ((0 : Int), s4))) _
        refine ok_bs (ok_some ?_)
        dsimp only
        -- the reference
        generalize hy : wA (wI z 504 0 ((n : Int) + 1)) 700 0 (pm_up (sA (wI z 504 0 ((n : Int) + 1)) 700 0) 0 (n : Int)) = y
        have y619 : sI y 619 0 = (n : Int) := by rw [← hy, sI_wA, sI_wI, if_neg (by omega), ← hz]; exact c1 ▸ hn
        unfold f_X6_item f_X6_item_23 f_X6_item_37
        refine ok_eq ((k6_isBad a b y).1 h1) (ok_neg (show ¬ (0 : Int) ≠ 0 by decide) (ok_eq ((k6_isBad c d y).1 h2) (ok_pos (show (0 : Int) = 0 from rfl) ?_)))
        dsimp only
        rw [y619]
        refine ok_pos (by omega) (ok_eq (k6_fails00 y) (ok_pos (show (0 : Int) = 0 from rfl) ?_))
        dsimp only
        generalize hx : wI y 600 0 0 = x
        have x619 : sI x 619 0 = (n : Int) := by rw [← hx, sI_wI, if_neg (by omega)]; exact y619
        have xA : ∀ u, sI (wA x 620 0 u) 619 0 = (n : Int) := fun u => x619
        have xA2 : ∀ u v, sI (wA (wA x 620 0 u) 621 0 v) 619 0 = (n : Int) := fun u v => x619
        have xA3 : ∀ u v w, sI (wA (wA (wA x 620 0 u) 621 0 v) 620 0 w) 619 0 = (n : Int) := fun u v w => x619
        rw [x619]
        refine ok_ck (inR_of (by omega)) (ok_ck (by omega) (ok_bs ?_))
        rw [xA]
        refine ok_ck (inR_of (by omega)) (ok_ck (by omega) (ok_bs ?_))
        rw [xA2]
        refine ok_ck (inR_of (by omega)) (ok_ck (inR_of (by omega)) (ok_ck (by omega) (ok_bs ?_)))
        rw [xA3]
        refine ok_ck (inR_of (by omega)) (ok_ck (inR_of (by omega)) (ok_ck (by omega) (ok_bs ?_)))
        have n2 : (2 * (n : Int)).toNat = 2 * n := by omega
        have n3 : (2 * (n : Int) + 1).toNat = 2 * n + 1 := by omega
        rw [n2, n3]
        have u620 : sA x 620 0 = sA s 620 0 := by rw [← hx, sA_wI, ← hy, sA_wA, if_neg (by omega), sA_wI, ← hz, sA_wA, if_neg (by omega), sA_wA, if_neg (by omega), sA_wA, if_neg (by omega), sA_wA, if_neg (by omega)]
        have u621 : sA x 621 0 = sA s 621 0 := by rw [← hx, sA_wI, ← hy, sA_wA, if_neg (by omega), sA_wI, ← hz, sA_wA, if_neg (by omega), sA_wA, if_neg (by omega), sA_wA, if_neg (by omega), sA_wA, if_neg (by omega)]
        have v1 : ∀ u, sA (wA x 620 0 u) 621 0 = sA s 621 0 := fun u => by rw [sA_wA, if_neg (by omega)]; exact u621
        have v2 : ∀ u v, sA (wA (wA x 620 0 u) 621 0 v) 620 0 = u := fun u v => by rw [sA_wA, if_neg (by omega), sA_wA, if_pos ⟨rfl, rfl⟩]
        have v3 : ∀ u v w, sA (wA (wA (wA x 620 0 u) 621 0 v) 620 0 w) 621 0 = v := fun u v w => by rw [sA_wA, if_neg (by omega), sA_wA, if_pos ⟨rfl, rfl⟩]
        rw [v3, v2, v1, u620]
        generalize hw : wA (wA (wA (wA x 620 0 (pm_up (sA s 620 0) (2 * n) a)) 621 0 (pm_up (sA s 621 0) (2 * n) b)) 620 0 (pm_up (pm_up (sA s 620 0) (2 * n) a) (2 * n + 1) c)) 621 0 (pm_up (pm_up (sA s 621 0) (2 * n) b) (2 * n + 1) d) = w
        have w619 : sI w 619 0 = (n : Int) := by rw [← hw]; exact x619
        -- the loop of two
        have r619 : ∀ u v, sI (wB (wB w 622 0 u) 623 0 v) 619 0 = (n : Int) := fun u v => w619
        have r619' : ∀ u, sI (wB w 622 0 u) 619 0 = (n : Int) := fun u => w619
        have r619'' : ∀ u v t, sI (wB (wB (wB w 622 0 u) 623 0 v) 622 0 t) 619 0 = (n : Int) := fun u v t => w619
        have r623 : ∀ u, sB (wB w 622 0 u) 623 0 = sB w 623 0 := fun u => by rw [sB_wB, if_neg (by omega)]
        have r622 : ∀ u v, sB (wB (wB w 622 0 u) 623 0 v) 622 0 = u := fun u v => by rw [sB_wB, if_neg (by omega), sB_wB, if_pos ⟨rfl, rfl⟩]
        have r623' : ∀ u v t, sB (wB (wB (wB w 622 0 u) 623 0 v) 622 0 t) 623 0 = v := fun u v t => by rw [sB_wB, if_neg (by omega), sB_wB, if_pos ⟨rfl, rfl⟩]
        rw [f_X6_item_101, w619]
        have n4 : (2 * (n : Int) + 0).toNat = 2 * n := by omega
        refine ok_neg (by decide) (ok_ck (inR_of (by omega)) (ok_ck (inR_of (by omega)) (ok_ck (by omega) (ok_bs ?_))))
        rw [r619', n4, r623]
        refine ok_ck (inR_of (by omega)) (ok_ck (inR_of (by omega)) (ok_ck (by omega) (ok_bs (ok_ck (inR_of (by decide)) ?_))))
        rw [f_X6_item_101, r619]
        refine ok_neg (by decide) (ok_ck (inR_of (by omega)) (ok_ck (inR_of (by omega)) (ok_ck (by omega) (ok_bs ?_))))
        rw [r619'', show (2 * (n : Int) + (0 + 1)).toNat = 2 * n + 1 by omega, r622, r623']
        refine ok_ck (inR_of (by omega)) (ok_ck (inR_of (by omega)) (ok_ck (by omega) (ok_bs (ok_ck (inR_of (by decide)) ?_))))
        rw [f_X6_item_101]
        refine ok_pos (by decide) ?_
        generalize hv : wB (wB (wB (wB w 622 0 (pm_up (sB w 622 0) (2 * n) FP.fconst0)) 623 0 (pm_up (sB w 623 0) (2 * n) FP.fconst0)) 622 0 (pm_up (pm_up (sB w 622 0) (2 * n) FP.fconst0) (2 * n + 1) FP.fconst0)) 623 0 (pm_up (pm_up (sB w 623 0) (2 * n) FP.fconst0) (2 * n + 1) FP.fconst0) = v
        have v619 : sI v 619 0 = (n : Int) := by rw [← hv]; exact w619
        rw [v619]
        refine ok_ck (inR_of (by omega)) (ok_bs ?_)
        have e619 : ∀ t, sI (wI v 619 0 t) 619 0 = t := fun t => by rw [sI_wI, if_pos ⟨rfl, rfl⟩]
        rw [e619, show (n : Int) + 1 - 1 = (n : Int) by omega]
        refine ok_ck (inR_of (by omega)) (ok_some ?_)
        dsimp only
        generalize hf : wI v 619 0 ((n : Int) + 1) = f
        -- the fields of the last state
        have hfr : fr4 (fun g => g ≠ 4 ∧ g ≠ 5 ∧ g ≠ 504 ∧ g ≠ 700 ∧ g ≠ 600 ∧ g ≠ 619 ∧ g ≠ 620 ∧ g ≠ 621 ∧ g ≠ 622 ∧ g ≠ 623) s f := by
          rw [← hf, ← hv, ← hw, ← hx, ← hy, ← hz]
          exact fr4_wI (by omega) (fr4_wB (by omega) (fr4_wB (by omega) (fr4_wB (by omega) (fr4_wB (by omega) (fr4_wA (by omega) (fr4_wA (by omega) (fr4_wA (by omega) (fr4_wA (by omega) (fr4_wI (by omega) (fr4_wA (by omega) (fr4_wI (by omega) (fr4_wA (by omega) (fr4_wA (by omega) (fr4_wA (by omega) (fr4_wA (by omega) (fr4_refl _ _))))))))))))))))
        have f504 : sI f 504 0 = (n : Int) + 1 := by
          rw [← hf, sI_wI, if_neg (by omega), ← hv, sI_wB, sI_wB, sI_wB, sI_wB, ← hw, sI_wA, sI_wA, sI_wA, sI_wA, ← hx, sI_wI, if_neg (by omega), ← hy, sI_wA, sI_wI, if_pos ⟨rfl, rfl⟩]
        have f619 : sI f 619 0 = (n : Int) + 1 := by rw [← hf, sI_wI, if_pos ⟨rfl, rfl⟩]
        have f600 : sI f 600 0 = 0 := by
          rw [← hf, sI_wI, if_neg (by omega), ← hv, sI_wB, sI_wB, sI_wB, sI_wB, ← hw, sI_wA, sI_wA, sI_wA, sI_wA, ← hx, sI_wI, if_pos ⟨rfl, rfl⟩]
        have fA : ∀ g i, g ≠ 620 → g ≠ 621 → g ≠ 700 → sA f g i = sA z g i := fun g i g1 g2 g3 => by
          rw [← hf, sA_wI, ← hv, sA_wB, sA_wB, sA_wB, sA_wB, ← hw, sA_wA, if_neg (by omega), sA_wA, if_neg (by omega), sA_wA, if_neg (by omega), sA_wA, if_neg (by omega), ← hx, sA_wI, ← hy, sA_wA, if_neg (by omega), sA_wI]
        have f700 : sA f 700 0 0 = (n : Int) := by
          rw [← hf, sA_wI, ← hv, sA_wB, sA_wB, sA_wB, sA_wB, ← hw, sA_wA, if_neg (by omega), sA_wA, if_neg (by omega), sA_wA, if_neg (by omega), sA_wA, if_neg (by omega), ← hx, sA_wI, ← hy, sA_wA, if_pos ⟨rfl, rfl⟩, up_eq]
        have f620 : sA f 620 0 = pm_up (pm_up (sA s 620 0) (2 * n) a) (2 * n + 1) c := by
          rw [← hf, sA_wI, ← hv, sA_wB, sA_wB, sA_wB, sA_wB, ← hw, sA_wA, if_neg (by omega), sA_wA, if_pos ⟨rfl, rfl⟩]
        have f621 : sA f 621 0 = pm_up (pm_up (sA s 621 0) (2 * n) b) (2 * n + 1) d := by
          rw [← hf, sA_wI, ← hv, sA_wB, sA_wB, sA_wB, sA_wB, ← hw, sA_wA, if_pos ⟨rfl, rfl⟩]
        have wB0 : ∀ g i, sB w g i = sB s g i := fun g i => by
          rw [← hw, sB_wA, sB_wA, sB_wA, sB_wA, ← hx, sB_wI, ← hy, sB_wA, sB_wI, ← hz, sB_wA, sB_wA, sB_wA, sB_wA]
        have f622 : sB f 622 0 = pm_up (pm_up (sB s 622 0) (2 * n) FP.fconst0) (2 * n + 1) FP.fconst0 := by
          rw [← hf, sB_wI, ← hv, sB_wB, if_neg (by omega), sB_wB, if_pos ⟨rfl, rfl⟩, wB0]
        have f623 : sB f 623 0 = pm_up (pm_up (sB s 623 0) (2 * n) FP.fconst0) (2 * n + 1) FP.fconst0 := by
          rw [← hf, sB_wI, ← hv, sB_wB, if_pos ⟨rfl, rfl⟩, wB0]
        have f4 : sA f 4 0 = pm_up (sA s 4 0) n a ∧ sA f 4 1 = pm_up (sA s 4 1) n c := by
          rw [fA 4 0 (by decide) (by decide) (by decide), fA 4 1 (by decide) (by decide) (by decide), ← hz]
          refine ⟨?_, ?_⟩
          · rw [sA_wA, if_neg (by omega), sA_wA, if_neg (by omega), sA_wA, if_neg (by omega), sA_wA, if_pos ⟨rfl, rfl⟩]
          · rw [sA_wA, if_neg (by omega), sA_wA, if_pos ⟨rfl, rfl⟩]
        have f5 : sA f 5 0 = pm_up (sA s 5 0) n b ∧ sA f 5 1 = pm_up (sA s 5 1) n d := by
          rw [fA 5 0 (by decide) (by decide) (by decide), fA 5 1 (by decide) (by decide) (by decide), ← hz]
          refine ⟨?_, ?_⟩
          · rw [sA_wA, if_neg (by omega), sA_wA, if_neg (by omega), sA_wA, if_pos ⟨rfl, rfl⟩]
          · rw [sA_wA, if_pos ⟨rfl, rfl⟩]
        have f6 : ∀ i, sB f 6 i = sB s 6 i ∧ sB f 7 i = sB s 7 i := fun i => by
          rw [← hf, sB_wI, sB_wI, ← hv, sB_wB, if_neg (by omega), sB_wB, if_neg (by omega), sB_wB, if_neg (by omega), sB_wB, if_neg (by omega), sB_wB, if_neg (by omega), sB_wB, if_neg (by omega), sB_wB, if_neg (by omega), sB_wB, if_neg (by omega), wB0, wB0]
          exact ⟨rfl, rfl⟩
        have gi : ∀ (A : Nat) (p q : Int), A < 2 → std p q → sA f 4 A = pm_up (sA s 4 A) n p → sA f 5 A = pm_up (sA s 5 A) n q → sA f 620 0 (2 * n + A) = p → sA f 621 0 (2 * n + A) = q → gIs s A → gIs f A := by
          intro A p q hA hpq g4 g5 g620 g621 g
          unfold std at hpq
          unfold gIs
          rw [f504, g4, g5, (f6 A).1, (f6 A).2, f622, f623]
          intro j hj
          obtain ⟨q1, q2, q3, q4, q5, q6⟩ := g j hj
          refine ⟨fun hlt => ?_, fun hge => q2 (by omega), q3, q4, q5, q6⟩
          by_cases hjn : j = n
          · subst hjn
            obtain ⟨z1, z2⟩ := q2 (by omega)
            rw [up_eq, up_eq, g620, g621, z1, z2]
            have eo : ∀ F : Nat → UInt32, pm_up (pm_up F (2 * j) FP.fconst0) (2 * j + 1) FP.fconst0 (2 * j + A) = FP.fconst0 := by
              intro F
              unfold pm_up
              by_cases hA0 : A = 0
              · rw [if_neg (by omega)]
                show (if 2 * j + A = 2 * j then FP.fconst0 else F (2 * j + A)) = FP.fconst0
                rw [if_pos (by omega)]
              · rw [if_pos (by omega)]
            exact ⟨rfl, rfl, (eo _).symm, (eo _).symm, by omega, by omega, by omega, by omega, by omega⟩
          · obtain ⟨x1, x2, x3, x4, x5⟩ := q1 (by omega)
            have eo : ∀ (F : Nat → UInt32), pm_up (pm_up F (2 * n) FP.fconst0) (2 * n + 1) FP.fconst0 (2 * j + A) = F (2 * j + A) := fun F => by rw [up_ne _ _ (by omega), up_ne _ _ (by omega)]
            rw [up_ne _ _ hjn, up_ne _ _ hjn, eo, eo, f620, f621, up_ne _ _ (by omega), up_ne _ _ (by omega), up_ne _ _ (by omega), up_ne _ _ (by omega)]
            exact ⟨x1, x2, x3, x4, x5⟩
        have gl : ∀ A, gLs s A → gLs f A := by
          intro A g
          unfold gLs
          rw [f504, (hfr 629 0 (by omega)).1, (hfr 630 0 (by omega)).1, (hfr 8 A (by omega)).1, (hfr 9 A (by omega)).2.2.2, (hfr 10 A (by omega)).2.2.2, (hfr 11 A (by omega)).2.2.1, (hfr 12 A (by omega)).2.2.2, (hfr 13 A (by omega)).2.1, (hfr 633 0 (by omega)).2.2.1, (hfr 634 0 (by omega)).2.2.2, (hfr 637 0 (by omega)).2.2.2, (hfr 631 0 (by omega)).2.2.1, (hfr 632 0 (by omega)).2.2.2, (hfr 638 0 (by omega)).2.2.2]
          obtain ⟨g1, g2, g3, g4, g5⟩ := g
          exact ⟨g1, g2, g3, by omega, g5⟩
        have a0 : sA f 620 0 (2 * n + 0) = a := by rw [f620, up_ne _ _ (by omega), show 2 * n + 0 = 2 * n by omega, up_eq]
        have b0' : sA f 621 0 (2 * n + 0) = b := by rw [f621, up_ne _ _ (by omega), show 2 * n + 0 = 2 * n by omega, up_eq]
        have a1 : sA f 620 0 (2 * n + 1) = c := by rw [f620, up_eq]
        have b1 : sA f 621 0 (2 * n + 1) = d := by rw [f621, up_eq]
        refine ⟨f600, fun _ => f700, ⟨grp_T hfr (fun f hf => by omega) hT, grp_R hfr (fun f hf => by omega) hR, grp_P hfr (fun f hf => by omega) hP0, grp_P hfr (fun f hf => by omega) hP1, ?_, gi 0 a b (by omega) h1 f4.1 f5.1 a0 b0' hI0, gi 1 c d (by omega) h2 f4.2 f5.2 a1 b1 hI1, grp_F hfr (fun f hf => by omega) hF, grp_S hfr (fun f hf => by omega) hS0, grp_S hfr (fun f hf => by omega) hS1, gl 0 hL0, gl 1 hL1, grp_X hfr (by omega) hX⟩, ?_⟩
        · rw [f504, f619]
          exact ⟨rfl, by omega, by omega⟩
        · rw [← hf, sN_wI, ← hv, sN_wB, sN_wB, sN_wB, sN_wB, ← hw, sN_wA, sN_wA, sN_wA, sN_wA, ← hx, sN_wI, ← hy, sN_wA, sN_wI, ← hz, sN_wA, sN_wA, sN_wA, sN_wA]
          omega
      · refine ok_neg h3 (ok_some ?_)
        show ok (if (1 : Nat) = 0 then some ((1 : Int), wN s) else (if (1 : Nat) = 1 then some ((2 : Int), wN s) else none)) _
        refine ok_neg (by decide) (ok_pos rfl (ok_some ?_))
        unfold f_X6_item f_X6_item_23 f_X6_item_37
        refine ok_eq ((k6_isBad a b (wN s)).1 h1) (ok_neg (show ¬ (0 : Int) ≠ 0 by decide) (ok_eq ((k6_isBad c d (wN s)).1 h2) (ok_pos (show (0 : Int) = 0 from rfl) ?_)))
        refine ok_neg (by show ¬ sI s 619 0 ≠ 10; omega) (ok_eq (k6_fails01 (wN s)) (ok_neg (show ¬ (1 : Int) = 0 by decide) (ok_some ⟨r600 _ _, fun h0 => absurd h0 (show ¬ (2 : Int) = 0 by decide), inv1 2, Nat.le_refl _⟩)))
    · refine ok_eq ((k5_isStand c d s).2 h2) (ok_neg (show ¬ (0 : Int) ≠ 0 by decide) (ok_some ?_))
      show ok (if (0 : Nat) = 0 then some ((1 : Int), wN s) else (if (0 : Nat) = 1 then some ((2 : Int), wN s) else none)) _
      refine ok_pos rfl (ok_some ?_)
      unfold f_X6_item f_X6_item_18 f_X6_item_23 f_X6_item_37
      refine ok_eq ((k6_isBad a b (wN s)).1 h1) (ok_neg (show ¬ (0 : Int) ≠ 0 by decide) (ok_eq ((k6_isBad c d (wN s)).2 h2) (ok_neg (show ¬ (1 : Int) = 0 by decide) ?_)))
      exact ok_if (fun _ => ok_eq (k6_fails1 0 (wN s)) (ok_neg (show ¬ (1 : Int) = 0 by decide) (ok_some ⟨r600 _ _, fun h0 => absurd h0 (show ¬ (1 : Int) = 0 by decide), inv1 1, Nat.le_refl _⟩))) (fun _ => ok_eq (k6_fails1 1 (wN s)) (ok_neg (show ¬ (1 : Int) = 0 by decide) (ok_some ⟨r600 _ _, fun h0 => absurd h0 (show ¬ (1 : Int) = 0 by decide), inv1 1, Nat.le_refl _⟩)))
  · refine ok_bind (ok_eq ((k5_isStand a b s).2 h1) (ok_pos (show (0 : Int) = 0 from rfl) (ok_some ?_)))
    show ok (if (0 : Nat) = 0 then some ((1 : Int), wN s) else (if (0 : Nat) = 1 then some ((2 : Int), wN s) else none)) _
    refine ok_pos rfl (ok_some ?_)
    unfold f_X6_item f_X6_item_18 f_X6_item_23 f_X6_item_37
    refine ok_eq ((k6_isBad a b (wN s)).2 h1) (ok_pos (show (1 : Int) ≠ 0 by decide) ?_)
    exact ok_if (fun _ => ok_eq (k6_fails1 0 (wN s)) (ok_neg (show ¬ (1 : Int) = 0 by decide) (ok_some ⟨r600 _ _, fun h0 => absurd h0 (show ¬ (1 : Int) = 0 by decide), inv1 1, Nat.le_refl _⟩))) (fun _ => ok_eq (k6_fails1 1 (wN s)) (ok_neg (show ¬ (1 : Int) = 0 by decide) (ok_some ⟨r600 _ _, fun h0 => absurd h0 (show ¬ (1 : Int) = 0 by decide), inv1 1, Nat.le_refl _⟩)))
