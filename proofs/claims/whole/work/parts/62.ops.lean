/-! ===== THE SMALL OPERATIONS (written by wip/whole/gen_ops.py) ===== -/
theorem op_write (c : Int) (hc : 0 ≤ c ∧ c < 65536) (s : pS) (hI : Inv s) : opI (f_X5_write c) (f_X6_write c) s := by
  obtain ⟨hT, hR, hP0, hP1, hC, hI0, hI1, hF, hS0, hS1, hL0, hL1, hX⟩ := hI
  obtain ⟨t1, t2, t3, t4⟩ := id hT
  unfold opI
  simp only [f_X5_write, f_X4_append, f_X4_append_21, f_X6_write, f_X6_write_26]
  repeat' (first
    | (refine ok_ck (by first | omega | (refine inR_of ?_; omega) | assumption | exact Or.inr trivial | exact Or.inl trivial) ?_)
    | (refine ok_some ?_; dsimp only)
    | (refine ok_bs ?_; simp only [sI_wI, sI_wF, sI_wA, sI_wB, sI_wD, sI_wN, sF_wI, sF_wF, sF_wA, sF_wB, sF_wD, sF_wN, sA_wI, sA_wF, sA_wA, sA_wB, sA_wD, sA_wN, sB_wI, sB_wF, sB_wA, sB_wB, sB_wD, sB_wN, sN_wI, sN_wF, sN_wA, sN_wB, sN_wD, sN_wN, Nat.reduceEqDiff, false_and, and_false, and_true, true_and, if_true, if_false])
    | (refine ok_bind ?_)
    | (refine ok_if (fun _ => ?_) (fun _ => ?_)))
  all_goals first
    | (exfalso; omega)
    | (refine ⟨rfl, ?_, Nat.le_succ _⟩
       first
       | exact ⟨hT, hR, hP0, hP1, hC, hI0, hI1, hF, hS0, hS1, hL0, hL1, hX⟩
       | (refine ⟨?_, hR, hP0, hP1, hC, hI0, hI1, hF, hS0, hS1, hL0, hL1, hX⟩
          show gT _ _ _ _
          refine ⟨?_, ?_, ?_, fun j hj => ?_⟩
          · show sI s 403 0 + 1 = sI s 601 0 + 1; omega
          · show 0 ≤ sI s 403 0 + 1; omega
          · show sI s 403 0 + 1 ≤ 40; omega
          · replace hj : (j : Int) < sI s 403 0 + 1 := hj
            show pm_up (sA s 402 0) (sI s 403 0).toNat c j = pm_up (sA s 602 0) (sI s 601 0).toNat c j ∧ 32 ≤ pm_up (sA s 402 0) (sI s 403 0).toNat c j ∧ pm_up (sA s 402 0) (sI s 403 0).toNat c j ≤ 126
            by_cases hjl : j = (sI s 403 0).toNat
            · rw [← t1, hjl, up_eq, up_eq]; omega
            · rw [← t1, up_ne _ _ hjl, up_ne _ _ hjl]; exact t4 j (by omega)))
theorem op_place (s : pS) (hI : Inv s) : opI f_X5_place f_X6_place s := by
  obtain ⟨hT, hR, hP0, hP1, hC, hI0, hI1, hF, hS0, hS1, hL0, hL1, hX⟩ := hI
  unfold opI
  simp only [f_X5_place, f_X6_place]
  repeat' (first
    | (refine ok_ck (by first | omega | (refine inR_of ?_; omega) | assumption | exact Or.inr trivial | exact Or.inl trivial) ?_)
    | (refine ok_some ?_; dsimp only)
    | (refine ok_bs ?_; simp only [sI_wI, sI_wF, sI_wA, sI_wB, sI_wD, sI_wN, sF_wI, sF_wF, sF_wA, sF_wB, sF_wD, sF_wN, sA_wI, sA_wF, sA_wA, sA_wB, sA_wD, sA_wN, sB_wI, sB_wF, sB_wA, sB_wB, sB_wD, sB_wN, sN_wI, sN_wF, sN_wA, sN_wB, sN_wD, sN_wN, Nat.reduceEqDiff, false_and, and_false, and_true, true_and, if_true, if_false])
    | (refine ok_bind ?_)
    | (refine ok_if (fun _ => ?_) (fun _ => ?_)))
  exact ⟨hR, ⟨hT, hR, hP0, hP1, hC, hI0, hI1, hF, hS0, hS1, hL0, hL1, hX⟩, Nat.le_succ _⟩
theorem op_tracks (a : Int) (s : pS) (hI : Inv s) : opI (f_X5_tracks a) (f_X6_tracks a) s := by
  obtain ⟨hT, hR, hP0, hP1, hC, hI0, hI1, hF, hS0, hS1, hL0, hL1, hX⟩ := hI
  have hA : a = 0 ∨ a = 1 ∨ (a ≠ 0 ∧ a ≠ 1) := by omega
  have l0 := hL0.1
  have l1 := hL1.1
  unfold opI
  simp only [f_X5_tracks, f_X6_tracks, f_X5_isAxis, f_X5_isAxis_9, f_X5_isAxis_14, f_X6_isAxis, f_X6_isAxis_9, f_X6_isAxis_14, f_X5_tracks_20, f_X6_tracks_29, f_X6_tracks_19]
  rcases hA with rfl | rfl | ⟨h0, h1⟩
  · 
    repeat' (first
      | (refine ok_ck (by first | omega | (refine inR_of ?_; omega) | assumption | exact Or.inr trivial | exact Or.inl trivial) ?_)
      | (refine ok_some ?_; dsimp only)
      | (refine ok_bs ?_; simp only [sI_wI, sI_wF, sI_wA, sI_wB, sI_wD, sI_wN, sF_wI, sF_wF, sF_wA, sF_wB, sF_wD, sF_wN, sA_wI, sA_wF, sA_wA, sA_wB, sA_wD, sA_wN, sB_wI, sB_wF, sB_wA, sB_wB, sB_wD, sB_wN, sN_wI, sN_wF, sN_wA, sN_wB, sN_wD, sN_wN, Nat.reduceEqDiff, false_and, and_false, and_true, true_and, if_true, if_false])
      | (refine ok_bind ?_)
      | (refine ok_if (fun _ => ?_) (fun _ => ?_)))
    all_goals first
      | (exfalso; omega)
      | (refine ⟨?_, ⟨hT, hR, hP0, hP1, hC, hI0, hI1, hF, hS0, hS1, hL0, hL1, hX⟩, Nat.le_succ _⟩
         first
         | rfl
         | (show sI s 8 0 = sA s 633 0 0
            rcases l0 with l | l
            · exfalso; omega
            · exact l.2.2.2.1)
         | (show sI s 8 1 = sA s 633 0 1
            rcases l1 with l | l
            · exfalso; omega
            · exact l.2.2.2.1)
         | (show sI s 8 0 = -1
            rcases l0 with l | l
            · exact l.2.2.1
            · exfalso; omega)
         | (show sI s 8 1 = -1
            rcases l1 with l | l
            · exact l.2.2.1
            · exfalso; omega))
  · 
    repeat' (first
      | (refine ok_ck (by first | omega | (refine inR_of ?_; omega) | assumption | exact Or.inr trivial | exact Or.inl trivial) ?_)
      | (refine ok_some ?_; dsimp only)
      | (refine ok_bs ?_; simp only [sI_wI, sI_wF, sI_wA, sI_wB, sI_wD, sI_wN, sF_wI, sF_wF, sF_wA, sF_wB, sF_wD, sF_wN, sA_wI, sA_wF, sA_wA, sA_wB, sA_wD, sA_wN, sB_wI, sB_wF, sB_wA, sB_wB, sB_wD, sB_wN, sN_wI, sN_wF, sN_wA, sN_wB, sN_wD, sN_wN, Nat.reduceEqDiff, false_and, and_false, and_true, true_and, if_true, if_false])
      | (refine ok_bind ?_)
      | (refine ok_if (fun _ => ?_) (fun _ => ?_)))
    all_goals first
      | (exfalso; omega)
      | (refine ⟨?_, ⟨hT, hR, hP0, hP1, hC, hI0, hI1, hF, hS0, hS1, hL0, hL1, hX⟩, Nat.le_succ _⟩
         first
         | rfl
         | (show sI s 8 0 = sA s 633 0 0
            rcases l0 with l | l
            · exfalso; omega
            · exact l.2.2.2.1)
         | (show sI s 8 1 = sA s 633 0 1
            rcases l1 with l | l
            · exfalso; omega
            · exact l.2.2.2.1)
         | (show sI s 8 0 = -1
            rcases l0 with l | l
            · exact l.2.2.1
            · exfalso; omega)
         | (show sI s 8 1 = -1
            rcases l1 with l | l
            · exact l.2.2.1
            · exfalso; omega))
  · 
    repeat' (first
      | (refine ok_ck (by first | omega | (refine inR_of ?_; omega) | assumption | exact Or.inr trivial | exact Or.inl trivial) ?_)
      | (refine ok_some ?_; dsimp only)
      | (refine ok_bs ?_; simp only [sI_wI, sI_wF, sI_wA, sI_wB, sI_wD, sI_wN, sF_wI, sF_wF, sF_wA, sF_wB, sF_wD, sF_wN, sA_wI, sA_wF, sA_wA, sA_wB, sA_wD, sA_wN, sB_wI, sB_wF, sB_wA, sB_wB, sB_wD, sB_wN, sN_wI, sN_wF, sN_wA, sN_wB, sN_wD, sN_wN, Nat.reduceEqDiff, false_and, and_false, and_true, true_and, if_true, if_false])
      | (refine ok_bind ?_)
      | (refine ok_if (fun _ => ?_) (fun _ => ?_)))
    all_goals first
      | (exfalso; omega)
      | (refine ⟨?_, ⟨hT, hR, hP0, hP1, hC, hI0, hI1, hF, hS0, hS1, hL0, hL1, hX⟩, Nat.le_succ _⟩
         first
         | rfl
         | (show sI s 8 0 = sA s 633 0 0
            rcases l0 with l | l
            · exfalso; omega
            · exact l.2.2.2.1)
         | (show sI s 8 1 = sA s 633 0 1
            rcases l1 with l | l
            · exfalso; omega
            · exact l.2.2.2.1)
         | (show sI s 8 0 = -1
            rcases l0 with l | l
            · exact l.2.2.1
            · exfalso; omega)
         | (show sI s 8 1 = -1
            rcases l1 with l | l
            · exact l.2.2.1
            · exfalso; omega))
