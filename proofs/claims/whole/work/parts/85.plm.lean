/-! ===== PLACING: the reference (written by wip/whole/gen_plm.py) ===== -/
def l2 (m : Nat) (LM LO old : Nat → Int) : Nat → Int := fun q => if q < 20 then (if q % 2 = m then LM (q / 2) else LO (q / 2)) else old q
theorem l2_m {m j : Nat} {LM LO old : Nat → Int} (hm : m < 2) (hj : j < 10) : l2 m LM LO old (2 * j + m) = LM j := by
  unfold l2
  rw [if_pos (by omega), if_pos (by omega), show (2 * j + m) / 2 = j by omega]
theorem l2_o {m j : Nat} {LM LO old : Nat → Int} (hm : m < 2) (hj : j < 10) : l2 m LM LO old (2 * j + 1 - m) = LO j := by
  unfold l2
  rw [if_pos (by omega), if_neg (by omega), show (2 * j + 1 - m) / 2 = j by omega]
theorem l2_um {m j : Nat} {LM LO old : Nat → Int} {v : Int} (hm : m < 2) (hj : j < 10) : pm_up (l2 m LM LO old) (2 * j + m) v = l2 m (pm_up LM j v) LO old := by
  funext q
  unfold l2 pm_up
  by_cases hq : q = 2 * j + m
  · rw [if_pos hq, if_pos (by omega), if_pos (by omega), if_pos (by omega)]
  · rw [if_neg hq]
    show (if q < 20 then (if q % 2 = m then LM (q / 2) else LO (q / 2)) else old q) = _
    by_cases h1 : q < 20
    · rw [if_pos h1, if_pos h1]
      by_cases h2 : q % 2 = m
      · rw [if_pos h2, if_pos h2, if_neg (by omega)]
      · rw [if_neg h2, if_neg h2]
    · rw [if_neg h1, if_neg h1]
theorem l2_uo {m j : Nat} {LM LO old : Nat → Int} {v : Int} (hm : m < 2) (hj : j < 10) : pm_up (l2 m LM LO old) (2 * j + 1 - m) v = l2 m LM (pm_up LO j v) old := by
  funext q
  unfold l2 pm_up
  by_cases hq : q = 2 * j + 1 - m
  · rw [if_pos hq, if_pos (by omega), if_neg (by omega), if_pos (by omega)]
  · rw [if_neg hq]
    show (if q < 20 then (if q % 2 = m then LM (q / 2) else LO (q / 2)) else old q) = _
    by_cases h1 : q < 20
    · rw [if_pos h1, if_pos h1]
      by_cases h2 : q % 2 = m
      · rw [if_pos h2, if_pos h2]
      · rw [if_neg h2, if_neg h2, if_neg (by omega)]
    · rw [if_neg h1, if_neg h1]
def mkQ (s : pS) (m : Nat) (Q : PT) (cm co : Int) : pS := wI (wI (wA (wA s 631 0 (l2 m Q.1 Q.2.1 (sA s 631 0))) 639 0 Q.2.2) 641 0 cm) 642 0 co
theorem q631 (s : pS) (m : Nat) (Q : PT) (cm co : Int) : sA (mkQ s m Q cm co) 631 0 = l2 m Q.1 Q.2.1 (sA s 631 0) := rfl
theorem q639 (s : pS) (m : Nat) (Q : PT) (cm co : Int) : sA (mkQ s m Q cm co) 639 0 = Q.2.2 := rfl
theorem q641 (s : pS) (m : Nat) (Q : PT) (cm co : Int) : sI (mkQ s m Q cm co) 641 0 = cm := rfl
theorem q642 (s : pS) (m : Nat) (Q : PT) (cm co : Int) : sI (mkQ s m Q cm co) 642 0 = co := rfl
theorem q624 (s : pS) (m : Nat) (Q : PT) (cm co : Int) : sI (mkQ s m Q cm co) 624 0 = sI s 624 0 := rfl
theorem q625 (s : pS) (m : Nat) (Q : PT) (cm co : Int) : sI (mkQ s m Q cm co) 625 0 = sI s 625 0 := rfl
theorem q619 (s : pS) (m : Nat) (Q : PT) (cm co : Int) : sI (mkQ s m Q cm co) 619 0 = sI s 619 0 := rfl
theorem q640 (s : pS) (m : Nat) (Q : PT) (cm co : Int) : sI (mkQ s m Q cm co) 640 0 = sI s 640 0 := rfl
theorem q620 (s : pS) (m : Nat) (Q : PT) (cm co : Int) : sA (mkQ s m Q cm co) 620 0 = sA s 620 0 := rfl
theorem q621 (s : pS) (m : Nat) (Q : PT) (cm co : Int) : sA (mkQ s m Q cm co) 621 0 = sA s 621 0 := rfl
theorem x631 (s : pS) (m : Nat) (Q : PT) (cm co : Int) (LM LO : Nat → Int) : wA (mkQ s m Q cm co) 631 0 (l2 m LM LO (sA s 631 0)) = mkQ s m (LM, LO, Q.2.2) cm co := by
  have h : wA (wA (wA s 631 0 (l2 m Q.1 Q.2.1 (sA s 631 0))) 639 0 Q.2.2) 631 0 (l2 m LM LO (sA s 631 0)) = wA (wA s 631 0 (l2 m LM LO (sA s 631 0))) 639 0 Q.2.2 := by
    rw [wA_comm _ _ _ (by decide : 639 ≠ 631), wA_wA]
  exact congrArg (fun z => wI (wI z 641 0 cm) 642 0 co) h
theorem x639 (s : pS) (m : Nat) (Q : PT) (cm co : Int) (T : Nat → Int) : wA (mkQ s m Q cm co) 639 0 T = mkQ s m (Q.1, Q.2.1, T) cm co := by
  have h : wA (wA (wA s 631 0 (l2 m Q.1 Q.2.1 (sA s 631 0))) 639 0 Q.2.2) 639 0 T = wA (wA s 631 0 (l2 m Q.1 Q.2.1 (sA s 631 0))) 639 0 T := wA_wA _ _ _ _ _
  exact congrArg (fun z => wI (wI z 641 0 cm) 642 0 co) h
theorem x641 (s : pS) (m : Nat) (Q : PT) (cm co v : Int) : wI (mkQ s m Q cm co) 641 0 v = mkQ s m Q v co := by
  unfold mkQ
  rw [wI_comm _ _ _ (by decide : 642 ≠ 641), wI_wI]
theorem x642 (s : pS) (m : Nat) (Q : PT) (cm co v : Int) : wI (mkQ s m Q cm co) 642 0 v = mkQ s m Q cm v := by
  unfold mkQ
  rw [wI_wI]
def mpl (s : pS) (m n : Nat) (cnt pk : Int) (sm so : Nat → Int) (hm wo : Nat → Nat) : Prop := m < 2 ∧ sI s 624 0 = (m : Int) ∧ sI s 625 0 = pk ∧ sI s 619 0 = (n : Int) ∧ sI s 640 0 = cnt ∧ itm n cnt sm so hm wo ∧ ∀ j, j < n → sA s 620 0 (2 * j + m) = sm j ∧ sA s 620 0 (2 * j + 1 - m) = so j ∧ sA s 621 0 (2 * j + m) = (hm j : Int) ∧ sA s 621 0 (2 * j + 1 - m) = (wo j : Int)
theorem i2o {j m : Nat} (hm : m < 2) : (2 * (j : Int) + 1 - (m : Int)).toNat = 2 * j + 1 - m := by omega
section
variable {s : pS} {m n : Nat} {cnt pk : Int} {sm so : Nat → Int} {hm wo : Nat → Nat}
theorem k7_mainStart (hV : mpl s m n cnt pk sm so hm wo) (Q : PT) (cm co : Int) (j : Nat) (hj : j < n) : f_X6_mainStart j (mkQ s m Q cm co) = some (sm j, mkQ s m Q cm co) := by
  have hV' := hV
  obtain ⟨hm2, e624, e625, e619, e640, hIt, hA⟩ := hV'
  obtain ⟨hn, hc1, hc2, hI⟩ := id hIt
  obtain ⟨a1, a2, a3, a4⟩ := hA j hj
  refine of_ok ?_
  unfold f_X6_mainStart
  simp only [q624, e624, q620, i2, a1]
  exact ok_ck (inR_of (by omega)) (ok_ck (inR_of (by omega)) (ok_ck (by omega) (ok_some rfl)))
theorem k7_otherStart (hV : mpl s m n cnt pk sm so hm wo) (Q : PT) (cm co : Int) (j : Nat) (hj : j < n) : f_X6_otherStart j (mkQ s m Q cm co) = some (so j, mkQ s m Q cm co) := by
  have hV' := hV
  obtain ⟨hm2, e624, e625, e619, e640, hIt, hA⟩ := hV'
  obtain ⟨hn, hc1, hc2, hI⟩ := id hIt
  obtain ⟨a1, a2, a3, a4⟩ := hA j hj
  refine of_ok ?_
  unfold f_X6_otherStart
  simp only [q624, e624, q620, i2o hm2, a2]
  exact ok_ck (inR_of (by omega)) (ok_ck (inR_of (by omega)) (ok_ck (inR_of (by omega)) (ok_ck (by omega) (ok_some rfl))))
theorem k7_isFree (hV : mpl s m n cnt pk sm so hm wo) (Q : PT) (cm co : Int) (j : Nat) (r c : Int) (hj : j < n) (hr : 1 ≤ r ∧ r ≤ 13) (hc : 1 ≤ c ∧ c ≤ 13) : f_X6_isFree j r c (mkQ s m Q cm co) = some (if opn Q.2.2 cnt (hm j) (wo j) r c then 1 else 0, mkQ s m Q cm co) := by
  have hV' := hV
  obtain ⟨hm2, e624, e625, e619, e640, hIt, hA⟩ := hV'
  obtain ⟨hn, hc1, hc2, hI⟩ := id hIt
  obtain ⟨i1, i2', i3, i4, i5, i6, i7, i8, i9⟩ := hI j hj
  obtain ⟨a1, a2, a3, a4⟩ := hA j hj
  refine of_ok ?_
  unfold f_X6_isFree f_X6_isFree_56
  simp only [q624, e624, q621, q640, e640, i2o hm2, i2, a3, a4]
  unfold opn
  refine ok_ck (inR_of (by omega)) (ok_ck (inR_of (by omega)) (ok_ck (by omega) (ok_bs (ok_ck (inR_of (by omega)) (ok_ck (inR_of (by omega)) (ok_ck (inR_of (by omega)) (ok_ck (by omega) (ok_bs (ok_ck (inR_of (by omega)) (ok_ck (inR_of (by omega)) (ok_if (fun q => ?_) (fun q => ok_ck (inR_of (by omega)) (ok_ck (inR_of (by omega)) (ok_if (fun q2 => ?_) (fun q2 => ?_)))))))))))))))
  · rw [decide_eq_false (show ¬ c + (wo j : Int) ≤ cnt + 1 by omega), Bool.false_and, Bool.and_false]
    exact ok_some rfl
  · rw [decide_eq_true (show r + (hm j : Int) ≤ 13 by omega), decide_eq_true (show c + (wo j : Int) ≤ cnt + 1 by omega), Bool.true_and, Bool.true_and]
    generalize hS : mkQ s m Q cm co = S
    have e639 : sA S 639 0 = Q.2.2 := by rw [← hS]; rfl
    generalize Q.2.2 = T at *
    refine itJ (fun r' k (_ : Unit) => f_X6_isFree_61 (fun s14 => some (1, s14)) r' r c (hm j : Int) (wo j : Int) (r + (k : Int)) S) (fun k _ => opR T r c (wo j) k = true) (hm j) _ (fun r' k u hk hJ ih => ?_) (fun r' u hJ => ?_) 400 0 () (by omega) (by omega) rfl |> fun h => by rw [show r + ((0 : Nat) : Int) = r by omega] at h; exact h
    · rw [f_X6_isFree_61]
      refine ok_ck (inR_of (by omega)) (ok_neg (by omega) ?_)
      refine itJ (fun r2 k2 (_ : Unit) => f_X6_isFree_73 (fun x2 x3 x4 x5 x6 s2 => ck (inR (x6 + 1)) (f_X6_isFree_61 (fun s14 => some (1, s14)) r' x2 x3 x4 x5 (x6 + 1) s2)) r2 r c (hm j : Int) (wo j : Int) (r + (k : Int)) (c + (k2 : Int)) S) (fun k2 _ => opC T (r + k) c k2 = true) (wo j) _ (fun r2 k2 u2 hk2 hJ2 ih2 => ?_) (fun r2 u2 hJ2 => ?_) 400 0 () (by omega) (by omega) rfl |> fun h => by rw [show c + ((0 : Nat) : Int) = c by omega] at h; exact h
      · rw [f_X6_isFree_73]
        have ecel : (12 * (r + (k : Int) - 1) + (c + (k2 : Int)) - 1).toNat = cel (r + k) (c + k2) := by unfold cel; omega
        simp only [ecel, e639]
        refine ok_ck (inR_of (by omega)) (ok_neg (by omega) (ok_ck (inR_of (by omega)) (ok_ck (inR_of (by omega)) (ok_ck (inR_of (by omega)) (ok_ck (inR_of (by omega)) (ok_ck (by omega) (ok_if (fun q3 => ok_ck (inR_of (by omega)) ?_) (fun q3 => ok_some ?_))))))))
        · have := ih2 () (by
            show (opC T (r + k) c k2 && decide (T (cel (r + k) (c + k2)) = 0)) = true
            rw [hJ2, decide_eq_true q3]; rfl)
          rw [show c + ((k2 + 1 : Nat) : Int) = c + (k2 : Int) + 1 by omega] at this
          exact this
        · have f1 : opC T (r + k) c (k2 + 1) = false := by
            show (opC T (r + k) c k2 && decide (T (cel (r + k) (c + k2)) = 0)) = false
            rw [decide_eq_false q3, Bool.and_false]
          have f2 := opC_mono (show k2 + 1 ≤ wo j by omega) f1
          have f3 : opR T r c (wo j) (k + 1) = false := by
            show (opR T r c (wo j) k && opC T (r + k) c (wo j)) = false
            rw [f2, Bool.and_false]
          rw [opR_mono (show k + 1 ≤ hm j by omega) f3]
          rfl
      · rw [f_X6_isFree_73]
        refine ok_ck (inR_of (by omega)) (ok_pos (by omega) (ok_ck (inR_of (by omega)) ?_))
        have := ih () (by
          show (opR T r c (wo j) k && opC T (r + k) c (wo j)) = true
          rw [hJ, hJ2]; rfl)
        rw [show r + ((k + 1 : Nat) : Int) = r + (k : Int) + 1 by omega] at this
        exact this
    · rw [f_X6_isFree_61]
      refine ok_ck (inR_of (by omega)) (ok_pos (by omega) (ok_some ?_))
      rw [hJ]; rfl
  · rw [decide_eq_false (show ¬ r + (hm j : Int) ≤ 13 by omega), Bool.false_and]
    exact ok_some rfl
theorem k7_stand (hV : mpl s m n cnt pk sm so hm wo) (Q : PT) (cm co : Int) (j : Nat) (r c : Int) (hj : j < n) (hr : 1 ≤ r ∧ r + hm j ≤ 13) (hc : 1 ≤ c ∧ c + wo j ≤ 13) : f_X6_stand j r c (mkQ s m Q cm co) = some (mkQ s m (stl Q j r c (hm j) (wo j)) cm co) := by
  have hV' := hV
  obtain ⟨hm2, e624, e625, e619, e640, hIt, hA⟩ := hV'
  obtain ⟨hn, hc1, hc2, hI⟩ := id hIt
  obtain ⟨i1, i2', i3, i4, i5, i6, i7, i8, i9⟩ := hI j hj
  obtain ⟨a1, a2, a3, a4⟩ := hA j hj
  refine of_ok ?_
  unfold f_X6_stand
  simp only [q624, e624, i2, q631]
  refine ok_ck (inR_of (by omega)) (ok_ck (inR_of (by omega)) (ok_ck (by omega) (ok_bs ?_)))
  rw [l2_um hm2 (by omega), x631]
  simp only [q624, e624, i2o hm2, q631]
  refine ok_ck (inR_of (by omega)) (ok_ck (inR_of (by omega)) (ok_ck (inR_of (by omega)) (ok_ck (by omega) (ok_bs ?_))))
  rw [l2_uo hm2 (by omega), x631]
  refine itS (fun r' k => f_X6_stand_33 (fun s10 => some s10) r' j r c (r + (k : Int)) (mkQ s m (pm_up Q.1 j r, pm_up Q.2.1 j c, stR Q.2.2 r c (wo j) k) cm co)) (hm j) _ (fun r' k hk ih => ?_) (fun r' => ?_) 400 0 (by omega) (by omega) |> fun h => by rw [show r + ((0 : Nat) : Int) = r by omega] at h; exact h
  · rw [f_X6_stand_33]
    simp only [q624, e624, i2, q621, a3]
    refine ok_ck (inR_of (by omega)) (ok_ck (inR_of (by omega)) (ok_ck (by omega) (ok_ck (inR_of (by omega)) (ok_neg (by omega) ?_))))
    refine itS (fun r2 k2 => f_X6_stand_56 (fun x1 x2 x3 x4 s5 => ck (inR (x4 + 1)) (f_X6_stand_33 (fun s10 => some s10) r' x1 x2 x3 (x4 + 1) s5)) r2 j r c (r + (k : Int)) (c + (k2 : Int)) (mkQ s m (pm_up Q.1 j r, pm_up Q.2.1 j c, stC (stR Q.2.2 r c (wo j) k) (r + k) c k2) cm co)) (wo j) _ (fun r2 k2 hk2 ih2 => ?_) (fun r2 => ?_) 400 0 (by omega) (by omega) |> fun h => by rw [show c + ((0 : Nat) : Int) = c by omega] at h; exact h
    · rw [f_X6_stand_56]
      have ecel : (12 * (r + (k : Int) - 1) + (c + (k2 : Int)) - 1).toNat = cel (r + k) (c + k2) := by unfold cel; omega
      simp only [q624, e624, i2o hm2, q621, a4, ecel, q639, x639]
      refine ok_ck (inR_of (by omega)) (ok_ck (inR_of (by omega)) (ok_ck (inR_of (by omega)) (ok_ck (by omega) (ok_ck (inR_of (by omega)) (ok_neg (by omega) (ok_ck (inR_of (by omega)) (ok_ck (inR_of (by omega)) (ok_ck (inR_of (by omega)) (ok_ck (inR_of (by omega)) (ok_ck (by omega) (ok_bs (ok_ck (inR_of (by omega)) ?_))))))))))))
      rw [show c + (k2 : Int) + 1 = c + ((k2 + 1 : Nat) : Int) by omega]
      exact ih2
    · rw [f_X6_stand_56]
      simp only [q624, e624, i2o hm2, q621, a4]
      refine ok_ck (inR_of (by omega)) (ok_ck (inR_of (by omega)) (ok_ck (inR_of (by omega)) (ok_ck (by omega) (ok_ck (inR_of (by omega)) (ok_pos (by omega) (ok_ck (inR_of (by omega)) ?_))))))
      rw [show r + (k : Int) + 1 = r + ((k + 1 : Nat) : Int) by omega]
      exact ih
  · rw [f_X6_stand_33]
    simp only [q624, e624, i2, q621, a3]
    exact ok_ck (inR_of (by omega)) (ok_ck (inR_of (by omega)) (ok_ck (by omega) (ok_ck (inR_of (by omega)) (ok_pos (by omega) (ok_some rfl)))))
/-! searches -/
theorem k7_100 (hV : mpl s m n cnt pk sm so hm wo) (Q : PT) (LB : Nat → Int) (cm co : Int) (j : Nat) (hj : j < n) (hs : sm j ≠ 0) : ∀ (k N : Nat) (x : Int), k < N → k = (cnt + 1 - x).toNat → 1 ≤ x → x ≤ 13 → ok (f_X6_inLine_100 (fun s2 => some s2) N j x (mkQ s m Q cm co)) (fun u => u = mkQ s m (ms2 Q LB j (sm j) (hm j) (wo j) (srch (opn Q.2.2 cnt (hm j) (wo j) (sm j)) x k)).1 cm co) := by
  have hV' := hV
  obtain ⟨hm2, e624, e625, e619, e640, hIt, hA⟩ := hV'
  obtain ⟨hn, hc1, hc2, hI⟩ := id hIt
  obtain ⟨i1, i2', i3, i4, i5, i6, i7, i8, i9⟩ := hI j hj
  intro k
  induction k with
  | zero =>
    intro N x h1 h2 h3 h4
    obtain ⟨N, rfl⟩ : ∃ q, N = q + 1 := ⟨N - 1, by omega⟩
    rw [f_X6_inLine_100]
    exact ok_pos (by rw [q640]; omega) (ok_some rfl)
  | succ k ih =>
    intro N x h1 h2 h3 h4
    obtain ⟨N, rfl⟩ : ∃ q, N = q + 1 := ⟨N - 1, by omega⟩
    rw [f_X6_inLine_100, srch]
    refine ok_neg (by rw [q640]; omega) (ok_eq (k7_mainStart hV Q cm co j hj) (ok_eq (k7_isFree hV Q cm co j (sm j) x hj (by omega) (by omega)) ?_))
    dsimp only
    cases ho : opn Q.2.2 cnt (hm j) (wo j) (sm j) x with
    | false =>
      refine ok_pos rfl (ok_ck (inR_of (by omega)) ?_)
      exact ih N (x + 1) (by omega) (by omega) (by omega) (by omega)
    | true =>
      have hb := opn_b ho
      exact ok_neg (by decide) (ok_eq (k7_mainStart hV Q cm co j hj) (ok_eq (k7_stand hV Q cm co j (sm j) x hj (by omega) (by omega)) (ok_some rfl)))
theorem k7_111 (hV : mpl s m n cnt pk sm so hm wo) (Q : PT) (cm co : Int) (j : Nat) (r c : Int) (hj : j < n) (hr : 1 ≤ r) (hc : 1 ≤ c) (ho : opn Q.2.2 cnt (hm j) (wo j) r c = true) : f_X6_byItself_111 j r c (mkQ s m Q cm co) = some (mkQ s m (stl Q j r c (hm j) (wo j)) r c) := by
  have hV' := hV
  obtain ⟨hm2, e624, e625, e619, e640, hIt, hA⟩ := hV'
  obtain ⟨hn, hc1, hc2, hI⟩ := id hIt
  obtain ⟨i1, i2', i3, i4, i5, i6, i7, i8, i9⟩ := hI j hj
  have hb := opn_b ho
  refine of_ok ?_
  unfold f_X6_byItself_111
  refine ok_pos (by omega) (ok_eq (k7_stand hV Q cm co j r c hj (by omega) (by omega)) (ok_bs ?_))
  rw [x641]
  refine ok_bs ?_
  rw [x642]
  exact ok_some rfl
theorem k7_50 (hV : mpl s m n cnt pk sm so hm wo) (Q : PT) (cm co : Int) (j : Nat) (c : Int) (hj : j < n) (hc : 1 ≤ c ∧ c ≤ 12) : ∀ (k N : Nat) (x : Int), k < N → k = (13 - x).toNat → 1 ≤ x → x ≤ 13 → ok (f_X6_byItself_50 (fun x1 x3 x4 s1 => f_X6_byItself_111 x1 x3 x4 s1) N j x c (mkQ s m Q cm co)) (fun u => u = mkQ s m (bc2 Q cm co j (hm j) (wo j) ((srch (fun r => opn Q.2.2 cnt (hm j) (wo j) r c) x k).map (fun r => (r, c)))).1 (bc2 Q cm co j (hm j) (wo j) ((srch (fun r => opn Q.2.2 cnt (hm j) (wo j) r c) x k).map (fun r => (r, c)))).2.1 (bc2 Q cm co j (hm j) (wo j) ((srch (fun r => opn Q.2.2 cnt (hm j) (wo j) r c) x k).map (fun r => (r, c)))).2.2) := by
  have hV' := hV
  obtain ⟨hm2, e624, e625, e619, e640, hIt, hA⟩ := hV'
  obtain ⟨hn, hc1, hc2, hI⟩ := id hIt
  intro k
  induction k with
  | zero =>
    intro N x h1 h2 h3 h4
    obtain ⟨N, rfl⟩ : ∃ q, N = q + 1 := ⟨N - 1, by omega⟩
    rw [f_X6_byItself_50]
    unfold f_X6_byItself_111
    exact ok_pos (by omega) (ok_neg (by omega) (ok_some rfl))
  | succ k ih =>
    intro N x h1 h2 h3 h4
    obtain ⟨N, rfl⟩ : ∃ q, N = q + 1 := ⟨N - 1, by omega⟩
    rw [f_X6_byItself_50, srch]
    refine ok_neg (by omega) (ok_eq (k7_isFree hV Q cm co j x c hj (by omega) (by omega)) ?_)
    dsimp only
    cases ho : opn Q.2.2 cnt (hm j) (wo j) x c with
    | false =>
      refine ok_neg (by decide) (ok_ck (inR_of (by omega)) ?_)
      exact ih N (x + 1) (by omega) (by omega) (by omega) (by omega)
    | true => exact ok_pos (by decide) (ok_of (k7_111 hV Q cm co j x c hj h3 hc.1 ho) rfl)
theorem k7_row (hV : mpl s m n cnt pk sm so hm wo) (Q : PT) (cm co : Int) (j : Nat) (r : Int) (hj : j < n) (hr : 1 ≤ r ∧ r ≤ 12) (P : pS → Prop) (N : Nat) : ∀ (k : Nat) (x : Int), 1 ≤ k → k = (cnt + 1 - x).toNat → 1 ≤ x → (∀ c, srch (opn Q.2.2 cnt (hm j) (wo j) r) x k = some c → P (mkQ s m (stl Q j r c (hm j) (wo j)) r c)) → (srch (opn Q.2.2 cnt (hm j) (wo j) r) x k = none → ok (f_X6_byItself_73 (fun x1 x3 x4 s4 => f_X6_byItself_111 x1 x3 x4 s4) N j (r + 1) 1 (mkQ s m Q cm co)) P) → ok (f_X6_byItself_73 (fun x1 x3 x4 s4 => f_X6_byItself_111 x1 x3 x4 s4) (N + k) j r x (mkQ s m Q cm co)) P := by
  have hV' := hV
  obtain ⟨hm2, e624, e625, e619, e640, hIt, hA⟩ := hV'
  obtain ⟨hn, hc1, hc2, hI⟩ := id hIt
  intro k
  induction k with
  | zero => intro x h1; omega
  | succ k ih =>
    intro x h1 h2 h3 hs hk
    show ok (f_X6_byItself_73 (fun x1 x3 x4 s4 => f_X6_byItself_111 x1 x3 x4 s4) ((N + k) + 1) j r x (mkQ s m Q cm co)) P
    rw [f_X6_byItself_73]
    rw [srch] at hs hk
    refine ok_neg (by omega) (ok_eq (k7_isFree hV Q cm co j r x hj (by omega) (by omega)) ?_)
    dsimp only
    cases ho : opn Q.2.2 cnt (hm j) (wo j) r x with
    | false =>
      rw [ho, if_neg (by decide)] at hs hk
      refine ok_neg (by decide) (ok_ck (inR_of (by omega)) (ok_if (fun q => ?_) (fun q => ok_ck (inR_of (by omega)) ?_)))
      · rw [q640] at q
        exact ih (x + 1) (by omega) (by omega) (by omega) hs hk
      · rw [q640] at q
        have hk0 : k = 0 := by omega
        subst hk0
        exact hk rfl
    | true =>
      rw [ho, if_pos rfl] at hs
      exact ok_pos (by decide) (ok_of (k7_111 hV Q cm co j r x hj hr.1 h3 ho) (hs x rfl))
theorem k7_73 (hV : mpl s m n cnt pk sm so hm wo) (Q : PT) (cm co : Int) (j : Nat) (hj : j < n) : ∀ (k N : Nat) (r c : Int), 13 * k < N → k = (13 - r).toNat → 1 ≤ r → r ≤ 13 → 1 ≤ c → c ≤ cnt → ok (f_X6_byItself_73 (fun x1 x3 x4 s4 => f_X6_byItself_111 x1 x3 x4 s4) N j r c (mkQ s m Q cm co)) (fun u => u = mkQ s m (bc2 Q cm co j (hm j) (wo j) (sany (opn Q.2.2 cnt (hm j) (wo j)) cnt r c k)).1 (bc2 Q cm co j (hm j) (wo j) (sany (opn Q.2.2 cnt (hm j) (wo j)) cnt r c k)).2.1 (bc2 Q cm co j (hm j) (wo j) (sany (opn Q.2.2 cnt (hm j) (wo j)) cnt r c k)).2.2) := by
  have hV' := hV
  obtain ⟨hm2, e624, e625, e619, e640, hIt, hA⟩ := hV'
  obtain ⟨hn, hc1, hc2, hI⟩ := id hIt
  intro k
  induction k with
  | zero =>
    intro N r c h1 h2 h3 h4 h5 h6
    obtain ⟨N, rfl⟩ : ∃ q, N = q + 1 := ⟨N - 1, by omega⟩
    rw [f_X6_byItself_73]
    unfold f_X6_byItself_111
    exact ok_pos (by omega) (ok_neg (by omega) (ok_some rfl))
  | succ k ih =>
    intro N r c h1 h2 h3 h4 h5 h6
    obtain ⟨M, hM⟩ : ∃ M, N = M + (cnt + 1 - c).toNat := ⟨N - (cnt + 1 - c).toNat, by omega⟩
    rw [hM, sany]
    refine k7_row hV Q cm co j r hj (by omega) _ M _ c (by omega) rfl h5 (fun x hx => ?_) (fun hx => ?_)
    · rw [hx]
      rfl
    · rw [hx]
      exact ih M (r + 1) 1 (by omega) (by omega) (by omega) (by omega) (by omega) (by omega)
end
