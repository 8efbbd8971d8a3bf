/-! ===== PLACING: the class (written by wip/whole/gen_plc.py) ===== -/
def cel (r c : Int) : Nat := ((r - 1) * 12 + c - 1).toNat
def opC (T : Nat → Int) (r c : Int) : Nat → Bool
  | 0 => true
  | k + 1 => opC T r c k && decide (T (cel r (c + k)) = 0)
def opR (T : Nat → Int) (r c : Int) (w : Nat) : Nat → Bool
  | 0 => true
  | k + 1 => opR T r c w k && opC T (r + k) c w
/-- may an item of h and w stand at r and c -/
def opn (T : Nat → Int) (cnt : Int) (h w : Nat) (r c : Int) : Bool := decide (r + h ≤ 13) && (decide (c + w ≤ cnt + 1) && opR T r c w h)
def stC (T : Nat → Int) (r c : Int) : Nat → Nat → Int
  | 0 => T
  | k + 1 => pm_up (stC T r c k) (cel r (c + k)) 1
def stR (T : Nat → Int) (r c : Int) (w : Nat) : Nat → Nat → Int
  | 0 => T
  | k + 1 => stC (stR T r c w k) (r + k) c w
theorem opC_mono {T : Nat → Int} {r c : Int} {k : Nat} : ∀ {w : Nat}, k ≤ w → opC T r c k = false → opC T r c w = false
  | 0, h, hf => by rw [show k = 0 by omega] at hf; exact hf
  | w + 1, h, hf => by
    by_cases hk : k = w + 1
    · rw [hk] at hf; exact hf
    · show (opC T r c w && decide (T (cel r (c + w)) = 0)) = false
      rw [opC_mono (w := w) (by omega) hf, Bool.false_and]
theorem opR_mono {T : Nat → Int} {r c : Int} {n k : Nat} : ∀ {w : Nat}, k ≤ w → opR T r c n k = false → opR T r c n w = false
  | 0, h, hf => by rw [show k = 0 by omega] at hf; exact hf
  | w + 1, h, hf => by
    by_cases hk : k = w + 1
    · rw [hk] at hf; exact hf
    · show (opR T r c n w && opC T (r + w) c n) = false
      rw [opR_mono (w := w) (by omega) hf, Bool.false_and]
/-- the placer's state: lines of the main axis m and of the other, taken cells, lines behind, cursor -/
def mkP (s : pS) (m : Nat) (LM LO T LB : Nat → Int) (cm co : Int) : pS := wI (wI (wA (wA (wA (wA s 11 m LM) 11 (1 - m) LO) 107 0 T) 108 0 LB) 105 0 cm) 106 0 co
theorem pI100 (s : pS) (m : Nat) (LM LO T LB : Nat → Int) (cm co : Int) : sI (mkP s m LM LO T LB cm co) 100 0 = sI s 100 0 := rfl
theorem pI101 (s : pS) (m : Nat) (LM LO T LB : Nat → Int) (cm co : Int) : sI (mkP s m LM LO T LB cm co) 101 0 = sI s 101 0 := rfl
theorem pI102 (s : pS) (m : Nat) (LM LO T LB : Nat → Int) (cm co : Int) : sI (mkP s m LM LO T LB cm co) 102 0 = sI s 102 0 := rfl
theorem pI103 (s : pS) (m : Nat) (LM LO T LB : Nat → Int) (cm co : Int) : sI (mkP s m LM LO T LB cm co) 103 0 = sI s 103 0 := rfl
theorem pI104 (s : pS) (m : Nat) (LM LO T LB : Nat → Int) (cm co : Int) : sI (mkP s m LM LO T LB cm co) 104 0 = sI s 104 0 := rfl
theorem p105 (s : pS) (m : Nat) (LM LO T LB : Nat → Int) (cm co : Int) : sI (mkP s m LM LO T LB cm co) 105 0 = cm := rfl
theorem p106 (s : pS) (m : Nat) (LM LO T LB : Nat → Int) (cm co : Int) : sI (mkP s m LM LO T LB cm co) 106 0 = co := rfl
theorem p107 (s : pS) (m : Nat) (LM LO T LB : Nat → Int) (cm co : Int) : sA (mkP s m LM LO T LB cm co) 107 0 = T := rfl
theorem p108 (s : pS) (m : Nat) (LM LO T LB : Nat → Int) (cm co : Int) : sA (mkP s m LM LO T LB cm co) 108 0 = LB := rfl
theorem pA4 (s : pS) (m : Nat) (LM LO T LB : Nat → Int) (cm co : Int) (i : Nat) : sA (mkP s m LM LO T LB cm co) 4 i = sA s 4 i := rfl
theorem pA5 (s : pS) (m : Nat) (LM LO T LB : Nat → Int) (cm co : Int) (i : Nat) : sA (mkP s m LM LO T LB cm co) 5 i = sA s 5 i := rfl
theorem p11o (s : pS) (m : Nat) (LM LO T LB : Nat → Int) (cm co : Int) : sA (mkP s m LM LO T LB cm co) 11 (1 - m) = LO := by
  unfold mkP
  rw [sA_wI, sA_wI, sA_wA, if_neg (by omega), sA_wA, if_neg (by omega), sA_wA, if_pos ⟨rfl, rfl⟩]
theorem p11m (s : pS) (m : Nat) (LM LO T LB : Nat → Int) (cm co : Int) (hm : m < 2) : sA (mkP s m LM LO T LB cm co) 11 m = LM := by
  unfold mkP
  rw [sA_wI, sA_wI, sA_wA, if_neg (by omega), sA_wA, if_neg (by omega), sA_wA, if_neg (by omega), sA_wA, if_pos ⟨rfl, rfl⟩]
theorem up2_comm2 {α : Type} (g : Nat → Nat → α) {f i j : Nat} (v w : α) (h : i ≠ j) : up2 (up2 g f i v) f j w = up2 (up2 g f j w) f i v := by
  funext a b
  unfold up2
  by_cases h1 : a = f ∧ b = j
  · rw [if_pos h1, if_neg (by omega), if_pos h1]
  · rw [if_neg h1]
    by_cases h2 : a = f ∧ b = i
    · rw [if_pos h2, if_pos h2]
    · rw [if_neg h2, if_neg h2, if_neg h1]
theorem wA_comm2 (s : pS) {f i j : Nat} (v w : Nat → Int) (h : i ≠ j) : wA (wA s f i v) f j w = wA (wA s f j w) f i v := by
  unfold wA; rw [up2_comm2 _ _ _ h]
theorem wI_comm (s : pS) {f f' i i' : Nat} (v w : Int) (h : f ≠ f') : wI (wI s f i v) f' i' w = wI (wI s f' i' w) f i v := by
  unfold wI; rw [up2_comm _ _ _ h]
theorem v11m (s : pS) (m : Nat) (LM LO T LB V : Nat → Int) (cm co : Int) (hm : m < 2) : wA (mkP s m LM LO T LB cm co) 11 m V = mkP s m V LO T LB cm co := by
  have h : wA (wA (wA (wA (wA s 11 m LM) 11 (1 - m) LO) 107 0 T) 108 0 LB) 11 m V = wA (wA (wA (wA s 11 m V) 11 (1 - m) LO) 107 0 T) 108 0 LB := by
    rw [wA_comm _ _ _ (by decide : 108 ≠ 11), wA_comm _ _ _ (by decide : 107 ≠ 11), wA_comm2 _ _ _ (by omega : 1 - m ≠ m), wA_wA]
  exact congrArg (fun z => wI (wI z 105 0 cm) 106 0 co) h
theorem v11o (s : pS) (m : Nat) (LM LO T LB V : Nat → Int) (cm co : Int) : wA (mkP s m LM LO T LB cm co) 11 (1 - m) V = mkP s m LM V T LB cm co := by
  have h : wA (wA (wA (wA (wA s 11 m LM) 11 (1 - m) LO) 107 0 T) 108 0 LB) 11 (1 - m) V = wA (wA (wA (wA s 11 m LM) 11 (1 - m) V) 107 0 T) 108 0 LB := by
    rw [wA_comm _ _ _ (by decide : 108 ≠ 11), wA_comm _ _ _ (by decide : 107 ≠ 11), wA_wA]
  exact congrArg (fun z => wI (wI z 105 0 cm) 106 0 co) h
theorem v107 (s : pS) (m : Nat) (LM LO T LB V : Nat → Int) (cm co : Int) : wA (mkP s m LM LO T LB cm co) 107 0 V = mkP s m LM LO V LB cm co := by
  have h : wA (wA (wA (wA (wA s 11 m LM) 11 (1 - m) LO) 107 0 T) 108 0 LB) 107 0 V = wA (wA (wA (wA s 11 m LM) 11 (1 - m) LO) 107 0 V) 108 0 LB := by
    rw [wA_comm _ _ _ (by decide : 108 ≠ 107), wA_wA]
  exact congrArg (fun z => wI (wI z 105 0 cm) 106 0 co) h
theorem v108 (s : pS) (m : Nat) (LM LO T LB V : Nat → Int) (cm co : Int) : wA (mkP s m LM LO T LB cm co) 108 0 V = mkP s m LM LO T V cm co := by
  have h : wA (wA (wA (wA (wA s 11 m LM) 11 (1 - m) LO) 107 0 T) 108 0 LB) 108 0 V = wA (wA (wA (wA s 11 m LM) 11 (1 - m) LO) 107 0 T) 108 0 V := wA_wA _ _ _ _ _
  exact congrArg (fun z => wI (wI z 105 0 cm) 106 0 co) h
theorem v105 (s : pS) (m : Nat) (LM LO T LB : Nat → Int) (cm co v : Int) : wI (mkP s m LM LO T LB cm co) 105 0 v = mkP s m LM LO T LB v co := by
  unfold mkP
  rw [wI_comm _ _ _ (by decide : 106 ≠ 105), wI_wI]
theorem v106 (s : pS) (m : Nat) (LM LO T LB : Nat → Int) (cm co v : Int) : wI (mkP s m LM LO T LB cm co) 106 0 v = mkP s m LM LO T LB cm v := by
  unfold mkP
  rw [wI_wI]
/-- what is known of the items: starts and spans on the main axis and on the other, the other's count -/
def itm (n : Nat) (cnt : Int) (sm so : Nat → Int) (hm wo : Nat → Nat) : Prop := n ≤ 10 ∧ 1 ≤ cnt ∧ cnt ≤ 12 ∧ ∀ j, j < n → 0 ≤ sm j ∧ 0 ≤ so j ∧ 1 ≤ hm j ∧ hm j ≤ 4 ∧ 1 ≤ wo j ∧ wo j ≤ 4 ∧ sm j + hm j ≤ 13 ∧ (so j ≠ 0 → so j + wo j ≤ cnt + 1) ∧ (wo j : Int) ≤ cnt
def cpl (s : pS) (m n : Nat) (cnt pk : Int) (sm so : Nat → Int) (hm wo : Nat → Nat) : Prop := m < 2 ∧ sI s 100 0 = (m : Int) ∧ sI s 101 0 = ((1 - m : Nat) : Int) ∧ sI s 102 0 = (n : Int) ∧ sI s 103 0 = pk ∧ sI s 104 0 = cnt ∧ itm n cnt sm so hm wo ∧ ∀ j, j < n → sA s 4 m j = sm j ∧ sA s 4 (1 - m) j = so j ∧ sA s 5 m j = (hm j : Int) ∧ sA s 5 (1 - m) j = (wo j : Int)
section
variable {s : pS} {m n : Nat} {cnt pk : Int} {sm so : Nat → Int} {hm wo : Nat → Nat}
theorem k1_cellOf (r c : Int) (S : pS) (h1 : 1 ≤ r ∧ r ≤ 12) (h2 : 1 ≤ c ∧ c ≤ 12) : f_X1_cellOf r c S = some ((r - 1) * 12 + c - 1, S) := by
  refine of_ok ?_
  unfold f_X1_cellOf
  exact ok_ck (inR_of (by omega)) (ok_ck (inR_of (by omega)) (ok_ck (inR_of (by omega)) (ok_ck (inR_of (by omega)) (ok_some rfl))))
theorem k1_isOpen (hV : cpl s m n cnt pk sm so hm wo) (LM LO T LB : Nat → Int) (cm co : Int) (j : Nat) (r c : Int) (hj : j < n) (hr : 1 ≤ r ∧ r ≤ 13) (hc : 1 ≤ c ∧ c ≤ 13) :
    f_X1_isOpen j r c (mkP s m LM LO T LB cm co) = some (if opn T cnt (hm j) (wo j) r c then 1 else 0, mkP s m LM LO T LB cm co) := by
  obtain ⟨hm2, e100, e101, e102, e103, e104, ⟨hn, hc1, hc2, hI⟩, hA⟩ := hV
  obtain ⟨i1, i2, i3, i4, i5, i6, i7, i8, i9⟩ := hI j hj
  obtain ⟨a1, a2, a3, a4⟩ := hA j hj
  refine of_ok ?_
  unfold f_X1_isOpen f_X1_isOpen_44
  simp only [p107, p108, p105, p106, pI100, pI101, pI102, pI103, pI104, pA4, pA5, e100, e101, e104, nnat, a3, a4]
  unfold opn
  refine ok_ck (by omega) (ok_ck (by omega) (ok_ck (inR_of (by omega)) (ok_bs (ok_ck (by omega) (ok_ck (by omega) (ok_ck (inR_of (by omega)) (ok_bs (ok_if (fun q => ?_) (fun q => ok_ck (inR_of (by omega)) (ok_if (fun q2 => ?_) (fun q2 => ?_))))))))))) 
  · rw [decide_eq_false (by omega), Bool.false_and]
    exact ok_some rfl
  · rw [decide_eq_true (by omega : r + (hm j : Int) ≤ 13), decide_eq_true q2, Bool.true_and, Bool.true_and]
    generalize hS : mkP s m LM LO T LB cm co = S
    have e107 : sA S 107 0 = T := by rw [← hS]; rfl
    refine itJ (fun r' k (_ : Unit) => f_X1_isOpen_49 (fun s10 => some (1, s10)) r' c (r + (hm j : Int)) (c + (wo j : Int)) (r + (k : Int)) S) (fun k _ => opR T r c (wo j) k = true) (hm j) _ (fun r' k u hk hJ ih => ?_) (fun r' u hJ => ?_) 400 0 () (by omega) (by omega) rfl |> fun h => by rw [show r + ((0 : Nat) : Int) = r by omega] at h; exact h
    · rw [f_X1_isOpen_49]
      refine ok_neg (by omega) ?_
      refine itJ (fun r2 k2 (_ : Unit) => f_X1_isOpen_59 (fun x3 x4 x5 x6 s1 => ck (inR (x6 + 1)) (f_X1_isOpen_49 (fun s10 => some (1, s10)) r' x3 x4 x5 (x6 + 1) s1)) r2 c (r + (hm j : Int)) (c + (wo j : Int)) (r + (k : Int)) (c + (k2 : Int)) S) (fun k2 _ => opC T (r + k) c k2 = true) (wo j) _ (fun r2 k2 u2 hk2 hJ2 ih2 => ?_) (fun r2 u2 hJ2 => ?_) 400 0 () (by omega) (by omega) rfl |> fun h => by rw [show c + ((0 : Nat) : Int) = c by omega] at h; exact h
      · rw [f_X1_isOpen_59]
        refine ok_neg (by omega) (ok_eq (k1_cellOf _ _ S (by omega) (by omega)) ?_)
        dsimp only
        rw [e107]
        refine ok_ck (by omega) (ok_if (fun q3 => ok_ck (inR_of (by omega)) ?_) (fun q3 => ok_some ?_))
        · have := ih2 () (by
            show (opC T (r + k) c k2 && decide (T (cel (r + k) (c + k2)) = 0)) = true
            rw [hJ2, decide_eq_true (show T (cel (r + k) (c + k2)) = 0 from q3)]; rfl)
          rw [show c + ((k2 + 1 : Nat) : Int) = c + (k2 : Int) + 1 by omega] at this
          exact this
        · have f1 : opC T (r + k) c (k2 + 1) = false := by
            show (opC T (r + k) c k2 && decide (T (cel (r + k) (c + k2)) = 0)) = false
            rw [decide_eq_false (show ¬ T (cel (r + k) (c + k2)) = 0 from q3), Bool.and_false]
          have f2 := opC_mono (show k2 + 1 ≤ wo j by omega) f1
          have f3 : opR T r c (wo j) (k + 1) = false := by
            show (opR T r c (wo j) k && opC T (r + k) c (wo j)) = false
            rw [f2, Bool.and_false]
          rw [opR_mono (show k + 1 ≤ hm j by omega) f3]
          rfl
      · rw [f_X1_isOpen_59]
        refine ok_pos (by omega) (ok_ck (inR_of (by omega)) ?_)
        have := ih () (by
          show (opR T r c (wo j) k && opC T (r + k) c (wo j)) = true
          rw [hJ, hJ2]; rfl)
        rw [show r + ((k + 1 : Nat) : Int) = r + (k : Int) + 1 by omega] at this
        exact this
    · rw [f_X1_isOpen_49]
      refine ok_pos (by omega) (ok_some ?_)
      rw [hJ]; rfl
  · rw [decide_eq_false q2, Bool.false_and, Bool.and_false]
    exact ok_some rfl
theorem k1_settle (hV : cpl s m n cnt pk sm so hm wo) (LM LO T LB : Nat → Int) (cm co : Int) (j : Nat) (r c : Int) (hj : j < n) (hr : 1 ≤ r ∧ r + hm j ≤ 13) (hc : 1 ≤ c ∧ c + wo j ≤ 13) :
    f_X1_settle j r c (mkP s m LM LO T LB cm co) = some (mkP s m (pm_up LM j r) (pm_up LO j c) (stR T r c (wo j) (hm j)) LB cm co) := by
  obtain ⟨hm2, e100, e101, e102, e103, e104, ⟨hn, hc1, hc2, hI⟩, hA⟩ := hV
  obtain ⟨i1, i2, i3, i4, i5, i6, i7, i8, i9⟩ := hI j hj
  obtain ⟨a1, a2, a3, a4⟩ := hA j hj
  refine of_ok ?_
  unfold f_X1_settle
  simp only [pI100]
  rw [e100]
  simp only [nnat]
  rw [p11m _ _ _ _ _ _ _ _ hm2]
  refine ok_ck (by omega) (ok_ck (by omega) (ok_bs ?_))
  rw [v11m _ _ _ _ _ _ _ _ _ hm2]
  simp only [pI101]
  rw [e101]
  simp only [nnat, p11o]
  refine ok_ck (by omega) (ok_ck (by omega) (ok_bs ?_))
  rw [v11o]
  refine itS (fun r' k => f_X1_settle_23 (fun s7 => some s7) r' j r c (r + (k : Int)) (mkP s m (pm_up LM j r) (pm_up LO j c) (stR T r c (wo j) k) LB cm co)) (hm j) _ (fun r' k hk ih => ?_) (fun r' => ?_) 400 0 (by omega) (by omega) |> fun h => by rw [show r + ((0 : Nat) : Int) = r by omega] at h; exact h
  · rw [f_X1_settle_23]
    simp only [pI100, e100, nnat, pA5, a3]
    refine ok_ck (by omega) (ok_ck (by omega) (ok_ck (inR_of (by omega)) (ok_neg (by omega) ?_)))
    refine itS (fun r2 k2 => f_X1_settle_42 (fun x1 x2 x3 x4 s4 => ck (inR (x4 + 1)) (f_X1_settle_23 (fun s7 => some s7) r' x1 x2 x3 (x4 + 1) s4)) r2 j r c (r + (k : Int)) (c + (k2 : Int)) (mkP s m (pm_up LM j r) (pm_up LO j c) (stC (stR T r c (wo j) k) (r + k) c k2) LB cm co)) (wo j) _ (fun r2 k2 hk2 ih2 => ?_) (fun r2 => ?_) 400 0 (by omega) (by omega) |> fun h => by rw [show c + ((0 : Nat) : Int) = c by omega] at h; exact h
    · rw [f_X1_settle_42]
      simp only [pI101, e101, nnat, pA5, a4]
      refine ok_ck (by omega) (ok_ck (by omega) (ok_ck (inR_of (by omega)) (ok_neg (by omega) (ok_eq (k1_cellOf _ _ _ (by omega) (by omega)) ?_))))
      dsimp only
      rw [p107]
      refine ok_ck (by omega) (ok_bs ?_)
      rw [v107]
      refine ok_ck (inR_of (by omega)) ?_
      rw [show c + (k2 : Int) + 1 = c + ((k2 + 1 : Nat) : Int) by omega]
      exact ih2
    · rw [f_X1_settle_42]
      simp only [pI101, e101, nnat, pA5, a4]
      refine ok_ck (by omega) (ok_ck (by omega) (ok_ck (inR_of (by omega)) (ok_pos (by omega) (ok_ck (inR_of (by omega)) ?_))))
      rw [show r + (k : Int) + 1 = r + ((k + 1 : Nat) : Int) by omega]
      exact ih
  · rw [f_X1_settle_23]
    simp only [pI100, e100, nnat, pA5, a3]
    exact ok_ck (by omega) (ok_ck (by omega) (ok_ck (inR_of (by omega)) (ok_pos (by omega) (ok_some rfl))))
end
