/-! ===== PLACING: the class, cursor and counts (written by wip/whole/gen_plc3.py) ===== -/
section
variable {s : pS} {m n : Nat} {cnt pk : Int} {sm so : Nat → Int} {hm wo : Nat → Nat}
theorem k1_settleAtCursor (hV : cpl s m n cnt pk sm so hm wo) (Q : PT) (LB : Nat → Int) (cm co : Int) (j : Nat) (r c : Int) (hj : j < n) (hr : 1 ≤ r ∧ r + hm j ≤ 13) (hc : 1 ≤ c ∧ c + wo j ≤ 13) : f_X1_settleAtCursor j r c (mkR s m Q LB cm co) = some (mkR s m (stl Q j r c (hm j) (wo j)) LB r c) := by
  refine of_ok ?_
  unfold f_X1_settleAtCursor
  refine ok_eq (k1_settle hV _ _ _ _ _ _ j r c hj hr hc) (ok_bs ?_)
  rw [v105]
  refine ok_bs ?_
  rw [v106]
  exact ok_some rfl
theorem k1_25 (hV : cpl s m n cnt pk sm so hm wo) (Q : PT) (LB : Nat → Int) (cm co : Int) (j : Nat) (c : Int) (hj : j < n) (hc : 1 ≤ c ∧ c ≤ 12) : ∀ (k N : Nat) (x : Int), k < N → k = (13 - x).toNat → 1 ≤ x → x ≤ 13 → ok (f_X1_placeOnOtherLine_25 (fun s1 => some s1) N j c x (mkR s m Q LB cm co)) (fun u => u = mkR s m (bc2 Q cm co j (hm j) (wo j) ((srch (fun r => opn Q.2.2 cnt (hm j) (wo j) r c) x k).map (fun r => (r, c)))).1 LB (bc2 Q cm co j (hm j) (wo j) ((srch (fun r => opn Q.2.2 cnt (hm j) (wo j) r c) x k).map (fun r => (r, c)))).2.1 (bc2 Q cm co j (hm j) (wo j) ((srch (fun r => opn Q.2.2 cnt (hm j) (wo j) r c) x k).map (fun r => (r, c)))).2.2) := by
  have hV' := hV
  obtain ⟨hm2, e100, e101, e102, e103, e104, hIt, hA⟩ := hV'
  obtain ⟨hn, hc1, hc2, hI⟩ := id hIt
  intro k
  induction k with
  | zero =>
    intro N x h1 h2 h3 h4
    obtain ⟨N, rfl⟩ : ∃ q, N = q + 1 := ⟨N - 1, by omega⟩
    rw [f_X1_placeOnOtherLine_25]
    exact ok_pos (by omega) (ok_some rfl)
  | succ k ih =>
    intro N x h1 h2 h3 h4
    obtain ⟨N, rfl⟩ : ∃ q, N = q + 1 := ⟨N - 1, by omega⟩
    rw [f_X1_placeOnOtherLine_25, srch]
    refine ok_neg (by omega) (ok_eq (k1_isOpen hV _ _ _ _ _ _ j x c hj (by omega) (by omega)) ?_)
    dsimp only
    cases ho : opn Q.2.2 cnt (hm j) (wo j) x c with
    | false =>
      refine ok_pos rfl (ok_ck (inR_of (by omega)) ?_)
      exact ih N (x + 1) (by omega) (by omega) (by omega) (by omega)
    | true =>
      have hb := opn_b ho
      exact ok_neg (by decide) (ok_eq (k1_settleAtCursor hV Q LB cm co j x c hj (by omega) (by omega)) (ok_some rfl))
theorem k1_19 (hV : cpl s m n cnt pk sm so hm wo) (Q : PT) (LB : Nat → Int) (cm co : Int) (j : Nat) (r : Int) (hj : j < n) (hr : 1 ≤ r ∧ r ≤ 12) (K : Int → Int → pS → Option pS) (P : pS → Prop) : ∀ (k N : Nat) (x : Int), k < N → k = (cnt + 1 - x).toNat → 1 ≤ x → x ≤ 13 → (∀ c, srch (opn Q.2.2 cnt (hm j) (wo j) r) x k = some c → P (mkR s m (stl Q j r c (hm j) (wo j)) LB r c)) → (srch (opn Q.2.2 cnt (hm j) (wo j) r) x k = none → ok (K j r (mkR s m Q LB cm co)) P) → ok (f_X1_placeAnywhere_19 K N j r x (mkR s m Q LB cm co)) P := by
  have hV' := hV
  obtain ⟨hm2, e100, e101, e102, e103, e104, hIt, hA⟩ := hV'
  obtain ⟨hn, hc1, hc2, hI⟩ := id hIt
  intro k
  induction k with
  | zero =>
    intro N x h1 h2 h3 h4 hs hk
    obtain ⟨N, rfl⟩ : ∃ q, N = q + 1 := ⟨N - 1, by omega⟩
    rw [f_X1_placeAnywhere_19]
    exact ok_pos (by show sI s 104 0 < x; omega) (hk rfl)
  | succ k ih =>
    intro N x h1 h2 h3 h4 hs hk
    obtain ⟨N, rfl⟩ : ∃ q, N = q + 1 := ⟨N - 1, by omega⟩
    rw [f_X1_placeAnywhere_19]
    rw [srch] at hs hk
    refine ok_neg (by show ¬ sI s 104 0 < x; omega) (ok_eq (k1_isOpen hV _ _ _ _ _ _ j r x hj (by omega) (by omega)) ?_)
    dsimp only
    cases ho : opn Q.2.2 cnt (hm j) (wo j) r x with
    | false =>
      rw [ho, if_neg (by decide)] at hs hk
      refine ok_pos rfl (ok_ck (inR_of (by omega)) ?_)
      exact ih N (x + 1) (by omega) (by omega) (by omega) (by omega) hs hk
    | true =>
      have hb := opn_b ho
      rw [ho, if_pos rfl] at hs
      exact ok_neg (by decide) (ok_eq (k1_settleAtCursor hV Q LB cm co j r x hj (by omega) (by omega)) (ok_some (hs x rfl)))
theorem k1_10 (hV : cpl s m n cnt pk sm so hm wo) (Q : PT) (LB : Nat → Int) (cm co : Int) (j : Nat) (hj : j < n) : ∀ (k N : Nat) (r c : Int), k < N → k = (13 - r).toNat → 1 ≤ r → r ≤ 13 → 1 ≤ c → c ≤ 13 → ok (f_X1_placeAnywhere_10 (fun s3 => some s3) N j c r (mkR s m Q LB cm co)) (fun u => u = mkR s m (bc2 Q cm co j (hm j) (wo j) (sany (opn Q.2.2 cnt (hm j) (wo j)) cnt r c k)).1 LB (bc2 Q cm co j (hm j) (wo j) (sany (opn Q.2.2 cnt (hm j) (wo j)) cnt r c k)).2.1 (bc2 Q cm co j (hm j) (wo j) (sany (opn Q.2.2 cnt (hm j) (wo j)) cnt r c k)).2.2) := by
  have hV' := hV
  obtain ⟨hm2, e100, e101, e102, e103, e104, hIt, hA⟩ := hV'
  obtain ⟨hn, hc1, hc2, hI⟩ := id hIt
  intro k
  induction k with
  | zero =>
    intro N r c h1 h2 h3 h4 h5 h6
    obtain ⟨N, rfl⟩ : ∃ q, N = q + 1 := ⟨N - 1, by omega⟩
    rw [f_X1_placeAnywhere_10]
    exact ok_pos (by omega) (ok_some rfl)
  | succ k ih =>
    intro N r c h1 h2 h3 h4 h5 h6
    obtain ⟨N, rfl⟩ : ∃ q, N = q + 1 := ⟨N - 1, by omega⟩
    rw [f_X1_placeAnywhere_10, sany]
    refine ok_neg (by omega) (k1_19 hV Q LB cm co j r hj (by omega) _ _ _ 400 c (by omega) rfl h5 h6 (fun x hx => ?_) (fun hx => ok_ck (inR_of (by omega)) ?_))
    · rw [hx]
      rfl
    · rw [hx]
      exact ih N (r + 1) 1 (by omega) (by omega) (by omega) (by omega) (by omega) (by omega)
theorem k1_placeByCursor (hV : cpl s m n cnt pk sm so hm wo) (Q : PT) (LB : Nat → Int) (cm co : Int) (hQ : pin n cnt hm wo Q) (hC : 1 ≤ cm ∧ cm ≤ 12 ∧ 1 ≤ co ∧ co ≤ cnt) : f_X1_placeByCursor (mkR s m Q LB cm co) = some (mkR s m (bcP sm so hm wo cnt pk (Q, cm, co) n).1 LB (bcP sm so hm wo cnt pk (Q, cm, co) n).2.1 (bcP sm so hm wo cnt pk (Q, cm, co) n).2.2) := by
  have hV' := hV
  obtain ⟨hm2, e100, e101, e102, e103, e104, hIt, hA⟩ := hV'
  obtain ⟨hn, hc1, hc2, hI⟩ := id hIt
  refine of_ok ?_
  unfold f_X1_placeByCursor
  refine itS (fun r k => f_X1_placeByCursor_2 (fun s1 => some s1) r (k : Int) (mkR s m (bcP sm so hm wo cnt pk (Q, cm, co) k).1 LB (bcP sm so hm wo cnt pk (Q, cm, co) k).2.1 (bcP sm so hm wo cnt pk (Q, cm, co) k).2.2)) n _ (fun r k hk ih => ?_) (fun r => ?_) 400 0 (by omega) (by omega)
  · obtain ⟨i1, i2, i3, i4, i5, i6, i7, i8, i9⟩ := hI k hk
    obtain ⟨a1, a2, a3, a4⟩ := hA k hk
    have hpk := bcP_pin (R := (Q, cm, co)) (pk := pk) hIt hQ hC (k := k) (by omega)
    rw [f_X1_placeByCursor_2]
    unfold f_X1_placeByCursor_76
    rw [bcP] at ih
    generalize hF : (fun x => x = mkR s m (bcP sm so hm wo cnt pk (Q, cm, co) n).1 LB (bcP sm so hm wo cnt pk (Q, cm, co) n).2.1 (bcP sm so hm wo cnt pk (Q, cm, co) n).2.2) = F at *
    generalize bcP sm so hm wo cnt pk (Q, cm, co) k = R at *
    obtain ⟨hp1, hp2⟩ := hpk
    by_cases hs : sm k = 0
    · rw [if_pos hs] at ih
      unfold bc1 at ih
      have e1 : 1 ≤ (if pk = 0 then R.2.1 else 1) ∧ (if pk = 0 then R.2.1 else 1) ≤ 12 := by split <;> omega
      have e2 : 1 ≤ (if pk = 0 then R.2.2 else 1) ∧ (if pk = 0 then R.2.2 else 1) ≤ cnt := by split <;> omega
      have fin : ok (f_X1_placeByCursor_42 (f_X1_placeByCursor_2 (fun s1 => some s1) r) (fun s1 => some s1) (k : Int) (mkR s m R.1 LB (if pk = 0 then R.2.1 else 1) (if pk = 0 then R.2.2 else 1))) F := by
        generalize (if pk = 0 then R.2.1 else 1) = a at *
        generalize (if pk = 0 then R.2.2 else 1) = b at *
        unfold f_X1_placeByCursor_42 f_X1_placeByCursor_76
        have r1 : sI (mkR s m R.1 LB a b) 101 0 = ((1 - m : Nat) : Int) := e101
        have r2 : sA (mkR s m R.1 LB a b) 4 = sA s 4 := rfl
        simp only [r1, nnat, r2, a2]
        refine ok_ck (by omega) (ok_ck (by omega) (ok_if (fun q => ?_) (fun q => ok_ck (by omega) (ok_ck (by omega) ?_))))
        · rw [if_neg (fun h => h q)] at ih
          unfold f_X1_placeAnywhere
          refine ok_seq (k1_10 hV R.1 LB a b k hk _ 400 a b (by omega) rfl (by omega) (by omega) (by omega) (by omega)) (fun u hu => ?_)
          rw [hu]
          exact ok_ck (inR_of (by omega)) ih
        · rw [if_pos q] at ih
          have h8 := i8 q
          have go : ∀ x : Int, x = (if so k < b then a + 1 else a) → ok (f_X1_placeOnOtherLine_21 (k : Int) (so k) x (mkR s m R.1 LB a b)) (fun q6 => ok (ck (inR ((k : Int) + 1)) (f_X1_placeByCursor_2 (fun s1 => some s1) r ((k : Int) + 1) q6)) F) := by
            intro x hx
            unfold f_X1_placeOnOtherLine_21
            have hx1 : 1 ≤ x ∧ x ≤ 13 := by rw [hx]; split <;> omega
            refine ok_mono (k1_25 hV R.1 LB a b k (so k) hk (by omega) _ 400 x (by omega) rfl hx1.1 hx1.2) (fun u hu => ?_)
            rw [hu]
            rw [← hx] at ih
            exact ok_ck (inR_of (by omega)) ih
          refine ok_bind ?_
          unfold f_X1_placeOnOtherLine
          refine ok_if (fun q3 => go _ ?_) (fun q3 => ok_ck (inR_of ?_) (go _ ?_))
          · rw [if_neg (show ¬ so k < b from Int.not_lt.mpr q3)]; rfl
          · show -2147483648 ≤ a + 1 ∧ a + 1 ≤ 2147483647; omega
          · rw [if_pos (show so k < b from Int.not_le.mp q3)]; rfl
      have r0 : sI (mkR s m R.1 LB R.2.1 R.2.2) 102 0 = (n : Int) := e102
      have r1 : sI (mkR s m R.1 LB R.2.1 R.2.2) 100 0 = (m : Int) := e100
      have r3 : sI (mkR s m R.1 LB R.2.1 R.2.2) 103 0 = pk := e103
      have r2 : sA (mkR s m R.1 LB R.2.1 R.2.2) 4 = sA s 4 := rfl
      simp only [r0, r1, r2, r3, nnat, a1]
      refine ok_neg (by omega) (ok_ck (by omega) (ok_ck (by omega) (ok_pos hs (ok_if (fun q => ?_) (fun q => ok_bs (ok_bs ?_))))))
      · rw [if_pos q, if_pos q] at fin
        exact fin
      · rw [if_neg q, if_neg q] at fin
        have e5 : wI (wI (mkR s m R.1 LB R.2.1 R.2.2) 105 0 1) 106 0 1 = mkR s m R.1 LB 1 1 := by
          unfold mkR
          rw [v105, v106]
        rw [e5]
        exact fin
    · rw [if_neg hs] at ih
      have r0 : sI (mkR s m R.1 LB R.2.1 R.2.2) 102 0 = (n : Int) := e102
      have r1 : sI (mkR s m R.1 LB R.2.1 R.2.2) 100 0 = (m : Int) := e100
      have r2 : sA (mkR s m R.1 LB R.2.1 R.2.2) 4 = sA s 4 := rfl
      simp only [r0, r1, r2, nnat, a1]
      exact ok_neg (by omega) (ok_ck (by omega) (ok_ck (by omega) (ok_neg hs (ok_ck (inR_of (by omega)) ih))))
  · rw [f_X1_placeByCursor_2]
    exact ok_pos (by show sI s 102 0 ≤ _; omega) (ok_some rfl)
end
/-! counts -/
def cao (tc : Int) (so : Nat → Int) (wo : Nat → Nat) : Nat → Int
  | 0 => if 1 < tc then tc else 1
  | k + 1 => if cao tc so wo k < (if 1 < so k then so k else 1) + wo k - 1 then (if 1 < so k then so k else 1) + wo k - 1 else cao tc so wo k
theorem cao_q {tc : Int} {so : Nat → Int} {wo : Nat → Nat} (ht : tc ≤ 12) {n : Nat} (h : ∀ j, j < n → 0 ≤ so j ∧ so j ≤ 12 ∧ 1 ≤ wo j ∧ wo j ≤ 4 ∧ so j + wo j ≤ 13) : ∀ {k : Nat}, k ≤ n → 1 ≤ cao tc so wo k ∧ cao tc so wo k ≤ 12 ∧ tc ≤ cao tc so wo k ∧ ∀ j, j < k → (wo j : Int) ≤ cao tc so wo k ∧ (so j ≠ 0 → so j + wo j ≤ cao tc so wo k + 1)
  | 0, _ => by
    show 1 ≤ (if 1 < tc then tc else 1) ∧ (if 1 < tc then tc else 1) ≤ 12 ∧ tc ≤ (if 1 < tc then tc else 1) ∧ _
    refine ⟨?_, ?_, ?_, fun j hj => by omega⟩ <;> (split <;> omega)
  | k + 1, hk => by
    obtain ⟨h1, h2, h3, h4⟩ := cao_q ht h (k := k) (by omega)
    obtain ⟨q1, q2, q3, q4, q5⟩ := h k (by omega)
    have e : cao tc so wo (k + 1) = if cao tc so wo k < (if 1 < so k then so k else 1) + wo k - 1 then (if 1 < so k then so k else 1) + wo k - 1 else cao tc so wo k := rfl
    have g1 : cao tc so wo k ≤ cao tc so wo (k + 1) := by rw [e]; split <;> omega
    have g2 : (if 1 < so k then so k else 1) + wo k - 1 ≤ cao tc so wo (k + 1) := by rw [e]; split <;> omega
    have g3 : cao tc so wo (k + 1) ≤ 12 := by
      rw [e]
      (repeat' split) <;> omega
    refine ⟨by omega, g3, by omega, fun j hj => ?_⟩
    by_cases hjk : j = k
    · subst hjk
      refine ⟨?_, fun hs => ?_⟩
      · split at g2 <;> omega
      · split at g2 <;> omega
    · obtain ⟨r1, r2⟩ := h4 j (by omega)
      exact ⟨by omega, fun hs => by have := r2 hs; omega⟩
theorem k0_countAsOther (i n : Nat) (s : pS) (so : Nat → Int) (wo : Nat → Nat) (tc : Int) (hn : n ≤ 10) (ht : sI s 304 i = tc) (ht2 : tc ≤ 12) (h : ∀ j, j < n → sA s 4 i j = so j ∧ sA s 5 i j = (wo j : Int)) (hb : ∀ j, j < n → 0 ≤ so j ∧ so j ≤ 12 ∧ 1 ≤ wo j ∧ wo j ≤ 4 ∧ so j + wo j ≤ 13) : f_X0_countAsOther i n s = some (cao tc so wo n, s) := by
  refine of_ok ?_
  unfold f_X0_countAsOther
  rw [ht]
  refine ok_bs ?_
  refine itS (fun r k => f_X0_countAsOther_14 i (fun x2 s2 => some (x2, s2)) r n (cao tc so wo k) (k : Int) s) n _ (fun r k hk ih => ?_) (fun r => ?_) 400 0 (by omega) (by omega)
  · rw [f_X0_countAsOther_14]
    obtain ⟨h1, h2⟩ := h k hk
    obtain ⟨q1, q2, q3, q4, q5⟩ := hb k hk
    simp only [nnat, h1, h2]
    refine ok_neg (by omega) (ok_ck (by omega) (ok_bs (ok_ck (by omega) (ok_ck (inR_of ?_) (ok_ck (inR_of ?_) (ok_bs (ok_ck (inR_of (by omega)) ih)))))))
    · split <;> omega
    · split <;> omega
  · rw [f_X0_countAsOther_14]
    exact ok_pos (Int.le_refl _) (ok_some rfl)
def rch (lm : Nat → Int) (hm : Nat → Nat) : Nat → Int
  | 0 => 0
  | k + 1 => if lm k = 0 then rch lm hm k else if rch lm hm k < lm k + hm k - 1 then lm k + hm k - 1 else rch lm hm k
theorem rch_q {lm : Nat → Int} {hm : Nat → Nat} {M : Int} (hM : 0 ≤ M) {n : Nat} (h : ∀ j, j < n → lm j ≠ 0 → lm j + hm j ≤ M + 1) : ∀ {k : Nat}, k ≤ n → 0 ≤ rch lm hm k ∧ rch lm hm k ≤ M ∧ ∀ j, j < k → lm j ≠ 0 → lm j + hm j ≤ rch lm hm k + 1
  | 0, _ => ⟨Int.le_refl _, hM, fun j hj => by omega⟩
  | k + 1, hk => by
    obtain ⟨h1, h2, h3⟩ := rch_q hM h (k := k) (by omega)
    have e : rch lm hm (k + 1) = if lm k = 0 then rch lm hm k else if rch lm hm k < lm k + hm k - 1 then lm k + hm k - 1 else rch lm hm k := rfl
    have g1 : rch lm hm k ≤ rch lm hm (k + 1) := by
      rw [e]; split
      · omega
      · split <;> omega
    have g2 : lm k ≠ 0 → lm k + hm k - 1 ≤ rch lm hm (k + 1) := by
      intro hk0
      rw [e, if_neg hk0]; split <;> omega
    have g3 : rch lm hm (k + 1) ≤ M := by
      rw [e]; split
      · exact h2
      · rename_i hk0
        have := h k (by omega) hk0
        split <;> omega
    refine ⟨by omega, g3, fun j hj hj0 => ?_⟩
    by_cases hjk : j = k
    · subst hjk
      have := g2 hj0
      omega
    · have := h3 j (by omega) hj0
      omega
theorem k0_reach (i n : Nat) (s : pS) (lm : Nat → Int) (hm : Nat → Nat) (hn : n ≤ 10) (h : ∀ j, j < n → sA s 11 i j = lm j ∧ sA s 5 i j = (hm j : Int)) (hb : ∀ j, j < n → 0 ≤ lm j ∧ lm j + hm j ≤ 13) : f_X0_reach i n s = some (rch lm hm n, s) := by
  refine of_ok ?_
  unfold f_X0_reach
  refine itS (fun r k => f_X0_reach_4 i (fun x2 s1 => some (x2, s1)) r n (rch lm hm k) (k : Int) s) n _ (fun r k hk ih => ?_) (fun r => ?_) 400 0 (by omega) (by omega)
  · rw [f_X0_reach_4]
    unfold f_X0_reach_38
    obtain ⟨h1, h2⟩ := h k hk
    obtain ⟨q1, q2⟩ := hb k hk
    simp only [nnat, h1, h2]
    rw [rch] at ih
    refine ok_neg (by omega) (ok_ck (by omega) (ok_if (fun q => ok_ck (inR_of (by omega)) ?_) (fun q => ok_ck (by omega) (ok_ck (by omega) (ok_ck (inR_of (by omega)) (ok_ck (inR_of (by omega)) (ok_bs (ok_ck (inR_of (by omega)) ?_))))))))
    · rw [if_pos q] at ih
      exact ih
    · rw [if_neg q] at ih
      exact ih
  · rw [f_X0_reach_4]
    exact ok_pos (Int.le_refl _) (ok_some rfl)
def cpd (lm : Nat → Int) : Nat → Int
  | 0 => 0
  | k + 1 => if lm k = 0 then cpd lm k else cpd lm k + 1
theorem cpd_q (lm : Nat → Int) : ∀ k, 0 ≤ cpd lm k ∧ cpd lm k ≤ k
  | 0 => ⟨Int.le_refl _, Int.le_refl _⟩
  | k + 1 => by
    have := cpd_q lm k
    have e : cpd lm (k + 1) = if lm k = 0 then cpd lm k else cpd lm k + 1 := rfl
    rw [e]
    split <;> omega
theorem k1_countPlaced (m n : Nat) (s : pS) (lm : Nat → Int) (hn : n ≤ 10) (hm : m < 2) (h1 : sI s 100 0 = (m : Int)) (h2 : sI s 102 0 = (n : Int)) (h : ∀ j, j < n → sA s 11 m j = lm j) : f_X1_countPlaced s = some (cpd lm n, s) := by
  refine of_ok ?_
  unfold f_X1_countPlaced
  refine itS (fun r k => f_X1_countPlaced_4 (fun x1 s1 => some (x1, s1)) r (cpd lm k) (k : Int) s) n _ (fun r k hk ih => ?_) (fun r => ?_) 400 0 (by omega) (by omega)
  · rw [f_X1_countPlaced_4]
    unfold f_X1_countPlaced_27
    have h3 := h k hk
    have hq := cpd_q lm k
    simp only [h1, h2, nnat, h3]
    rw [cpd] at ih
    refine ok_neg (by omega) (ok_ck (by omega) (ok_ck (by omega) (ok_if (fun q => ok_ck (inR_of (by omega)) ?_) (fun q => ok_ck (inR_of (by omega)) (ok_ck (inR_of (by omega)) ?_)))))
    · rw [if_pos q] at ih
      exact ih
    · rw [if_neg q] at ih
      exact ih
  · rw [f_X1_countPlaced_4]
    exact ok_pos (by omega) (ok_some rfl)
/-! clearing -/
theorem mkP_self (s : pS) (m : Nat) : mkP s m (sA s 11 m) (sA s 11 (1 - m)) (sA s 107 0) (sA s 108 0) (sI s 105 0) (sI s 106 0) = s := by
  unfold mkP
  rw [wA_self, wA_self, wA_self, wA_self, wI_self, wI_self]
theorem k1_clearPlaces (m : Nat) (s : pS) (hm : m < 2) (h1 : sI s 100 0 = (m : Int)) (h2 : sI s 101 0 = ((1 - m : Nat) : Int)) : f_X1_clearPlaces s = some (mkP s m (flo 0 10 (fun _ => 0) (sA s 11 m)) (flo 0 10 (fun _ => 0) (sA s 11 (1 - m))) (flo 0 144 (fun _ => 0) (sA s 107 0)) (flo 0 13 (fun _ => 1) (sA s 108 0)) 1 1) := by
  have e0 := mkP_self s m
  generalize hLM : sA s 11 m = LM at *
  generalize hLO : sA s 11 (1 - m) = LO at *
  generalize hT : sA s 107 0 = T at *
  generalize hLB : sA s 108 0 = LB at *
  generalize hcm : sI s 105 0 = cm at *
  generalize hco : sI s 106 0 = co at *
  have key : ok (f_X1_clearPlaces (mkP s m LM LO T LB cm co)) (fun u => u = mkP s m (flo 0 10 (fun _ => 0) LM) (flo 0 10 (fun _ => 0) LO) (flo 0 144 (fun _ => 0) T) (flo 0 13 (fun _ => 1) LB) 1 1) := by
    unfold f_X1_clearPlaces
    have h := itS (fun r k => f_X1_clearPlaces_2 (fun s1 => (f_fillI_108 1 s1).bind (fun q2 => ck (0 ≤ (sI q2 100 0) ∧ (sI q2 100 0) < 2) ((f_fillI_11 ((sI q2 100 0).toNat) 0 q2).bind (fun q4 => ck (0 ≤ (sI q4 101 0) ∧ (sI q4 101 0) < 2) ((f_fillI_11 ((sI q4 101 0).toNat) 0 q4).bind (fun q6 => bs (wI q6 105 0 1) (fun s7 => bs (wI s7 106 0 1) (fun s8 => some s8)))))))) r (k : Int) (mkP s m LM LO (flo 0 k (fun _ => 0) T) LB cm co)) 144 (fun u => u = mkP s m (flo 0 10 (fun _ => 0) LM) (flo 0 10 (fun _ => 0) LO) (flo 0 144 (fun _ => 0) T) (flo 0 13 (fun _ => 1) LB) 1 1) (fun r k hk ih => ?_) (fun r => ?_) 400 0 (by omega) (by omega)
    · rw [flo_0] at h
      exact h
    · rw [f_X1_clearPlaces_2]
      simp only [p107, v107, nnat]
      refine ok_neg (by omega) (ok_ck (by omega) (ok_bs (ok_ck (inR_of (by omega)) ?_)))
      rw [flo_up0 rfl]
      exact ih
    · rw [f_X1_clearPlaces_2]
      refine ok_pos (by omega) ?_
      generalize flo 0 144 (fun _ => (0 : Int)) T = T'
      have f108 : f_fillI_108 1 (mkP s m LM LO T' LB cm co) = some (mkP s m LM LO T' (flo 0 13 (fun _ => 1) LB) cm co) := by
        refine of_ok ?_
        unfold f_fillI_108
        have h := itS (fun r k => f_fillI_108_5 (fun s1 => some s1) r 1 (k : Int) 13 (mkP s m LM LO T' (flo 0 k (fun _ => 1) LB) cm co)) 13 (fun u => u = mkP s m LM LO T' (flo 0 13 (fun _ => 1) LB) cm co) (fun r k hk ih => ?_) (fun r => ?_) 400 0 (by omega) (by omega)
        · rw [flo_0] at h
          exact h
        · rw [f_fillI_108_5]
          simp only [p108, v108, nnat]
          refine ok_neg (by omega) (ok_ck (by omega) (ok_bs (ok_ck (inR_of (by omega)) ?_)))
          rw [flo_up0 rfl]
          exact ih
        · rw [f_fillI_108_5]
          exact ok_pos (by omega) (ok_some rfl)
      refine ok_eq f108 ?_
      generalize flo 0 13 (fun _ => (1 : Int)) LB = LB'
      have fm : f_fillI_11 m 0 (mkP s m LM LO T' LB' cm co) = some (mkP s m (flo 0 10 (fun _ => 0) LM) LO T' LB' cm co) := by
        refine of_ok ?_
        unfold f_fillI_11
        have h := itS (fun r k => f_fillI_11_5 m (fun s1 => some s1) r 0 (k : Int) 10 (mkP s m (flo 0 k (fun _ => 0) LM) LO T' LB' cm co)) 10 (fun u => u = mkP s m (flo 0 10 (fun _ => 0) LM) LO T' LB' cm co) (fun r k hk ih => ?_) (fun r => ?_) 400 0 (by omega) (by omega)
        · rw [flo_0] at h
          exact h
        · rw [f_fillI_11_5]
          simp only [p11m _ _ _ _ _ _ _ _ hm, v11m _ _ _ _ _ _ _ _ _ hm, nnat]
          refine ok_neg (by omega) (ok_ck (by omega) (ok_bs (ok_ck (inR_of (by omega)) ?_)))
          rw [flo_up0 rfl]
          exact ih
        · rw [f_fillI_11_5]
          exact ok_pos (by omega) (ok_some rfl)
      have fo : ∀ LM', f_fillI_11 (1 - m) 0 (mkP s m LM' LO T' LB' cm co) = some (mkP s m LM' (flo 0 10 (fun _ => 0) LO) T' LB' cm co) := by
        intro LM'
        refine of_ok ?_
        unfold f_fillI_11
        have h := itS (fun r k => f_fillI_11_5 (1 - m) (fun s1 => some s1) r 0 (k : Int) 10 (mkP s m LM' (flo 0 k (fun _ => 0) LO) T' LB' cm co)) 10 (fun u => u = mkP s m LM' (flo 0 10 (fun _ => 0) LO) T' LB' cm co) (fun r k hk ih => ?_) (fun r => ?_) 400 0 (by omega) (by omega)
        · rw [flo_0] at h
          exact h
        · rw [f_fillI_11_5]
          simp only [p11o, v11o, nnat]
          refine ok_neg (by omega) (ok_ck (by omega) (ok_bs (ok_ck (inR_of (by omega)) ?_)))
          rw [flo_up0 rfl]
          exact ih
        · rw [f_fillI_11_5]
          exact ok_pos (by omega) (ok_some rfl)
      simp only [pI100, h1, nnat]
      refine ok_ck (by omega) (ok_eq fm ?_)
      simp only [pI101, h2, nnat]
      refine ok_ck (by omega) (ok_eq (fo _) (ok_bs ?_))
      rw [v105]
      refine ok_bs ?_
      rw [v106]
      exact ok_some rfl
  rw [e0] at key
  exact of_ok key
