/-! ===== PLACING: the reference, all items (written by wip/whole/gen_plm2.py) ===== -/
def scn (sm so : Nat → Int) (wo : Nat → Nat) (pk : Int) (Q : PT) (v : Int) : Nat → Int
  | 0 => 1
  | k + 1 => if sm k = v ∧ so k = 0 ∧ Q.1 k ≠ 0 ∧ pk = 0 then Q.2.1 k + wo k else scn sm so wo pk Q v k
theorem scn_congr {sm so : Nat → Int} {wo : Nat → Nat} {pk : Int} {Q Q' : PT} {v : Int} : ∀ {k : Nat}, (∀ j, j < k → Q.1 j = Q'.1 j ∧ Q.2.1 j = Q'.2.1 j) → scn sm so wo pk Q v k = scn sm so wo pk Q' v k
  | 0, _ => rfl
  | k + 1, h => by
    rw [scn, scn, scn_congr (k := k) (fun j hj => h j (by omega)), (h k (by omega)).1, (h k (by omega)).2]
theorem scn_pk {sm so : Nat → Int} {wo : Nat → Nat} {pk : Int} {Q : PT} {v : Int} (hp : pk ≠ 0) : ∀ {k : Nat}, scn sm so wo pk Q v k = 1
  | 0 => rfl
  | k + 1 => by
    rw [scn, if_neg (fun h => hp h.2.2.2)]
    exact scn_pk hp
theorem tdP_0 {sm so : Nat → Int} {hm wo : Nat → Nat} {Q : PT} {j : Nat} (h : so j = 0) : ∀ {k : Nat}, (tdP sm so hm wo Q k).1 j = Q.1 j
  | 0 => rfl
  | k + 1 => by
    have ih := tdP_0 (sm := sm) (hm := hm) (wo := wo) (Q := Q) h (k := k)
    rw [tdP]
    split
    · rename_i hq
      show pm_up (tdP sm so hm wo Q k).1 k (sm k) j = Q.1 j
      rw [up_ne _ _ (fun hjk => hq.2 (by rw [← hjk]; exact h))]
      exact ih
    · exact ih
theorem msP_far {sm so : Nat → Int} {hm wo : Nat → Nat} {cnt pk : Int} {R : PT × (Nat → Int)} {j : Nat} : ∀ {k : Nat}, k ≤ j → (msP sm so hm wo cnt pk R k).1.1 j = R.1.1 j
  | 0, _ => rfl
  | k + 1, hk => by
    have ih := msP_far (sm := sm) (so := so) (hm := hm) (wo := wo) (cnt := cnt) (pk := pk) (R := R) (j := j) (k := k) (by omega)
    rw [msP]
    split
    · unfold ms1
      generalize srch _ _ _ = x
      cases x with
      | none => exact ih
      | some c =>
        show pm_up (msP sm so hm wo cnt pk R k).1.1 k (sm k) j = R.1.1 j
        rw [up_ne _ _ (by omega)]
        exact ih
    · exact ih
theorem msP_scn {n : Nat} {sm so : Nat → Int} {hm wo : Nat → Nat} {cnt pk : Int} {Q : PT} {LB : Nat → Int} (hpk : pk = 0) (hL : ∀ v : Nat, v < 13 → LB v = 1) (h0 : ∀ j, j < n → so j = 0 → Q.1 j = 0) (hs : ∀ j, j < n → 0 ≤ sm j ∧ sm j ≤ 12) : ∀ {k : Nat}, k ≤ n → ∀ v : Int, 1 ≤ v → v ≤ 12 → (msP sm so hm wo cnt pk (Q, LB) k).2 v.toNat = scn sm so wo pk (msP sm so hm wo cnt pk (Q, LB) k).1 v k
  | 0, _, v, h1, h2 => hL _ (by omega)
  | k + 1, hk, v, h1, h2 => by
    have ih := msP_scn (hm := hm) (wo := wo) (cnt := cnt) hpk hL h0 hs (k := k) (by omega) v h1 h2
    have far := msP_far (sm := sm) (so := so) (hm := hm) (wo := wo) (cnt := cnt) (pk := pk) (R := (Q, LB)) (j := k) (k := k) (Nat.le_refl _)
    rw [msP]
    split
    · rename_i hq
      unfold ms1
      generalize srch _ _ _ = x
      generalize msP sm so hm wo cnt pk (Q, LB) k = R at *
      cases x with
      | none =>
        show R.2 v.toNat = scn sm so wo pk R.1 v (k + 1)
        rw [scn, if_neg (fun h => h.2.2.1 (by rw [far]; exact h0 k (by omega) hq.2))]
        exact ih
      | some c =>
        show pm_up R.2 (sm k).toNat (c + (wo k : Int)) v.toNat = scn sm so wo pk (stl R.1 k (sm k) c (hm k) (wo k)) v (k + 1)
        have e1 : scn sm so wo pk (stl R.1 k (sm k) c (hm k) (wo k)) v k = scn sm so wo pk R.1 v k := scn_congr (fun j hj => ⟨up_ne _ _ (by omega), up_ne _ _ (by omega)⟩)
        have hsk := hs k (by omega)
        rw [scn, e1]
        by_cases hv : v = sm k
        · rw [hv, up_eq, if_pos ⟨rfl, hq.2, by show pm_up R.1.1 k (sm k) k ≠ 0; rw [up_eq]; exact hq.1, hpk⟩]
          show c + (wo k : Int) = pm_up R.1.2.1 k c k + (wo k : Int)
          rw [up_eq]
        · rw [up_ne _ _ (by omega), if_neg (fun h => hv h.1.symm)]
          exact ih
    · rename_i hq
      rw [scn, if_neg (fun h => hq ⟨by rw [h.1]; omega, h.2.1⟩)]
      exact ih
section
variable {s : pS} {m n : Nat} {cnt pk : Int} {sm so : Nat → Int} {hm wo : Nat → Nat}
theorem k7_scan (hV : mpl s m n cnt pk sm so hm wo) (Q : PT) (cm co : Int) (i : Nat) (hi : i < n) (hQ : pin n cnt hm wo Q) (K : Int → Int → pS → Option pS) (P : pS → Prop) (hK : ok (K i (scn sm so wo pk Q (sm i) i) (mkQ s m Q cm co)) P) : ok (f_X6_inLine_4 K 400 i 1 0 (mkQ s m Q cm co)) P := by
  have hV' := hV
  obtain ⟨hm2, e624, e625, e619, e640, hIt, hA⟩ := hV'
  obtain ⟨hn, hc1, hc2, hI⟩ := id hIt
  refine itS (fun r k => f_X6_inLine_4 K r i (scn sm so wo pk Q (sm i) k) (k : Int) (mkQ s m Q cm co)) i P (fun r k hk ih => ?_) (fun r => ?_) 400 0 (by omega) (by omega)
  · have hkn : k < n := by omega
    obtain ⟨a1, a2, a3, a4⟩ := hA k hkn
    have hq := hQ k hkn
    obtain ⟨i1, i2', i3, i4, i5, i6, i7, i8, i9⟩ := hI k hkn
    have e0 : l2 m Q.1 Q.2.1 (sA s 631 0) (2 * k) = if m = 0 then Q.1 k else Q.2.1 k := by
      by_cases h0 : m = 0
      · rw [if_pos h0]
        have := l2_m (LM := Q.1) (LO := Q.2.1) (old := sA s 631 0) hm2 (show k < 10 by omega)
        rw [show 2 * k + m = 2 * k by omega] at this
        exact this
      · rw [if_neg h0]
        have := l2_o (LM := Q.1) (LO := Q.2.1) (old := sA s 631 0) hm2 (show k < 10 by omega)
        rw [show 2 * k + 1 - m = 2 * k by omega] at this
        exact this
    have e1 : (l2 m Q.1 Q.2.1 (sA s 631 0) (2 * k) ≤ 0) ↔ Q.1 k = 0 := by
      rw [e0]
      split <;> omega
    rw [f_X6_inLine_4]
    unfold f_X6_inLine_45 f_X6_inLine_46 f_X6_inLine_92
    rw [scn] at ih
    refine ok_neg (by omega) (ok_eq (k7_mainStart hV Q cm co k hkn) (ok_eq (k7_mainStart hV Q cm co i hi) ?_))
    dsimp only
    refine ok_if (fun q => ok_pos rfl (ok_ck (inR_of (by omega)) ?_)) (fun q => ok_eq (k7_otherStart hV Q cm co k hkn) ?_)
    · rw [if_neg (fun h => q h.1)] at ih
      exact ih
    · dsimp only
      have q' : sm k = sm i := Classical.not_not.mp q
      refine ok_if (fun q2 => ok_pos rfl (ok_ck (inR_of (by omega)) ?_)) (fun q2 => ok_ck (inR_of (by omega)) (ok_ck (by omega) ?_))
      · rw [if_neg (fun h => q2 h.2.1)] at ih
        exact ih
      · have q2' : so k = 0 := Classical.not_not.mp q2
        rw [show (2 * (k : Int)).toNat = 2 * k by omega, q631]
        refine ok_if (fun q3 => ok_pos rfl (ok_ck (inR_of (by omega)) ?_)) (fun q3 => ok_neg (by decide) ?_)
        · rw [if_neg (fun h => h.2.2.1 (e1.mp q3))] at ih
          exact ih
        · have q3' : Q.1 k ≠ 0 := fun h => q3 (e1.mpr h)
          simp only [q625, e625, q624, e624, i2o hm2, q631, q621, a4, l2_o hm2 (show k < 10 by omega)]
          refine ok_if (fun q4 => ok_ck (inR_of (by omega)) ?_) (fun q4 => ?_)
          · rw [if_neg (fun h => q4 h.2.2.2)] at ih
            exact ih
          · rw [if_pos ⟨q', q2', q3', Classical.not_not.mp q4⟩] at ih
            exact ok_ck (inR_of (by omega)) (ok_ck (inR_of (by omega)) (ok_ck (inR_of (by omega)) (ok_ck (by omega) (ok_ck (inR_of (by omega)) (ok_ck (inR_of (by omega)) (ok_ck (inR_of (by omega)) (ok_ck (by omega) (ok_ck (inR_of (by omega)) (ok_bs (ok_ck (inR_of (by omega)) ih))))))))))
  · rw [f_X6_inLine_4]
    exact ok_pos (Int.le_refl _) hK
theorem k7_told (hV : mpl s m n cnt pk sm so hm wo) (Q : PT) (cm co : Int) (K : pS → Option pS) (P : pS → Prop) (hK : ok (K (mkQ s m (tdP sm so hm wo Q n) cm co)) P) : ok (f_X6_places_59 K 400 0 (mkQ s m Q cm co)) P := by
  have hV' := hV
  obtain ⟨hm2, e624, e625, e619, e640, hIt, hA⟩ := hV'
  obtain ⟨hn, hc1, hc2, hI⟩ := id hIt
  refine itS (fun r k => f_X6_places_59 K r (k : Int) (mkQ s m (tdP sm so hm wo Q k) cm co)) n P (fun r k hk ih => ?_) (fun r => ?_) 400 0 (by omega) (by omega)
  · obtain ⟨i1, i2', i3, i4, i5, i6, i7, i8, i9⟩ := hI k hk
    rw [f_X6_places_59]
    unfold f_X6_places_98
    rw [tdP] at ih
    refine ok_neg (by rw [q619]; omega) (ok_eq (k7_mainStart hV _ cm co k hk) ?_)
    dsimp only
    refine ok_if (fun q => ok_ck (inR_of (by omega)) ?_) (fun q => ok_eq (k7_otherStart hV _ cm co k hk) ?_)
    · rw [if_neg (fun h => h.1 (by omega))] at ih
      exact ih
    · dsimp only
      refine ok_if (fun q2 => ok_ck (inR_of (by omega)) ?_) (fun q2 => ok_eq (k7_mainStart hV _ cm co k hk) (ok_eq (k7_otherStart hV _ cm co k hk) ?_))
      · rw [if_neg (fun h => h.2 (by omega))] at ih
        exact ih
      · rw [if_pos ⟨by omega, by omega⟩] at ih
        have h8 := i8 (by omega)
        exact ok_eq (k7_stand hV _ cm co k (sm k) (so k) hk (by omega) (by omega)) (ok_ck (inR_of (by omega)) ih)
  · rw [f_X6_places_59]
    exact ok_pos (by rw [q619]; omega) hK
theorem k7_main (hV : mpl s m n cnt pk sm so hm wo) (Q : PT) (LB : Nat → Int) (cm co : Int) (K : pS → Option pS) (P : pS → Prop) (hQ : pin n cnt hm wo Q) (hL : ∀ v : Nat, v < 13 → LB v = 1) (h0 : ∀ j, j < n → so j = 0 → Q.1 j = 0) (hK : ok (K (mkQ s m (msP sm so hm wo cnt pk (Q, LB) n).1 cm co)) P) : ok (f_X6_places_106 K 400 0 (mkQ s m Q cm co)) P := by
  have hV' := hV
  obtain ⟨hm2, e624, e625, e619, e640, hIt, hA⟩ := hV'
  obtain ⟨hn, hc1, hc2, hI⟩ := id hIt
  have hL' : ∀ v : Nat, v < 13 → 1 ≤ LB v ∧ LB v ≤ 13 := fun v hv => by rw [hL v hv]; omega
  refine itS (fun r k => f_X6_places_106 K r (k : Int) (mkQ s m (msP sm so hm wo cnt pk (Q, LB) k).1 cm co)) n P (fun r k hk ih => ?_) (fun r => ?_) 400 0 (by omega) (by omega)
  · obtain ⟨i1, i2', i3, i4, i5, i6, i7, i8, i9⟩ := hI k hk
    have hpk := msP_pin (R := (Q, LB)) (pk := pk) hIt hQ hL' (k := k) (by omega)
    rw [f_X6_places_106]
    unfold f_X6_places_135
    rw [msP] at ih
    refine ok_neg (by rw [q619]; omega) (ok_eq (k7_mainStart hV _ cm co k hk) ?_)
    dsimp only
    refine ok_if (fun q => ok_ck (inR_of (by omega)) ?_) (fun q => ok_eq (k7_otherStart hV _ cm co k hk) ?_)
    · rw [if_neg (fun h => h.1 (by omega))] at ih
      exact ih
    · dsimp only
      refine ok_if (fun q2 => ok_ck (inR_of (by omega)) ?_) (fun q2 => ?_)
      · rw [if_neg (fun h => q2 h.2)] at ih
        exact ih
      · have q2' : so k = 0 := Classical.not_not.mp q2
        rw [if_pos ⟨by omega, q2'⟩] at ih
        have efrom : scn sm so wo pk (msP sm so hm wo cnt pk (Q, LB) k).1 (sm k) k = if pk = 0 then (msP sm so hm wo cnt pk (Q, LB) k).2 (sm k).toNat else 1 := by
          by_cases hp : pk = 0
          · rw [if_pos hp]
            exact (msP_scn hp hL h0 (fun j hj => by obtain ⟨b1, b2, b3, b4, b5, b6, b7, b8, b9⟩ := hI j hj; omega) (k := k) (by omega) (sm k) (by omega) (by omega)).symm
          · rw [if_neg hp]
            exact scn_pk hp
        have hfr : 1 ≤ scn sm so wo pk (msP sm so hm wo cnt pk (Q, LB) k).1 (sm k) k ∧ scn sm so wo pk (msP sm so hm wo cnt pk (Q, LB) k).1 (sm k) k ≤ 13 := by
          rw [efrom]
          split
          · exact hpk.2 _ (by omega)
          · omega
        unfold f_X6_inLine
        refine ok_bind (k7_scan hV _ cm co k hk hpk.1 _ _ ?_)
        refine ok_mono (k7_100 hV _ (msP sm so hm wo cnt pk (Q, LB) k).2 cm co k hk (by omega) _ 400 _ (by omega) rfl hfr.1 hfr.2) (fun u hu => ?_)
        rw [hu]
        refine ok_ck (inR_of (by omega)) ?_
        unfold ms1 at ih
        rw [← efrom] at ih
        exact ih
  · rw [f_X6_places_106]
    exact ok_pos (by rw [q619]; omega) hK
theorem k7_cursor (hV : mpl s m n cnt pk sm so hm wo) (Q : PT) (cm co : Int) (K : pS → Option pS) (P : pS → Prop) (hQ : pin n cnt hm wo Q) (hC : 1 ≤ cm ∧ cm ≤ 12 ∧ 1 ≤ co ∧ co ≤ cnt) (hK : ok (K (mkQ s m (bcP sm so hm wo cnt pk (Q, cm, co) n).1 (bcP sm so hm wo cnt pk (Q, cm, co) n).2.1 (bcP sm so hm wo cnt pk (Q, cm, co) n).2.2)) P) : ok (f_X6_places_143 K 400 0 (mkQ s m Q cm co)) P := by
  have hV' := hV
  obtain ⟨hm2, e624, e625, e619, e640, hIt, hA⟩ := hV'
  obtain ⟨hn, hc1, hc2, hI⟩ := id hIt
  refine itS (fun r k => f_X6_places_143 K r (k : Int) (mkQ s m (bcP sm so hm wo cnt pk (Q, cm, co) k).1 (bcP sm so hm wo cnt pk (Q, cm, co) k).2.1 (bcP sm so hm wo cnt pk (Q, cm, co) k).2.2)) n P (fun r k hk ih => ?_) (fun r => ?_) 400 0 (by omega) (by omega)
  · obtain ⟨i1, i2', i3, i4, i5, i6, i7, i8, i9⟩ := hI k hk
    have hpk := bcP_pin (R := (Q, cm, co)) (pk := pk) hIt hQ hC (k := k) (by omega)
    rw [f_X6_places_143]
    unfold f_X6_places_164
    rw [bcP] at ih
    generalize bcP sm so hm wo cnt pk (Q, cm, co) k = R at *
    obtain ⟨hp1, hp2⟩ := hpk
    refine ok_neg (by rw [q619]; omega) (ok_eq (k7_mainStart hV _ _ _ k hk) ?_)
    dsimp only
    refine ok_if (fun q => ok_ck (inR_of (by omega)) ?_) (fun q => ?_)
    · rw [if_neg q] at ih
      exact ih
    · have q' : sm k = 0 := Classical.not_not.mp q
      rw [if_pos q'] at ih
      unfold bc1 at ih
      have e1 : 1 ≤ (if pk = 0 then R.2.1 else 1) ∧ (if pk = 0 then R.2.1 else 1) ≤ 12 := by split <;> omega
      have e2 : 1 ≤ (if pk = 0 then R.2.2 else 1) ∧ (if pk = 0 then R.2.2 else 1) ≤ cnt := by split <;> omega
      have fin : ok (f_X6_byItself_17 (k : Int) (mkQ s m R.1 (if pk = 0 then R.2.1 else 1) (if pk = 0 then R.2.2 else 1))) (fun q2 => ok (ck (inR ((k : Int) + 1)) (f_X6_places_143 K r ((k : Int) + 1) q2)) P) := by
        generalize (if pk = 0 then R.2.1 else 1) = a at *
        generalize (if pk = 0 then R.2.2 else 1) = b at *
        unfold f_X6_byItself_17 f_X6_byItself_47
        refine ok_eq (k7_otherStart hV _ _ _ k hk) ?_
        simp only [q641, q642]
        refine ok_bs (ok_bs (ok_if (fun q2 => ?_) (fun q2 => ?_)))
        · rw [if_neg (show ¬ so k ≠ 0 by omega)] at ih
          refine ok_mono (k7_73 hV R.1 a b k hk _ 400 a b (by omega) rfl (by omega) (by omega) (by omega) (by omega)) (fun u hu => ?_)
          rw [hu]
          exact ok_ck (inR_of (by omega)) ih
        · rw [if_pos (show so k ≠ 0 by omega)] at ih
          have h8 := i8 (by omega)
          have go : ∀ x : Int, x = (if so k < b then a + 1 else a) → ok (f_X6_byItself_50 (fun x1 x3 x4 s1 => f_X6_byItself_111 x1 x3 x4 s1) 400 (k : Int) x (so k) (mkQ s m R.1 a b)) (fun q2 => ok (ck (inR ((k : Int) + 1)) (f_X6_places_143 K r ((k : Int) + 1) q2)) P) := by
            intro x hx
            have hx1 : 1 ≤ x ∧ x ≤ 13 := by rw [hx]; split <;> omega
            refine ok_mono (k7_50 hV R.1 a b k (so k) hk (by omega) _ 400 x (by omega) rfl hx1.1 hx1.2) (fun u hu => ?_)
            rw [hu]
            rw [← hx] at ih
            exact ok_ck (inR_of (by omega)) ih
          refine ok_if (fun q3 => go _ ?_) (fun q3 => ok_ck (inR_of (by omega)) (go _ ?_))
          · rw [if_neg (show ¬ so k < b by omega)]
          · rw [if_pos (show so k < b by omega)]
      refine ok_bind ?_
      unfold f_X6_byItself
      simp only [q625, e625]
      refine ok_if (fun q2 => ?_) (fun q2 => ok_bs (ok_bs ?_))
      · rw [if_pos q2, if_pos q2] at fin
        exact fin
      · rw [if_neg q2, if_neg q2] at fin
        rw [x641, x642]
        exact fin
  · rw [f_X6_places_143]
    exact ok_pos (by rw [q619]; omega) hK
end
/-! counts and tracks -/
theorem k7_counts (m n : Nat) (s : pS) (so : Nat → Int) (wo : Nat → Nat) (tc : Int) (hm : m < 2) (hn : n ≤ 10) (h624 : sI s 624 0 = (m : Int)) (h619 : sI s 619 0 = (n : Int)) (ht : sA s 604 0 (1 - m) = tc) (ht2 : tc ≤ 12) (h : ∀ j, j < n → sA s 620 0 (2 * j + 1 - m) = so j ∧ sA s 621 0 (2 * j + 1 - m) = (wo j : Int)) (hb : ∀ j, j < n → 0 ≤ so j ∧ so j ≤ 12 ∧ 1 ≤ wo j ∧ wo j ≤ 4 ∧ so j + wo j ≤ 13) : f_X6_counts s = some (wI s 640 0 (cao tc so wo n)) := by
  refine of_ok ?_
  have key : ∀ v, v = cao tc so wo 0 → ok (f_X6_counts_28 (1 - (m : Int)) v s) (fun u => u = wI s 640 0 (cao tc so wo n)) := by
    intro v hv
    unfold f_X6_counts_28
    refine ok_bs ?_
    rw [hv]
    refine itS (fun r k => f_X6_counts_33 (fun s2 => some s2) r (1 - (m : Int)) (k : Int) (wI s 640 0 (cao tc so wo k))) n _ (fun r k hk ih => ?_) (fun r => ?_) 400 0 (by omega) (by omega)
    · obtain ⟨h1, h2⟩ := h k hk
      obtain ⟨q1, q2, q3, q4, q5⟩ := hb k hk
      have hcq := cao_q ht2 hb (k := k) (by omega)
      rw [f_X6_counts_33]
      have ei : (2 * (k : Int) + (1 - (m : Int))).toNat = 2 * k + 1 - m := by omega
      have r640 : sI (wI s 640 0 (cao tc so wo k)) 640 0 = cao tc so wo k := rfl
      have r620 : sA (wI s 640 0 (cao tc so wo k)) 620 0 = sA s 620 0 := rfl
      have r621 : sA (wI s 640 0 (cao tc so wo k)) 621 0 = sA s 621 0 := rfl
      simp only [ei, r620, r621, h1, h2]
      have tail : ∀ y : Int, y = (if 1 < so k then so k else 1) + wo k - 1 → ok (f_X6_counts_83 (f_X6_counts_33 (fun s2 => some s2) r) (fun s2 => some s2) (1 - (m : Int)) (k : Int) y (wI s 640 0 (cao tc so wo k))) (fun u => u = wI s 640 0 (cao tc so wo n)) := by
        intro y hy
        unfold f_X6_counts_83 f_X6_counts_104
        rw [r640]
        rw [cao, ← hy] at ih
        refine ok_if (fun q => ok_bs ?_) (fun q => ok_bs ?_)
        · rw [if_neg (by omega)] at ih
          rw [wI_wI]
          exact ok_ck (inR_of (by omega)) ih
        · rw [if_pos (by omega)] at ih
          rw [wI_wI]
          exact ok_ck (inR_of (by omega)) ih
      refine ok_neg (by show ¬ sI s 619 0 ≤ _; omega) (ok_ck (inR_of (by omega)) (ok_ck (inR_of (by omega)) (ok_ck (by omega) (ok_bs (ok_if (fun q => ok_ck (inR_of (by omega)) (ok_ck (inR_of (by omega)) (ok_ck (by omega) (tail _ ?_)))) (fun q => ok_ck (inR_of (by omega)) (ok_ck (inR_of (by omega)) (ok_ck (by omega) (ok_ck (inR_of (by omega)) (ok_ck (inR_of (by omega)) (tail _ ?_)))))))))))
      · split <;> omega
      · split <;> omega
    · rw [f_X6_counts_33]
      exact ok_pos (by show sI s 619 0 ≤ _; omega) (ok_some rfl)
  unfold f_X6_counts
  simp only [h624]
  have ei : (1 - (m : Int)).toNat = 1 - m := by omega
  refine ok_ck (inR_of (by omega)) (ok_bs (ok_ck (by omega) ?_))
  simp only [ei, ht]
  refine ok_if (fun q => key _ ?_) (fun q => ok_ck (by omega) (key _ ?_))
  · show (1 : Int) = if 1 < tc then tc else 1
    rw [if_neg (by omega)]
  · show tc = if 1 < tc then tc else 1
    rw [if_pos (by omega)]
def trk (n0 : Int) (L : Nat → Int) (w : Nat → Nat) : Nat → Int
  | 0 => n0
  | k + 1 => if (if L k ≤ 0 then 0 else L k + w k - 1) ≤ trk n0 L w k then trk n0 L w k else (if L k ≤ 0 then 0 else L k + w k - 1)
theorem trk_rch {n0 : Int} {L : Nat → Int} {w : Nat → Nat} (h0 : 0 ≤ n0) {n : Nat} (h : ∀ j, j < n → 0 ≤ L j) : ∀ {k : Nat}, k ≤ n → trk n0 L w k = if n0 < rch L w k then rch L w k else n0
  | 0, _ => by
    show n0 = if n0 < 0 then 0 else n0
    rw [if_neg (by omega)]
  | k + 1, hk => by
    have ih := trk_rch h0 h (w := w) (k := k) (by omega)
    have hk0 := h k (by omega)
    rw [trk, rch, ih]
    by_cases hL : L k = 0
    · rw [if_pos hL, if_pos (show L k ≤ 0 by omega)]
      (repeat' split) <;> omega
    · rw [if_neg hL, if_neg (show ¬ L k ≤ 0 by omega)]
      (repeat' split) <;> omega
theorem k7_214 (n a : Nat) (S : pS) (L : Nat → Int) (w : Nat → Nat) (n0 : Int) (K : Int → Int → pS → Option pS) (P : pS → Prop) (hn : n ≤ 10) (ha : a < 2) (h0 : 0 ≤ n0 ∧ n0 ≤ 12) (h619 : sI S 619 0 = (n : Int)) (h : ∀ j, j < n → sA S 631 0 (2 * j + a) = L j ∧ sA S 621 0 (2 * j + a) = (w j : Int)) (hb : ∀ j, j < n → 0 ≤ L j ∧ L j + w j ≤ 13) (hK : ok (K a (trk n0 L w n) S) P) : ok (f_X6_places_214 K 400 a n0 0 S) P := by
  refine itS (fun r k => f_X6_places_214 K r a (trk n0 L w k) (k : Int) S) n P (fun r k hk ih => ?_) (fun r => ?_) 400 0 (by omega) (by omega)
  · obtain ⟨h1, h2⟩ := h k hk
    obtain ⟨q1, q2⟩ := hb k hk
    rw [f_X6_places_214]
    unfold f_X6_places_262 f_X6_places_276
    simp only [i2, h1, h2]
    rw [trk] at ih
    refine ok_neg (by omega) (ok_ck (inR_of (by omega)) (ok_ck (inR_of (by omega)) (ok_ck (by omega) (ok_if (fun q => ?_) (fun q => ?_)))))
    · rw [if_pos q] at ih
      refine ok_if (fun q3 => ok_ck (inR_of (by omega)) ?_) (fun q3 => ok_ck (inR_of (by omega)) ?_)
      · rw [if_pos q3] at ih
        exact ih
      · rw [if_neg q3] at ih
        exact ih
    · rw [if_neg q] at ih
      refine ok_ck (inR_of (by omega)) (ok_ck (inR_of (by omega)) (ok_ck (by omega) (ok_ck (inR_of (by omega)) (ok_ck (inR_of (by omega)) (ok_ck (by omega) (ok_ck (inR_of (by omega)) (ok_ck (inR_of (by omega)) ?_)))))))
      refine ok_if (fun q3 => ok_ck (inR_of (by omega)) ?_) (fun q3 => ok_ck (inR_of (by omega)) ?_)
      · rw [if_pos q3] at ih
        exact ih
      · rw [if_neg q3] at ih
        exact ih
  · rw [f_X6_places_214]
    exact ok_pos (by omega) hK
/-! ===== the reference's placing ===== -/
theorem k7_places (m n : Nat) (s : pS) (pk tcM tcO : Int) (sm so : Nat → Int) (hm wo : Nat → Nat) (LB0 : Nat → Int) (hm2 : m < 2) (hn : n ≤ 10) (h624 : sI s 624 0 = (m : Int)) (h625 : sI s 625 0 = pk) (h619 : sI s 619 0 = (n : Int)) (hM : sA s 604 0 m = tcM) (hO : sA s 604 0 (1 - m) = tcO) (hM2 : 0 ≤ tcM ∧ tcM ≤ 12) (hO2 : tcO ≤ 12) (hLB : ∀ v : Nat, v < 13 → LB0 v = 1)
    (hA : ∀ j, j < n → sA s 620 0 (2 * j + m) = sm j ∧ sA s 620 0 (2 * j + 1 - m) = so j ∧ sA s 621 0 (2 * j + m) = (hm j : Int) ∧ sA s 621 0 (2 * j + 1 - m) = (wo j : Int))
    (hB : ∀ j, j < n → 0 ≤ sm j ∧ sm j ≤ 12 ∧ 0 ≤ so j ∧ so j ≤ 12 ∧ 1 ≤ hm j ∧ hm j ≤ 4 ∧ 1 ≤ wo j ∧ wo j ≤ 4 ∧ sm j + hm j ≤ 13 ∧ so j + wo j ≤ 13) :
    ok (f_X6_places s) (fun u => ∃ (cm co : Int) (Q : PT) (t0 t1 : Int), Q = plQ sm so hm wo (cao tcO so wo n) pk n (fun _ => 0, fun _ => 0, flo 0 144 (fun _ => 0) (sA s 639 0)) LB0 ∧ t0 = (if m = 0 then (if tcM < rch Q.1 hm n then rch Q.1 hm n else tcM) else cao tcO so wo n) ∧ t1 = (if m = 0 then cao tcO so wo n else (if tcM < rch Q.1 hm n then rch Q.1 hm n else tcM)) ∧
      u = wA (mkQ (wI s 640 0 (cao tcO so wo n)) m Q cm co) 633 0 (pm_up (pm_up (sA s 633 0) 0 t0) 1 t1)) := by
  obtain ⟨c1, c2, c3, c4⟩ := cao_q hO2 (so := so) (wo := wo) (n := n) (fun j hj => by have := hB j hj; omega) (k := n) (Nat.le_refl _)
  have hIt : itm n (cao tcO so wo n) sm so hm wo := ⟨hn, c1, c2, fun j hj => by
    obtain ⟨b1, b2, b3, b4, b5, b6, b7, b8, b9, b10⟩ := hB j hj
    obtain ⟨d1, d2⟩ := c4 j hj
    exact ⟨b1, b3, b5, b6, b7, b8, b9, d2, d1⟩⟩
  unfold f_X6_places
  refine ok_eq (k7_counts m n s so wo tcO hm2 hn h624 h619 hO hO2 (fun j hj => ⟨(hA j hj).2.1, (hA j hj).2.2.2⟩) (fun j hj => by have := hB j hj; omega)) ?_
  generalize hcnt : cao tcO so wo n = cnt at *
  generalize hs1 : wI s 640 0 cnt = s1
  have hV : mpl s1 m n cnt pk sm so hm wo := ⟨hm2, by rw [← hs1]; exact h624, by rw [← hs1]; exact h625, by rw [← hs1]; exact h619, by rw [← hs1]; rfl, hIt, fun j hj => by rw [← hs1]; exact hA j hj⟩
  have e639 : sA s1 639 0 = sA s 639 0 := by rw [← hs1]; rfl
  have e633 : sA s1 633 0 = sA s 633 0 := by rw [← hs1]; rfl
  have e604 : sA s1 604 0 = sA s 604 0 := by rw [← hs1]; rfl
  have c6 : ∀ (K : pS → Option pS) (P : pS → Prop), ok (K (wA s1 639 0 (flo 0 144 (fun _ => 0) (sA s 639 0)))) P → ok (f_X6_places_6 K 400 0 s1) P := by
    intro K P hK
    have h := itS (fun r k => f_X6_places_6 K r (k : Int) (wA s1 639 0 (flo 0 k (fun _ => 0) (sA s 639 0)))) 144 P (fun r k hk ih => ?_) (fun r => ?_) 400 0 (by omega) (by omega)
    · rw [flo_0, ← e639, wA_self] at h
      exact h
    · rw [f_X6_places_6]
      have r : ∀ v, sA (wA s1 639 0 v) 639 0 = v := fun v => rfl
      simp only [r, wA_wA, nnat]
      refine ok_neg (by omega) (ok_ck (by omega) (ok_bs (ok_ck (inR_of (by omega)) ?_)))
      rw [flo_up0 rfl]
      exact ih
    · rw [f_X6_places_6]
      exact ok_pos (by omega) hK
  refine c6 _ _ ?_
  generalize hs2 : wA s1 639 0 (flo 0 144 (fun _ => 0) (sA s 639 0)) = s2
  have e631 : sA s2 631 0 = sA s1 631 0 := by rw [← hs2]; rfl
  have c28 : ∀ (K : pS → Option pS) (P : pS → Prop), ok (K (wA s2 631 0 (flo 0 20 (fun _ => 0) (sA s1 631 0)))) P → ok (f_X6_places_28 K 400 0 s2) P := by
    intro K P hK
    have h := itS (fun r k => f_X6_places_28 K r (k : Int) (wA s2 631 0 (flo 0 k (fun _ => 0) (sA s1 631 0)))) 20 P (fun r k hk ih => ?_) (fun r => ?_) 400 0 (by omega) (by omega)
    · rw [flo_0, ← e631, wA_self] at h
      exact h
    · rw [f_X6_places_28]
      have r : ∀ v, sA (wA s2 631 0 v) 631 0 = v := fun v => rfl
      simp only [r, wA_wA, nnat]
      refine ok_neg (by omega) (ok_ck (by omega) (ok_bs (ok_ck (inR_of (by omega)) ?_)))
      rw [flo_up0 rfl]
      exact ih
    · rw [f_X6_places_28]
      exact ok_pos (by omega) hK
  refine c28 _ _ (ok_bs (ok_bs ?_))
  generalize hT : flo 0 144 (fun _ => (0 : Int)) (sA s 639 0) = T at *
  have eS : wI (wI (wA s2 631 0 (flo 0 20 (fun _ => 0) (sA s1 631 0))) 641 0 1) 642 0 1 = mkQ s1 m (fun _ => 0, fun _ => 0, T) 1 1 := by
    have el : flo 0 20 (fun _ => (0 : Int)) (sA s1 631 0) = l2 m (fun _ => 0) (fun _ => 0) (sA s1 631 0) := by
      funext q
      unfold flo l2
      by_cases hq : q < 20
      · rw [if_pos (by omega), if_pos hq]
        split <;> rfl
      · rw [if_neg (by omega), if_neg hq]
    rw [el, ← hs2, wA_comm _ _ _ (by decide : 639 ≠ 631)]
    rfl
  rw [eS]
  have hp0 : pin n cnt hm wo (fun _ => 0, fun _ => 0, T) := fun j hj => Or.inl ⟨rfl, rfl⟩
  have hl0 : ∀ v : Nat, v < 13 → 1 ≤ LB0 v ∧ LB0 v ≤ 13 := fun v hv => by rw [hLB v hv]; omega
  have hp1 := tdP_pin hIt hp0 (k := n) (Nat.le_refl _)
  have hp2 := msP_pin (R := (tdP sm so hm wo (fun _ => 0, fun _ => 0, T) n, LB0)) (pk := pk) hIt hp1 hl0 (k := n) (Nat.le_refl _)
  have hp3 := plQ_pin (pk := pk) hIt hp0 hl0
  refine k7_told hV _ 1 1 _ _ (k7_main hV _ LB0 1 1 _ _ hp1 hLB (fun j hj h0 => ?_) (k7_cursor hV _ 1 1 _ _ hp2.1 ⟨by decide, by decide, by decide, c1⟩ ?_))
  · exact tdP_0 h0
  · generalize hR : bcP sm so hm wo cnt pk ((msP sm so hm wo cnt pk (tdP sm so hm wo (fun _ => 0, fun _ => 0, T) n, LB0) n).1, 1, 1) n = R
    have eQ : plQ sm so hm wo cnt pk n (fun _ => 0, fun _ => 0, T) LB0 = R.1 := by unfold plQ; rw [hR]
    rw [eQ] at hp3
    have hLm : ∀ j, j < n → 0 ≤ R.1.1 j ∧ R.1.1 j + hm j ≤ 13 := fun j hj => by have := hp3 j hj; have := hB j hj; omega
    have hLo : ∀ j, j < n → 0 ≤ R.1.2.1 j ∧ R.1.2.1 j + wo j ≤ 13 := fun j hj => by have := hp3 j hj; have := hB j hj; omega
    have rr1 := rch_q (lm := R.1.1) (hm := hm) (M := 12) (by omega) (n := n) (fun j hj h => by have := hp3 j hj; omega) (k := n) (Nat.le_refl _)
    have rr2 := rch_q (lm := R.1.2.1) (hm := wo) (M := cnt) (by omega) (n := n) (fun j hj h => by have := hp3 j hj; omega) (k := n) (Nat.le_refl _)
    have tM := trk_rch hM2.1 (L := R.1.1) (w := hm) (n := n) (fun j hj => (hLm j hj).1) (k := n) (Nat.le_refl _)
    have tO := trk_rch (n0 := cnt) (by omega) (L := R.1.2.1) (w := wo) (n := n) (fun j hj => (hLo j hj).1) (k := n) (Nat.le_refl _)
    rw [if_neg (by omega)] at tO
    -- one axis
    have axis : ∀ (a : Nat) (S : pS) (W : Nat → Int) (K : Int → pS → Option pS) (P : pS → Prop), a < 2 → S = wA (mkQ s1 m R.1 R.2.1 R.2.2) 633 0 W → ok (ck (inR ((a : Int) + 1)) (K ((a : Int) + 1) (wA (mkQ s1 m R.1 R.2.1 R.2.2) 633 0 (pm_up W a (if a = m then (if tcM < rch R.1.1 hm n then rch R.1.1 hm n else tcM) else cnt))))) P → ok (if (a : Int) = (sI S 624 0) then f_X6_places_198 K (fun s9 => some s9) (a : Int) S else ck (0 ≤ (a : Int) ∧ (a : Int) < 2) ((if (sA S 604 0 (a : Int).toNat) ≤ (sI S 640 0) then f_X6_places_211 K (fun s9 => some s9) (a : Int) (sI S 640 0) S else f_X6_places_198 K (fun s9 => some s9) (a : Int) S))) P := by
      intro a S W K P ha hS hK
      have q624 : sI S 624 0 = (m : Int) := by rw [hS]; exact hV.2.1
      have q640 : sI S 640 0 = cnt := by rw [hS]; exact hV.2.2.2.2.1
      have q619 : sI S 619 0 = (n : Int) := by rw [hS]; exact hV.2.2.2.1
      have q604 : sA S 604 0 = sA s 604 0 := by rw [hS]; exact e604
      have q631 : sA S 631 0 = l2 m R.1.1 R.1.2.1 (sA s1 631 0) := by rw [hS]; rfl
      have q621 : sA S 621 0 = sA s 621 0 := by rw [hS, ← hs1]; rfl
      have q633 : sA S 633 0 = W := by rw [hS]; rfl
      have fin : ∀ (t : Int), t = (if a = m then (if tcM < rch R.1.1 hm n then rch R.1.1 hm n else tcM) else cnt) → ok (ck (0 ≤ (a : Int) ∧ (a : Int) < 2) (bs (wA S 633 0 (pm_up (sA S 633 0) (a : Int).toNat t)) (fun s3 => ck (inR ((a : Int) + 1)) (K ((a : Int) + 1) s3)))) P := by
        intro t ht
        refine ok_ck (by omega) (ok_bs ?_)
        rw [q633, nnat, hS, wA_wA, ht]
        exact hK
      by_cases ham : a = m
      · refine ok_pos (by rw [q624, ham]) ?_
        unfold f_X6_places_198 f_X6_places_211
        rw [q604, nnat, ham, hM, ← ham]
        refine ok_ck (by omega) ?_
        refine k7_214 n a S R.1.1 hm tcM _ _ hn ha hM2 q619 (fun j hj => ?_) hLm ?_
        · rw [q631, q621, ham, l2_m hm2 (by omega)]
          exact ⟨rfl, (hA j hj).2.2.1⟩
        · rw [tM]
          exact fin _ (by rw [if_pos ham])
      · have hao : a = 1 - m := by omega
        refine ok_neg (by rw [q624]; omega) ?_
        rw [q604, nnat, hao, hO, q640]
        refine ok_ck (by omega) (ok_pos (by omega) ?_)
        rw [← hao]
        unfold f_X6_places_211
        refine k7_214 n a S R.1.2.1 wo cnt _ _ hn ha ⟨by omega, by omega⟩ q619 (fun j hj => ?_) hLo ?_
        · have e2 : 2 * j + a = 2 * j + 1 - m := by omega
          rw [q631, q621, e2, l2_o hm2 (by omega)]
          exact ⟨rfl, (hA j hj).2.2.2⟩
        · rw [tO]
          exact fin _ (by rw [if_neg ham])
    rw [f_X6_places_172]
    refine ok_neg (by decide) ?_
    refine axis 0 _ (sA s 633 0) _ _ (by omega) (by rw [← e633]; exact (wA_self _ 633 0).symm) (ok_ck (inR_of (by decide)) ?_)
    rw [f_X6_places_172]
    refine ok_neg (by decide) ?_
    refine axis 1 _ _ _ _ (by omega) rfl (ok_ck (inR_of (by decide)) ?_)
    rw [f_X6_places_172]
    refine ok_pos (by decide) (ok_some ⟨R.2.1, R.2.2, R.1, _, _, eQ.symm, ?_, ?_, rfl⟩)
    · by_cases h0 : m = 0
      · rw [if_pos h0, if_pos (show 0 = m by omega)]
      · rw [if_neg h0, if_neg (show ¬ 0 = m by omega)]
    · by_cases h0 : m = 0
      · rw [if_pos h0, if_neg (show ¬ 1 = m by omega)]
      · rw [if_neg h0, if_pos (show 1 = m by omega)]
