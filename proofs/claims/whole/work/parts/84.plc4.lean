/-! ===== PLACING: the class, all of it; what counts of the arrays ===== -/
def plQ (sm so : Nat → Int) (hm wo : Nat → Nat) (cnt pk : Int) (n : Nat) (Q0 : PT) (LB0 : Nat → Int) : PT := (bcP sm so hm wo cnt pk ((msP sm so hm wo cnt pk (tdP sm so hm wo Q0 n, LB0) n).1, 1, 1) n).1
theorem plQ_pin {n : Nat} {cnt pk : Int} {sm so : Nat → Int} {hm wo : Nat → Nat} {Q0 : PT} {LB0 : Nat → Int} (hI : itm n cnt sm so hm wo) (h : pin n cnt hm wo Q0) (hl : ∀ v : Nat, v < 13 → 1 ≤ LB0 v ∧ LB0 v ≤ 13) : pin n cnt hm wo (plQ sm so hm wo cnt pk n Q0 LB0) := by
  have h1 := tdP_pin hI h (k := n) (Nat.le_refl _)
  have h2 := msP_pin (R := (tdP sm so hm wo Q0 n, LB0)) (pk := pk) hI h1 hl (k := n) (Nat.le_refl _)
  exact (bcP_pin (R := ((msP sm so hm wo cnt pk (tdP sm so hm wo Q0 n, LB0) n).1, 1, 1)) (pk := pk) hI h2.1 ⟨Int.le_refl 1, (show (1 : Int) ≤ 12 by decide), Int.le_refl 1, hI.2.1⟩ (k := n) (Nat.le_refl _)).1
/-- the class's placing -/
theorem k1_placeAll (m n : Nat) (s : pS) (pk tcM tcO : Int) (sm so : Nat → Int) (hm wo : Nat → Nat) (hm2 : m < 2) (hn : n ≤ 10) (hpk : pk = 0 ∨ pk = 1) (hM : sI s 304 m = tcM) (hO : sI s 304 (1 - m) = tcO) (hM2 : 0 ≤ tcM ∧ tcM ≤ 12) (hO2 : tcO ≤ 12)
    (hA : ∀ j, j < n → sA s 4 m j = sm j ∧ sA s 4 (1 - m) j = so j ∧ sA s 5 m j = (hm j : Int) ∧ sA s 5 (1 - m) j = (wo j : Int))
    (hB : ∀ j, j < n → 0 ≤ sm j ∧ sm j ≤ 12 ∧ 0 ≤ so j ∧ so j ≤ 12 ∧ 1 ≤ hm j ∧ hm j ≤ 4 ∧ 1 ≤ wo j ∧ wo j ≤ 4 ∧ sm j + hm j ≤ 13 ∧ so j + wo j ≤ 13) :
    ok (f_X1_placeAll m (1 - m) n pk s) (fun q => ∃ (s' : pS) (LB : Nat → Int) (cm co : Int), s' = wI (wI (wI (wI (wI s 100 0 m) 101 0 ((1 - m : Nat) : Int)) 102 0 n) 103 0 pk) 104 0 (cao tcO so wo n) ∧ itm n (cao tcO so wo n) sm so hm wo ∧
      pin n (cao tcO so wo n) hm wo (plQ sm so hm wo (cao tcO so wo n) pk n (flo 0 10 (fun _ => 0) (sA s 11 m), flo 0 10 (fun _ => 0) (sA s 11 (1 - m)), flo 0 144 (fun _ => 0) (sA s 107 0)) (flo 0 13 (fun _ => 1) (sA s 108 0))) ∧
      q = (cpd (plQ sm so hm wo (cao tcO so wo n) pk n (flo 0 10 (fun _ => 0) (sA s 11 m), flo 0 10 (fun _ => 0) (sA s 11 (1 - m)), flo 0 144 (fun _ => 0) (sA s 107 0)) (flo 0 13 (fun _ => 1) (sA s 108 0))).1 n,
        wI (wI (mkR s' m (plQ sm so hm wo (cao tcO so wo n) pk n (flo 0 10 (fun _ => 0) (sA s 11 m), flo 0 10 (fun _ => 0) (sA s 11 (1 - m)), flo 0 144 (fun _ => 0) (sA s 107 0)) (flo 0 13 (fun _ => 1) (sA s 108 0))) LB cm co) 8 m (if tcM < rch (plQ sm so hm wo (cao tcO so wo n) pk n (flo 0 10 (fun _ => 0) (sA s 11 m), flo 0 10 (fun _ => 0) (sA s 11 (1 - m)), flo 0 144 (fun _ => 0) (sA s 107 0)) (flo 0 13 (fun _ => 1) (sA s 108 0))).1 hm n then rch (plQ sm so hm wo (cao tcO so wo n) pk n (flo 0 10 (fun _ => 0) (sA s 11 m), flo 0 10 (fun _ => 0) (sA s 11 (1 - m)), flo 0 144 (fun _ => 0) (sA s 107 0)) (flo 0 13 (fun _ => 1) (sA s 108 0))).1 hm n else tcM)) 8 (1 - m) (cao tcO so wo n))) := by
  obtain ⟨c1, c2, c3, c4⟩ := cao_q hO2 (so := so) (wo := wo) (n := n) (fun j hj => by have := hB j hj; omega) (k := n) (Nat.le_refl _)
  have hIt : itm n (cao tcO so wo n) sm so hm wo := ⟨hn, c1, c2, fun j hj => by
    obtain ⟨b1, b2, b3, b4, b5, b6, b7, b8, b9, b10⟩ := hB j hj
    obtain ⟨d1, d2⟩ := c4 j hj
    exact ⟨b1, b3, b5, b6, b7, b8, b9, d2, d1⟩⟩
  unfold f_X1_placeAll
  refine ok_bs (ok_bs (ok_bs (ok_ck hpk (ok_bs ?_))))
  generalize hs5 : wI (wI (wI (wI s 100 0 (m : Int)) 101 0 ((1 - m : Nat) : Int)) 102 0 (n : Int)) 103 0 pk = s5
  have q101 : sI s5 101 0 = ((1 - m : Nat) : Int) := by rw [← hs5]; rfl
  have q102 : sI s5 102 0 = (n : Int) := by rw [← hs5]; rfl
  have q304 : ∀ i, sI s5 304 i = sI s 304 i := by intro i; rw [← hs5]; rfl
  have qA : ∀ f i, sA s5 f i = sA s f i := by intro f i; rw [← hs5]; rfl
  rw [q101, q102]
  simp only [nnat]
  refine ok_ck (by omega) (ok_eq (k0_countAsOther (1 - m) n s5 so wo tcO hn (by rw [q304]; exact hO) hO2 (fun j hj => by rw [qA, qA]; exact ⟨(hA j hj).2.1, (hA j hj).2.2.2⟩) (fun j hj => by have := hB j hj; omega)) (ok_bs ?_))
  dsimp only
  generalize hs8 : wI s5 104 0 (cao tcO so wo n) = s8
  have p100 : sI s8 100 0 = (m : Int) := by rw [← hs8, ← hs5]; rfl
  have p101 : sI s8 101 0 = ((1 - m : Nat) : Int) := by rw [← hs8, ← hs5]; rfl
  have p102 : sI s8 102 0 = (n : Int) := by rw [← hs8, ← hs5]; rfl
  have p103 : sI s8 103 0 = pk := by rw [← hs8, ← hs5]; rfl
  have p104 : sI s8 104 0 = cao tcO so wo n := by rw [← hs8]; rfl
  have p304 : ∀ i, sI s8 304 i = sI s 304 i := by intro i; rw [← hs8, ← hs5]; rfl
  have pA : ∀ f i, sA s8 f i = sA s f i := by intro f i; rw [← hs8, ← hs5]; rfl
  have hV : cpl s8 m n (cao tcO so wo n) pk sm so hm wo := ⟨hm2, p100, p101, p102, p103, p104, hIt, fun j hj => by rw [pA, pA, pA, pA]; exact hA j hj⟩
  have hcl := k1_clearPlaces m s8 hm2 p100 p101
  rw [pA, pA, pA, pA] at hcl
  refine ok_eq hcl ?_
  generalize hQ0 : ((flo 0 10 (fun _ => (0 : Int)) (sA s 11 m), flo 0 10 (fun _ => (0 : Int)) (sA s 11 (1 - m)), flo 0 144 (fun _ => (0 : Int)) (sA s 107 0)) : PT) = Q0
  generalize hLB0 : flo 0 13 (fun _ => (1 : Int)) (sA s 108 0) = LB0
  have e0 : mkP s8 m (flo 0 10 (fun _ => 0) (sA s 11 m)) (flo 0 10 (fun _ => 0) (sA s 11 (1 - m))) (flo 0 144 (fun _ => 0) (sA s 107 0)) LB0 1 1 = mkR s8 m Q0 LB0 1 1 := by rw [← hQ0]; rfl
  rw [e0]
  have hl0 : ∀ v : Nat, v < 13 → 1 ≤ LB0 v ∧ LB0 v ≤ 13 := by
    intro v hv
    rw [← hLB0, flo_in (by omega)]
    decide
  have hp0 : pin n (cao tcO so wo n) hm wo Q0 := by
    intro j hj
    rw [← hQ0]
    refine Or.inl ⟨?_, ?_⟩
    · show flo 0 10 (fun _ => (0 : Int)) (sA s 11 m) j = 0
      rw [flo_in (by omega)]
    · show flo 0 10 (fun _ => (0 : Int)) (sA s 11 (1 - m)) j = 0
      rw [flo_in (by omega)]
  have hp1 := tdP_pin hIt hp0 (k := n) (Nat.le_refl _)
  refine ok_eq (k1_placeTold hV Q0 LB0 1 1) (ok_eq (k1_placeWithMainStart hV _ LB0 1 1 hp1 hl0) ?_)
  have hp2 := msP_pin (R := (tdP sm so hm wo Q0 n, LB0)) (pk := pk) hIt hp1 hl0 (k := n) (Nat.le_refl _)
  refine ok_eq (k1_placeByCursor hV _ _ 1 1 hp2.1 ⟨by decide, by decide, by decide, c1⟩) ?_
  have hp3 := plQ_pin (pk := pk) hIt hp0 hl0
  generalize hR : bcP sm so hm wo (cao tcO so wo n) pk ((msP sm so hm wo (cao tcO so wo n) pk (tdP sm so hm wo Q0 n, LB0) n).1, 1, 1) n = R
  have eQ : plQ sm so hm wo (cao tcO so wo n) pk n Q0 LB0 = R.1 := by unfold plQ; rw [hR]
  rw [eQ] at hp3 ⊢
  generalize (msP sm so hm wo (cao tcO so wo n) pk (tdP sm so hm wo Q0 n, LB0) n).2 = LB
  have g100 : sI (mkR s8 m R.1 LB R.2.1 R.2.2) 100 0 = (m : Int) := p100
  have g101 : sI (mkR s8 m R.1 LB R.2.1 R.2.2) 101 0 = ((1 - m : Nat) : Int) := p101
  have g102 : sI (mkR s8 m R.1 LB R.2.1 R.2.2) 102 0 = (n : Int) := p102
  have g304 : sI (mkR s8 m R.1 LB R.2.1 R.2.2) 304 m = tcM := by rw [← hM, ← p304]; rfl
  have g11 : sA (mkR s8 m R.1 LB R.2.1 R.2.2) 11 m = R.1.1 := p11m _ _ _ _ _ _ _ _ hm2
  have g5 : sA (mkR s8 m R.1 LB R.2.1 R.2.2) 5 = sA s8 5 := rfl
  rw [g100, g102]
  simp only [nnat]
  rw [g304]
  refine ok_ck (by omega) (ok_ck (by omega) (ok_ck (by omega) (ok_eq (k0_reach m n _ R.1.1 hm hn (fun j hj => by rw [g11, g5, pA]; exact ⟨rfl, (hA j hj).2.2.1⟩) (fun j hj => ?_)) (ok_bs ?_))))
  · have := hp3 j hj
    have := hB j hj
    omega
  · dsimp only
    have w101 : ∀ v, sI (wI (mkR s8 m R.1 LB R.2.1 R.2.2) 8 m v) 101 0 = ((1 - m : Nat) : Int) := fun v => by rw [sI_wI, if_neg (by omega)]; exact g101
    have w104 : ∀ v, sI (wI (mkR s8 m R.1 LB R.2.1 R.2.2) 8 m v) 104 0 = cao tcO so wo n := fun v => by rw [sI_wI, if_neg (by omega)]; exact p104
    rw [w101, w104]
    simp only [nnat]
    refine ok_ck (by omega) (ok_bs ?_)
    refine ok_eq (k1_countPlaced m n _ R.1.1 hn hm2 ?_ ?_ (fun j hj => ?_)) (ok_some ⟨s8, LB, R.2.1, R.2.2, ?_, hIt, hp3, rfl⟩)
    · rw [sI_wI, if_neg (by omega), sI_wI, if_neg (by omega)]; exact g100
    · rw [sI_wI, if_neg (by omega), sI_wI, if_neg (by omega)]; exact g102
    · rw [sA_wI, sA_wI, g11]
    · rw [← hs8, ← hs5]
/-! only what lies in the grid counts -/
def agT (T T' : Nat → Int) : Prop := ∀ q, q < 144 → T q = T' q
def agP (Q Q' : PT) : Prop := (∀ j, j < 10 → Q.1 j = Q'.1 j) ∧ (∀ j, j < 10 → Q.2.1 j = Q'.2.1 j) ∧ agT Q.2.2 Q'.2.2
theorem opC_congr {T T' : Nat → Int} {r c : Int} (h : agT T T') (hr : r ≤ 12) : ∀ {w : Nat}, c + w ≤ 13 → opC T r c w = opC T' r c w
  | 0, _ => rfl
  | w + 1, hw => by
    show (opC T r c w && decide (T (cel r (c + w)) = 0)) = (opC T' r c w && decide (T' (cel r (c + w)) = 0))
    rw [opC_congr (w := w) h hr (by omega), h (cel r (c + w)) (by unfold cel; omega)]
theorem opR_congr {T T' : Nat → Int} {r c : Int} {w : Nat} (h : agT T T') (hc : c + w ≤ 13) : ∀ {k : Nat}, r + k ≤ 13 → opR T r c w k = opR T' r c w k
  | 0, _ => rfl
  | k + 1, hk => by
    show (opR T r c w k && opC T (r + k) c w) = (opR T' r c w k && opC T' (r + k) c w)
    rw [opR_congr (k := k) h hc (by omega), opC_congr h (by omega) hc]
theorem opn_congr {T T' : Nat → Int} {cnt : Int} {hh w : Nat} (hc : cnt ≤ 12) (h : agT T T') : opn T cnt hh w = opn T' cnt hh w := by
  funext r c
  unfold opn
  by_cases h1 : r + (hh : Int) ≤ 13
  · by_cases h2 : c + (w : Int) ≤ cnt + 1
    · rw [opR_congr h (by omega) h1]
    · rw [decide_eq_false h2]; rfl
  · rw [decide_eq_false h1]; rfl
theorem agT_up {T T' : Nat → Int} {k : Nat} {v : Int} (h : agT T T') : agT (pm_up T k v) (pm_up T' k v) := by
  intro q hq
  unfold pm_up
  split
  · rfl
  · exact h q hq
theorem agT_stC {T T' : Nat → Int} {r c : Int} (h : agT T T') : ∀ {w : Nat}, agT (stC T r c w) (stC T' r c w)
  | 0 => h
  | w + 1 => agT_up (agT_stC h (w := w))
theorem agT_stR {T T' : Nat → Int} {r c : Int} {w : Nat} (h : agT T T') : ∀ {k : Nat}, agT (stR T r c w k) (stR T' r c w k)
  | 0 => h
  | k + 1 => agT_stC (agT_stR h (k := k))
theorem agP_stl {Q Q' : PT} {j : Nat} {r c : Int} {hh w : Nat} (h : agP Q Q') : agP (stl Q j r c hh w) (stl Q' j r c hh w) := by
  refine ⟨fun i hi => ?_, fun i hi => ?_, agT_stR h.2.2⟩
  · show pm_up Q.1 j r i = pm_up Q'.1 j r i
    unfold pm_up; split
    · rfl
    · exact h.1 i hi
  · show pm_up Q.2.1 j c i = pm_up Q'.2.1 j c i
    unfold pm_up; split
    · rfl
    · exact h.2.1 i hi
theorem agP_tdP {sm so : Nat → Int} {hm wo : Nat → Nat} {Q Q' : PT} (h : agP Q Q') : ∀ {n : Nat}, agP (tdP sm so hm wo Q n) (tdP sm so hm wo Q' n)
  | 0 => h
  | n + 1 => by
    have ih := agP_tdP (sm := sm) (so := so) (hm := hm) (wo := wo) h (n := n)
    rw [tdP, tdP]
    split
    · exact agP_stl ih
    · exact ih
theorem agP_ms2 {Q Q' : PT} {LB : Nat → Int} {j : Nat} {r : Int} {hh w : Nat} {x : Option Int} (h : agP Q Q') : agP (ms2 Q LB j r hh w x).1 (ms2 Q' LB j r hh w x).1 ∧ (ms2 Q LB j r hh w x).2 = (ms2 Q' LB j r hh w x).2 := by
  cases x with
  | none => exact ⟨h, rfl⟩
  | some c => exact ⟨agP_stl h, rfl⟩
theorem agP_msP {sm so : Nat → Int} {hm wo : Nat → Nat} {cnt pk : Int} {Q Q' : PT} {LB : Nat → Int} (hc : cnt ≤ 12) (h : agP Q Q') : ∀ {n : Nat}, agP (msP sm so hm wo cnt pk (Q, LB) n).1 (msP sm so hm wo cnt pk (Q', LB) n).1 ∧ (msP sm so hm wo cnt pk (Q, LB) n).2 = (msP sm so hm wo cnt pk (Q', LB) n).2
  | 0 => ⟨h, rfl⟩
  | n + 1 => by
    have ih := agP_msP (sm := sm) (so := so) (hm := hm) (wo := wo) (pk := pk) (LB := LB) hc h (n := n)
    rw [msP, msP]
    split
    · unfold ms1
      rw [opn_congr hc ih.1.2.2, ih.2]
      exact agP_ms2 ih.1
    · exact ih
theorem agP_bc2 {Q Q' : PT} {cm co : Int} {j : Nat} {hh w : Nat} {x : Option (Int × Int)} (h : agP Q Q') : agP (bc2 Q cm co j hh w x).1 (bc2 Q' cm co j hh w x).1 ∧ (bc2 Q cm co j hh w x).2 = (bc2 Q' cm co j hh w x).2 := by
  cases x with
  | none => exact ⟨h, rfl⟩
  | some c => exact ⟨agP_stl h, rfl⟩
theorem agP_bcP {sm so : Nat → Int} {hm wo : Nat → Nat} {cnt pk : Int} {Q Q' : PT} {cm co : Int} (hc : cnt ≤ 12) (h : agP Q Q') : ∀ {n : Nat}, agP (bcP sm so hm wo cnt pk (Q, cm, co) n).1 (bcP sm so hm wo cnt pk (Q', cm, co) n).1 ∧ (bcP sm so hm wo cnt pk (Q, cm, co) n).2 = (bcP sm so hm wo cnt pk (Q', cm, co) n).2
  | 0 => ⟨h, rfl⟩
  | n + 1 => by
    have ih := agP_bcP (sm := sm) (so := so) (hm := hm) (wo := wo) (pk := pk) (cm := cm) (co := co) hc h (n := n)
    rw [bcP, bcP]
    split
    · unfold bc1
      rw [opn_congr hc ih.1.2.2, ih.2]
      exact agP_bc2 ih.1
    · exact ih
theorem agP_plQ {sm so : Nat → Int} {hm wo : Nat → Nat} {cnt pk : Int} {n : Nat} {Q Q' : PT} {LB : Nat → Int} (hc : cnt ≤ 12) (h : agP Q Q') : agP (plQ sm so hm wo cnt pk n Q LB) (plQ sm so hm wo cnt pk n Q' LB) := (agP_bcP hc (agP_msP hc (agP_tdP h)).1).1
