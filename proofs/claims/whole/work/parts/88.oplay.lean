/-! ===== LAYOUT: the class and the reference answer alike ===== -/
theorem tdP_far {sm so : Nat → Int} {hm wo : Nat → Nat} {Q : PT} {j : Nat} : ∀ {k : Nat}, k ≤ j → (tdP sm so hm wo Q k).1 j = Q.1 j ∧ (tdP sm so hm wo Q k).2.1 j = Q.2.1 j
  | 0, _ => ⟨rfl, rfl⟩
  | k + 1, hk => by
    have ih := tdP_far (sm := sm) (so := so) (hm := hm) (wo := wo) (Q := Q) (j := j) (k := k) (by omega)
    rw [tdP]
    split
    · refine ⟨?_, ?_⟩
      · show pm_up (tdP sm so hm wo Q k).1 k (sm k) j = Q.1 j
        rw [up_ne _ _ (by omega)]; exact ih.1
      · show pm_up (tdP sm so hm wo Q k).2.1 k (so k) j = Q.2.1 j
        rw [up_ne _ _ (by omega)]; exact ih.2
    · exact ih
theorem msP_far2 {sm so : Nat → Int} {hm wo : Nat → Nat} {cnt pk : Int} {R : PT × (Nat → Int)} {j : Nat} : ∀ {k : Nat}, k ≤ j → (msP sm so hm wo cnt pk R k).1.2.1 j = R.1.2.1 j
  | 0, _ => rfl
  | k + 1, hk => by
    have ih := msP_far2 (sm := sm) (so := so) (hm := hm) (wo := wo) (cnt := cnt) (pk := pk) (R := R) (j := j) (k := k) (by omega)
    rw [msP]
    split
    · unfold ms1
      generalize srch _ _ _ = x
      cases x with
      | none => exact ih
      | some c =>
        show pm_up (msP sm so hm wo cnt pk R k).1.2.1 k c j = R.1.2.1 j
        rw [up_ne _ _ (by omega)]
        exact ih
    · exact ih
theorem bcP_far {sm so : Nat → Int} {hm wo : Nat → Nat} {cnt pk : Int} {R : PT × Int × Int} {j : Nat} : ∀ {k : Nat}, k ≤ j → (bcP sm so hm wo cnt pk R k).1.1 j = R.1.1 j ∧ (bcP sm so hm wo cnt pk R k).1.2.1 j = R.1.2.1 j
  | 0, _ => ⟨rfl, rfl⟩
  | k + 1, hk => by
    have ih := bcP_far (sm := sm) (so := so) (hm := hm) (wo := wo) (cnt := cnt) (pk := pk) (R := R) (j := j) (k := k) (by omega)
    rw [bcP]
    split
    · unfold bc1
      generalize (if so k ≠ 0 then _ else _) = x
      generalize (if pk = 0 then (bcP sm so hm wo cnt pk R k).2.1 else 1) = u
      generalize (if pk = 0 then (bcP sm so hm wo cnt pk R k).2.2 else 1) = v
      cases x with
      | none => exact ih
      | some c =>
        refine ⟨?_, ?_⟩
        · show pm_up (bcP sm so hm wo cnt pk R k).1.1 k c.1 j = R.1.1 j
          rw [up_ne _ _ (by omega)]; exact ih.1
        · show pm_up (bcP sm so hm wo cnt pk R k).1.2.1 k c.2 j = R.1.2.1 j
          rw [up_ne _ _ (by omega)]; exact ih.2
    · exact ih
theorem plQ_far {sm so : Nat → Int} {hm wo : Nat → Nat} {cnt pk : Int} {n : Nat} {Q0 : PT} {LB0 : Nat → Int} {j : Nat} (hj : n ≤ j) : (plQ sm so hm wo cnt pk n Q0 LB0).1 j = Q0.1 j ∧ (plQ sm so hm wo cnt pk n Q0 LB0).2.1 j = Q0.2.1 j := by
  have h1 := tdP_far (sm := sm) (so := so) (hm := hm) (wo := wo) (Q := Q0) hj
  have h2 := msP_far (sm := sm) (so := so) (hm := hm) (wo := wo) (cnt := cnt) (pk := pk) (R := (tdP sm so hm wo Q0 n, LB0)) hj
  have h3 := msP_far2 (sm := sm) (so := so) (hm := hm) (wo := wo) (cnt := cnt) (pk := pk) (R := (tdP sm so hm wo Q0 n, LB0)) hj
  have h4 := bcP_far (sm := sm) (so := so) (hm := hm) (wo := wo) (cnt := cnt) (pk := pk) (R := ((msP sm so hm wo cnt pk (tdP sm so hm wo Q0 n, LB0) n).1, 1, 1)) hj
  exact ⟨h4.1.trans (h2.trans h1.1), h4.2.trans (h3.trans h1.2)⟩
theorem rch_congr {L L' : Nat → Int} {w : Nat → Nat} : ∀ {k : Nat}, (∀ j, j < k → L j = L' j) → rch L w k = rch L' w k
  | 0, _ => rfl
  | k + 1, h => by
    rw [rch, rch, rch_congr (k := k) (fun j hj => h j (by omega)), h k (by omega)]
theorem cpd_congr {L L' : Nat → Int} : ∀ {k : Nat}, (∀ j, j < k → (L j = 0 ↔ L' j = 0)) → cpd L k = cpd L' k
  | 0, _ => rfl
  | k + 1, h => by
    rw [cpd, cpd, cpd_congr (k := k) (fun j hj => h j (by omega))]
    by_cases h0 : L k = 0
    · rw [if_pos h0, if_pos ((h k (by omega)).mp h0)]
    · rw [if_neg h0, if_neg (fun hx => h0 ((h k (by omega)).mpr hx))]
theorem axC_fr {s u u' : pS} {a b c n : Nat} {L : Nat → Int} (hab : a ≠ b) (hf : frX b u u') (h : axC s u a c n L) : axC s u' a c n L := by
  obtain ⟨h1, h2, b0, l0, ch0, g1, g2, g3, g3b, g4, g5, g6, g7⟩ := h
  refine ⟨(hf 8 a (by omega) hab).1.trans h1, (hf 11 a (by omega) hab).2.2.1.trans h2, b0, l0, ch0, g1, g2, g3, g3b, (hf 9 a (by omega) hab).2.2.2.trans g4, (hf 13 a (by omega) hab).2.1.trans g5, fun t ht => ?_, fun j hj h0 => ?_⟩
  · rw [(hf 10 a (by omega) hab).2.2.2]; exact g6 t ht
  · rw [(hf 12 a (by omega) hab).2.2.2]; exact g7 j hj h0
theorem axM_fr {s u u' : pS} {a b c n : Nat} {L : Nat → Int} {l0 : Nat → UInt32} (hab : a ≠ b) (ha : a < 2) (hc : c ≤ 12) (hf : frY b u u') (h : axM s u a c n L l0) : axM s u' a c n L l0 := by
  obtain ⟨b0, l3, ch0, g1, g2, g3, g4, g5, g6⟩ := h
  obtain ⟨f1, f2, f3⟩ := hf a hab ha
  refine ⟨b0, l3, ch0, g1, g2, fun t ht => ?_, f2.trans g4, fun t ht => ?_, fun j hj => ?_⟩
  · rw [(f1 t (by omega)).1]; exact g3 t ht
  · rw [(f1 t (by omega)).2]; exact g5 t ht
  · rw [f3 j]; exact g6 j hj
/-- the class's and the reference's sizes are the same -/
theorem ax_same {s u w : pS} {a c n : Nat} {L : Nat → Int} {l0 : Nat → UInt32} (hc : c ≤ 12) (hsp : ∀ j, j < n → 1 ≤ sA s 5 a j ∧ sA s 5 a j ≤ 4) (hg : fb 12 (sF s 2 a)) (hb : lnb s a c n L) (h1 : axC s u a c n L) (h2 : axM s w a c n L l0) :
    (∀ t, t < c → sB u 9 a t = sB w 634 0 (12 * a + t) ∧ sB u 10 a t = sB w 637 0 (12 * a + t) ∧ fb 120 (sB u 9 a t) ∧ fb 120 (sB u 10 a t)) ∧ sF u 13 a = sB w 638 0 a ∧ fb 120 (sF u 13 a) ∧ ∀ j, j < n → L j ≠ 0 → sB u 12 a j = sB w 632 0 (2 * j + a) ∧ fb 120 (sB u 12 a j) := by
  obtain ⟨-, -, b0, l0', ch0, g1, g2, g3, g3b, g4, g5, g6, g7⟩ := h1
  obtain ⟨b0', l3, ch0', k1, k2, k3, k4, k5, k6⟩ := h2
  have hh : ∀ w : Nat, ∀ j, j < n → L j ≠ 0 → sA s 5 a j = (w : Int) → (L j - 1).toNat + w ≤ c := by
    intro w j hj q1 q2
    have := hb j hj
    have := this.2 q1
    omega
  have eL : ag c (szL s a c n L b0 l0') l3 := fun t ht => by
    rw [k1 t ht]
    exact ag_zL3 hh t ht
  have eB : ag c (szB s a c n L b0 (szL s a c n L b0 l0') ch0) (szB s a c n L b0' l3 ch0') := ag_zB6 hh eL (fun t ht => by rw [g1 t ht, k2 t ht])
  have eF : rst (sF s 1 a) (szB s a c n L b0 (szL s a c n L b0 l0') ch0) (sF s 2 a) c = rst (sF s 1 a) (szB s a c n L b0' l3 ch0') (sF s 2 a) c := rst_congr eB
  refine ⟨fun t ht => ⟨?_, ?_, ?_, ?_⟩, ?_, ?_, fun j hj h0 => ⟨?_, ?_⟩⟩
  · rw [g4, k3 t ht]; exact eB t ht
  · rw [g6 t ht, k5 t ht, eF]; exact ag_posn eB t ht
  · rw [g4]; exact fb_le (g2 t ht) (by omega)
  · rw [g6 t ht]
    have := posn_q (c := c) (k := t) (fb_le (pos1_q (how := sI s 3 a) g3b) (by omega)) (fb_le hg (by omega)) g2 (by omega) (by omega)
    exact fb_le this (by omega)
  · rw [g5, k4]; exact eF
  · rw [g5]; exact fb_le g3 (by omega)
  · have hbj := (hb j hj).2 h0
    have h5 := hsp j hj
    have hb0 := (hb j hj).1
    rw [g7 j hj h0, k6 j hj]
    unfold exM
    rw [if_neg h0]
    exact ext_congr eB (by omega)
  · have hbj := (hb j hj).2 h0
    have h5 := hsp j hj
    have hb0 := (hb j hj).1
    rw [g7 j hj h0]
    exact fb_le (ext_q (fun t q1 q2 => g2 t (by omega)) hg (by omega)) (by omega)
