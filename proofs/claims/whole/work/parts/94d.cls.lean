/-! ===== THE CLASS'S READER IS THE PURE ONE ===== -/
def CB (b : pS) (T : Nat → Int) (n : Int) : Prop := sI b 403 0 = n ∧ sA b 402 0 = T ∧ 0 ≤ n ∧ n ≤ 40 ∧ ∀ j : Nat, (j : Int) < n → 32 ≤ T j ∧ T j ≤ 126
def pkc (T : Nat → Int) (n p : Int) : Int := if p < n then T p.toNat else 0
theorem pkc_eq {T : Nat → Int} {n p c : Int} (hc : c ≠ 0) : pkc T n p = c ↔ (p < n ∧ T p.toNat = c) := by
  unfold pkc
  split
  · rename_i h
    exact ⟨fun q => ⟨h, q⟩, fun q => q.2⟩
  · rename_i h
    exact ⟨fun q => absurd q.symm hc, fun q => absurd q.1 h⟩
theorem rbs {α : Type} (a : α) : rb (some a) ≠ 0 := by show (1 : Int) ≠ 0; decide
theorem rbn {α : Type} : ¬ rb (none : Option α) ≠ 0 := by show ¬ (0 : Int) ≠ 0; decide
theorem rb_some {α : Type} {o : Option α} {a : α} (h : o = some a) : rb o = 1 := by rw [h]; rfl
theorem rb_none {α : Type} {o : Option α} (h : o = none) : rb o = 0 := by rw [h]; rfl
theorem rb_01 {α : Type} (o : Option α) : rb o = 0 ∨ rb o = 1 := by cases o <;> simp [rb]
theorem mono_of {α : Type} {A : PR α} {n : Int} (h : Loc n n A A) (p : Int) : p ≤ (A p).2 := (h.1 p).1
section
variable {b : pS} {T : Nat → Int} {n p k ir fi ti c : Int} {u : UInt32} {D : Dr}
theorem cS_403 : sI (cS b p k ir fi ti c u D) 403 0 = sI b 403 0 := cS_Io (by decide)
theorem cS_402 : sA (cS b p k ir fi ti c u D) 402 0 = sA b 402 0 := cS_Ao (by decide)
theorem kt_take (h : CB b T n) (hp : 0 ≤ p) (a : Int) : f_X4_take a (cS b p k ir fi ti c u D) = some (rb (Pt T n a p).1, cS b (Pt T n a p).2 k ir fi ti c u D) := by
  obtain ⟨h1, h2, h3, h4, h5⟩ := h
  unfold f_X4_take f_X4_take_24
  rw [cS_403, cS_I401, cS_402, h1, h2]
  by_cases hl : p < n
  · rw [if_neg (show ¬ n ≤ p by omega), ck_pos (show 0 ≤ p ∧ p < 40 by omega)]
    by_cases hc : T p.toNat = a
    · rw [if_pos hc, ck_pos (inR_of (by omega)), Pt_y ⟨hl, hc⟩]
      unfold bs
      rw [cS_I401w]
      rfl
    · rw [if_neg hc, Pt_n (fun q => hc q.2)]
      rfl
  · rw [if_pos (show n ≤ p by omega), Pt_n (fun q => hl q.1)]
    rfl
theorem kt_peek (h : CB b T n) (hp : 0 ≤ p) : f_X4_peek (cS b p k ir fi ti c u D) = some (pkc T n p, cS b p k ir fi ti c u D) := by
  obtain ⟨h1, h2, h3, h4, h5⟩ := h
  unfold f_X4_peek f_X4_peek_24 pkc
  rw [cS_403, cS_I401, cS_402, h1, h2]
  by_cases hl : p < n
  · have := h5 p.toNat (by omega)
    rw [if_neg (show ¬ n ≤ p by omega), ck_pos (show 0 ≤ p ∧ p < 40 by omega), ck_pos (show 0 ≤ T p.toNat ∧ T p.toNat < 65536 by omega), if_pos hl]
  · rw [if_pos (show n ≤ p by omega), ck_pos (show (0 : Int) ≤ 0 ∧ (0 : Int) < 65536 by omega), if_neg hl]
theorem kt_word_2 (h : CB b T n) (i : Nat) : ∀ (N j : Nat) (p : Int), 0 ≤ p → j ≤ (pm_tx i).length → (pm_tx i).length < N + j → (pm_tx i).length < 1000 → f_X4_takeWord_2 i (fun s1 => some (1, s1)) N (j : Int) (cS b p k ir fi ti c u D) = some (rb (Pw T n ((pm_tx i).drop j) p).1, cS b (Pw T n ((pm_tx i).drop j) p).2 k ir fi ti c u D)
  | 0, j, p, hp, h1, h2, h3 => by omega
  | N + 1, j, p, hp, h1, h2, h3 => by
    rw [f_X4_takeWord_2]
    by_cases hj : j = (pm_tx i).length
    · rw [if_pos (by omega), hj, List.drop_length]
      rfl
    · have hlt : j < (pm_tx i).length := by omega
      rw [if_neg (by omega), ck_pos (show 0 ≤ (j : Int) by omega), nnat, List.getElem?_eq_getElem hlt, List.drop_eq_getElem_cons hlt]
      show ((f_X4_take (pm_tx i)[j] (cS b p k ir fi ti c u D)).bind _) = _
      rw [kt_take h hp]
      show (if rb (Pt T n (pm_tx i)[j] p).1 ≠ 0 then _ else _) = _
      by_cases hc : p < n ∧ T p.toNat = (pm_tx i)[j]
      · rw [show Pw T n ((pm_tx i)[j] :: (pm_tx i).drop (j + 1)) p = Pw T n ((pm_tx i).drop (j + 1)) (p + 1) from Pb_some' (Pt_y hc), Pt_y hc]
        rw [if_pos (show rb (some (), p + 1).1 ≠ 0 from rbs ()), ck_pos (inR_of (by omega))]
        exact kt_word_2 h i N (j + 1) (p + 1) (by omega) (by omega) (by omega) h3
      · rw [show Pw T n ((pm_tx i)[j] :: (pm_tx i).drop (j + 1)) p = (none, p) from Pb_none' (Pt_n hc), Pt_n hc]
        rw [if_neg (show ¬ rb ((none : Option Unit), p).1 ≠ 0 from rbn)]
        rfl
theorem kt_word (h : CB b T n) (hp : 0 ≤ p) (i : Nat) (hi : (pm_tx i).length < 400) : f_X4_takeWord i (cS b p k ir fi ti c u D) = some (rb (Pw T n (pm_tx i) p).1, cS b (Pw T n (pm_tx i) p).2 k ir fi ti c u D) := by
  unfold f_X4_takeWord
  exact kt_word_2 h i 400 0 p hp (by omega) (by omega) (by omega)
theorem kt_digits_4 (h : CB b T n) : ∀ (m N : Nat) (x1 x2 x3 p : Int), 0 ≤ p → m < N → x1 = x3 + m → 0 ≤ x3 → x3 + m ≤ 4 → 0 ≤ x2 → x2 < tp x3 → ∀ v y p', Pd T n m x2 x3 p = (some (v, y), p') → f_X4_readDigits_4 (fun x2 s1 => f_X4_readDigits_48 x2 s1) (fun x2 s2 => some (x2, s2)) N x1 x2 x3 (cS b p k ir fi ti c u D) = some (v, cS b p' k ir fi ti c u D)
  | 0, N + 1, x1, x2, x3, p, hp, hN, h1, h2, h3, h4, h5, v, y, p', e => by
    have e : (some (x2, x3), p) = (some (v, y), p') := e
    injection e with e1 e2
    injection e1 with e1
    injection e1 with e1 e3
    rw [f_X4_readDigits_4, if_pos (by omega), e1, e2]
  | m + 1, N + 1, x1, x2, x3, p, hp, hN, h1, h2, h3, h4, h5, v, y, p', e => by
    have e : (if p < n ∧ 48 ≤ T p.toNat ∧ T p.toNat ≤ 57 then Pd T n m (x2 * 10 + (T p.toNat - 48)) (x3 + 1) (p + 1) else (some (x2, x3), p)) = (some (v, y), p') := e
    rw [f_X4_readDigits_4, if_neg (by omega)]
    obtain ⟨g1, g2, g3, g4, g5⟩ := h
    rw [cS_403, cS_I401, cS_402, g1, g2]
    by_cases hl : p < n
    · rw [if_neg (show ¬ n ≤ p by omega), ck_pos (show 0 ≤ p ∧ p < 40 by omega)]
      by_cases ha : T p.toNat < 48
      · rw [if_neg (by omega)] at e
        injection e with e1 e2
        injection e1 with e1
        injection e1 with e1 e3
        rw [if_pos ha, e1, e2]
        rfl
      · rw [if_neg ha, ck_pos (show 0 ≤ p ∧ p < 40 by omega)]
        by_cases hz : T p.toNat ≤ 57
        · rw [if_pos ⟨hl, by omega, hz⟩] at e
          have hs := tp_step h2 (by omega) h4 h5 (d := T p.toNat - 48) (by omega) (by omega)
          have ht := tp4 (c := x3 + 1)
          have ht2 := tp4 (c := x3)
          rw [if_pos hz, ck_pos (inR_of (by omega)), ck_pos (show 0 ≤ p ∧ p < 40 by omega), ck_pos (inR_of (by omega)), ck_pos (inR_of (by omega))]
          unfold bs
          dsimp only
          rw [ck_pos (inR_of (by omega)), cS_I401w, ck_pos (inR_of (by omega))]
          exact kt_digits_4 ⟨g1, g2, g3, g4, g5⟩ m N x1 _ (x3 + 1) (p + 1) (by omega) (by omega) (by omega) (by omega) (by omega) hs.1 hs.2 v y p' e
        · rw [if_neg (by omega)] at e
          injection e with e1 e2
          injection e1 with e1
          injection e1 with e1 e3
          rw [if_neg hz, e1, e2]
          rfl
    · rw [if_neg (by omega)] at e
      injection e with e1 e2
      injection e1 with e1
      injection e1 with e1 e3
      rw [if_pos (show n ≤ p by omega), e1, e2]
      rfl
theorem kt_digits (h : CB b T n) (hp : 0 ≤ p) (m : Nat) (hm : m ≤ 4) {v y p' : Int} (e : Pd T n m 0 0 p = (some (v, y), p')) : f_X4_readDigits (m : Int) (cS b p k ir fi ti c u D) = some (v, cS b p' k ir fi ti c u D) := by
  unfold f_X4_readDigits
  exact kt_digits_4 h m 400 _ 0 0 p hp (by omega) (by omega) (by omega) (by omega) (by omega) tp0 v y p' e
theorem kt_num (h : CB b T n) (hp : 0 ≤ p) : ok (f_X4_readNumber (cS b p k ir fi ti c u D)) (fun q => q.1 = rb (Pnum T n p).1 ∧ ∃ u', q.2 = cS b (Pnum T n p).2 k ir fi ti c u' D ∧ ∀ x, (Pnum T n p).1 = some x → u' = x) := by
  unfold f_X4_readNumber
  refine ok_bs ?_
  obtain ⟨v, y, e, q1, q2, q3, q4⟩ := Pd_ok T n 4 0 0 p (by omega) (by omega) (by omega) tp0
  have q5 := tp4 (c := y)
  have hk := kt_digits (k := k) (ir := ir) (fi := fi) (ti := ti) (c := c) (u := u) (D := D) h hp 4 (by omega) e
  refine ok_eq hk ?_
  rw [cS_I401, cS_I401]
  have E0 : Pnum T n p = (if y = 0 then Pz else Pc T n 46 (Pb (Pd T n 3 0 0) (fun w => if w.2 = 0 then Pz else Pp (FP.fadd (nmw v) (nmf w.1 w.2)))) (Pp (nmw v))) (p + (y - 0)) := Pb_some' e
  rw [E0]
  by_cases hy : y = 0
  · refine ok_neg (by omega) (ok_some ?_)
    rw [if_pos hy]
    exact ⟨rfl, u, rfl, fun x hx => by cases hx⟩
  · refine ok_pos (by omega) (ok_bs ?_)
    rw [if_neg hy, cS_F405w]
    refine ok_eq (kt_take h (by omega) 46) ?_
    by_cases hd : p + (y - 0) < n ∧ T (p + (y - 0)).toNat = 46
    · rw [Pc_y hd, Pt_y hd]
      refine ok_pos (show rb (some (), p + (y - 0) + 1).1 ≠ 0 from rbs ()) (ok_bs ?_)
      obtain ⟨w, z, e2, r1, r2, r3, r4⟩ := Pd_ok T n 3 0 0 (p + (y - 0) + 1) (by omega) (by omega) (by omega) tp0
      have r5 := tp4 (c := z)
      refine ok_eq (kt_digits h (by omega) 3 (by omega) e2) ?_
      rw [Pb_some' e2]
      rw [cS_I401, cS_I401]
      refine ok_ck (inR_of (by omega)) (ok_bs ?_)
      by_cases hz : z = 0
      · refine ok_neg (by omega) (ok_some ?_)
        rw [if_pos (show (w, z).2 = 0 from hz)]
        exact ⟨rfl, _, rfl, fun x hx => by cases hx⟩
      · rw [if_neg (show ¬ (w, z).2 = 0 from hz)]
        have hq := nmf_q (c := z) (v := w) (by omega) (by omega) r3 r4
        have hq2 := nma_q (v := v) (w := w) (c := z) q3 (by omega) (by omega) (by omega) r3 r4
        have fin : ok (f_X4_readNumber_89 w (dvr z) (cS b (p + (y - 0) + 1 + (z - 0)) k ir fi ti c (FP.i2f (Int32.ofInt v)) D)) (fun q => q.1 = rb (Pp (α := UInt32) (FP.fadd (nmw v) (nmf w z)) (p + (y - 0) + 1 + (z - 0))).1 ∧ ∃ u', q.2 = cS b (Pp (α := UInt32) (FP.fadd (nmw v) (nmf w z)) (p + (y - 0) + 1 + (z - 0))).2 k ir fi ti c u' D ∧ ∀ x, (Pp (α := UInt32) (FP.fadd (nmw v) (nmf w z)) (p + (y - 0) + 1 + (z - 0))).1 = some x → u' = x) := by
          unfold f_X4_readNumber_89
          rw [cS_F405]
          refine ok_ck (fb_n32 hq.2 (by omega)) (ok_ck (fb_n32 hq2.2 (by omega)) (ok_bs (ok_some ?_)))
          rw [cS_F405w]
          exact ⟨rfl, _, rfl, fun x hx => Option.some.inj hx⟩
        refine ok_pos (by omega) (ok_if (fun a1 => ok_if (fun a2 => ?_) (fun a2 => ?_)) (fun a1 => ?_))
        · have : dvr z = UInt32.ofNat 1148846080 := by unfold dvr; rw [if_neg (by omega), if_neg (by omega)]
          rw [this] at fin
          exact fin
        · have : dvr z = UInt32.ofNat 1120403456 := by unfold dvr; rw [if_neg (by omega), if_pos (by omega)]
          rw [this] at fin
          exact fin
        · have : dvr z = UInt32.ofNat 1092616192 := by unfold dvr; rw [if_pos (by omega)]
          rw [this] at fin
          exact fin
    · rw [Pc_n hd, Pt_n hd]
      refine ok_neg (show ¬ rb ((none : Option Unit), p + (y - 0)).1 ≠ 0 from rbn) (ok_some ?_)
      exact ⟨rfl, _, rfl, fun x hx => Option.some.inj hx⟩
end
