/-! ===== THE CLASS'S READER, the whole text (written by wip/whole/gen_cls3.py) ===== -/
def Jx (ir fi ti c : Int) : Prop := (ir = 0 ∨ ir = 1) ∧ 0 ≤ fi ∧ fi ≤ c ∧ 1 ≤ ti ∧ ti ≤ 9 ∧ fi + ti * (c - fi + 1) ≤ 12
theorem ti9 {ti : Int} (h1 : 1 ≤ ti) (h2 : ti ≤ 9) : ti = 1 ∨ ti = 2 ∨ ti = 3 ∨ ti = 4 ∨ ti = 5 ∨ ti = 6 ∨ ti = 7 ∨ ti = 8 ∨ ti = 9 := by omega
theorem Jx_c {ir fi ti c : Int} (h : Jx ir fi ti c) : 0 ≤ c ∧ c ≤ 11 := by
  obtain ⟨-, h1, h2, h3, h4, h5⟩ := h
  rcases ti9 h3 h4 with rfl | rfl | rfl | rfl | rfl | rfl | rfl | rfl | rfl <;> omega
theorem Jx_rep {ir fi ti c : Int} (h : Jx ir fi ti c) : 0 ≤ fi + ti * (c + 1 - fi) ∧ fi + ti * (c + 1 - fi) ≤ 12 ∧ c + 1 + (c + 1 - fi) * (ti - 1) = fi + ti * (c + 1 - fi) ∧ 0 ≤ (c + 1 - fi) * (ti - 1) := by
  obtain ⟨-, h1, h2, h3, h4, h5⟩ := h
  rcases ti9 h3 h4 with rfl | rfl | rfl | rfl | rfl | rfl | rfl | rfl | rfl <;> omega
theorem mul_rng {ti x : Int} (h3 : 1 ≤ ti) (h4 : ti ≤ 9) (h1 : 0 ≤ x) (h2 : x ≤ 13) : 0 ≤ ti * x ∧ ti * x ≤ 117 := by
  rcases ti9 h3 h4 with rfl | rfl | rfl | rfl | rfl | rfl | rfl | rfl | rfl <;> omega
def ctx (b : pS) (r : Option (Int × Dr) × Int) (q : Int × pS) : Prop := q.1 = rb r.1 ∧ ∃ k' ir' fi' ti' c' u' D', q.2 = cS b r.2 k' ir' fi' ti' c' u' D' ∧ ∀ v, r.1 = some v → (c', D') = v
section
variable {b : pS} {T : Nat → Int} {n p k ir fi ti c : Int} {u : UInt32} {D : Dr}
theorem kt_ent (h : CB b T n) (hp : 0 ≤ p) (hc : 0 ≤ c) (hc2 : c ≤ 12) : ok (f_X4_enterRepeat (cS b p k ir fi ti c u D)) (fun q => q.1 = rb (Pent T n c p).1 ∧ ∃ ir' fi' ti', q.2 = cS b (Pent T n c p).2 k ir' fi' ti' c u D ∧ ∀ t, (Pent T n c p).1 = some t → ir' = 1 ∧ fi' = c ∧ ti' = t ∧ 1 ≤ t ∧ t ≤ 9 ∧ c + t ≤ 12) := by
  unfold f_X4_enterRepeat f_X4_enterRepeat_44 Pent
  have hw := kt_word (k := k) (ir := ir) (fi := fi) (ti := ti) (c := c) (u := u) (D := D) h hp 6 (by decide)
  rw [tx6] at hw
  refine ok_eq hw ?_
  have m1 := Pw_mono T n [114, 101, 112, 101, 97, 116, 40] p
  cases e1 : (Pw T n [114, 101, 112, 101, 97, 116, 40] p).1 with
  | none =>
    rw [Pb_none e1]
    exact ok_neg (rbn (α := Unit)) (ok_some ⟨rfl, _, _, _, rfl, fun t ht => by cases ht⟩)
  | some x1 =>
  rw [Pb_some e1]
  generalize (Pw T n [114, 101, 112, 101, 97, 116, 40] p).2 = p1 at m1 ⊢
  refine ok_pos (rbs ()) (ok_eq (kt_peek h (by omega)) ?_)
  have hr : 0 ≤ pkc T n p1 ∧ pkc T n p1 ≤ 126 := by
    unfold pkc
    split
    · have := h.2.2.2.2 p1.toNat (by omega)
      omega
    · omega
  refine ok_ck (inR_of (by omega)) (ok_bs ?_)
  rw [cS_I304, cS_I401]
  by_cases hd : p1 < n ∧ 1 ≤ T p1.toNat - 48 ∧ T p1.toNat - 48 ≤ 9 ∧ c + (T p1.toNat - 48) ≤ 12
  · have ed : Pdig T n c p1 = (some (T p1.toNat - 48), p1 + 1) := if_pos hd
    have ek : pkc T n p1 = T p1.toNat := if_pos hd.1
    rw [Pb_some' ed, ek]
    refine ok_neg (by omega) (ok_neg (by omega) (ok_ck (inR_of (by omega)) (ok_pos hd.2.2.2 (ok_ck (inR_of (by have := h.2.2.2.1; omega)) (ok_bs ?_)))))
    rw [cS_I401w]
    refine ok_bs ?_
    rw [cS_I406w]
    refine ok_bs ?_
    rw [cS_I304, cS_I407w]
    refine ok_bs ?_
    rw [cS_I408w]
    refine ok_eq (kt_take h (by omega) 44) (ok_ck (rb_01 _) (ok_some ?_))
    cases e2 : (Pt T n 44 (p1 + 1)).1 with
    | none =>
      rw [Pb_none e2]
      exact ⟨rfl, _, _, _, rfl, fun t ht => by cases ht⟩
    | some x2 =>
      rw [Pb_some e2]
      exact ⟨rfl, _, _, _, rfl, fun t ht => ⟨rfl, rfl, Option.some.inj ht, by have := Option.some.inj ht; omega⟩⟩
  · have ed : Pdig T n c p1 = (none, p1) := if_neg hd
    rw [Pb_none' ed]
    refine ok_if (fun g1 => ok_some ⟨rfl, _, _, _, rfl, fun t ht => by cases ht⟩) (fun g1 => ok_if (fun g2 => ok_some ⟨rfl, _, _, _, rfl, fun t ht => by cases ht⟩) (fun g2 => ok_ck (inR_of (by omega)) (ok_neg ?_ (ok_some ⟨rfl, _, _, _, rfl, fun t ht => by cases ht⟩))))
    intro g3
    by_cases hl : p1 < n
    · have ek : pkc T n p1 = T p1.toNat := if_pos hl
      rw [ek] at g1 g2 g3
      exact hd ⟨hl, by omega, by omega, by omega⟩
    · have ek : pkc T n p1 = 0 := if_neg hl
      omega
theorem kt_leave : f_X4_leaveRepeat (cS b p k ir fi ti c u D) = some (cS b p k 0 0 1 c u D) := by
  refine of_ok ?_
  unfold f_X4_leaveRepeat
  refine ok_bs ?_
  rw [cS_I406w]
  refine ok_bs ?_
  rw [cS_I407w]
  refine ok_bs ?_
  rw [cS_I408w]
  exact ok_some rfl
theorem kt_rep_14 (len : Int) (hlen : 1 ≤ len) : ∀ (m N : Nat) (c : Int) (D : Dr), m < N → len ≤ c → c + m ≤ 12 → f_X3_repeatFrom_14 2 (fun s6 => some s6) N len (m : Int) (cS b p k ir fi ti c u D) = some (cS b p k ir fi ti (c + m) u (repD len m c D))
  | 0, N + 1, c, D, h1, h2, h3 => by
    rw [f_X3_repeatFrom_14, if_pos (by omega), show c + ((0 : Nat) : Int) = c by omega]
    rfl
  | m + 1, N + 1, c, D, h1, h2, h3 => by
    refine of_ok ?_
    rw [f_X3_repeatFrom_14]
    refine ok_neg (by omega) ?_
    rw [cS_I304]
    refine ok_ck (inR_of (by omega)) (ok_bs (ok_ck (by omega) (ok_ck (by omega) (ok_ck (by omega) (ok_ck (by omega) ?_)))))
    rw [cS_A300, cS_B301, cS_A302, cS_B303]
    refine ok_eq (kt_add (by omega) (by omega) _ _ _ _) (ok_ck (inR_of (by omega)) ?_)
    rw [show ((m + 1 : Nat) : Int) + -1 = (m : Int) by omega]
    refine ok_of (kt_rep_14 len hlen m N (c + 1) _ (by omega) (by omega) (by omega)) ?_
    rw [show c + 1 + (m : Int) = c + ((m + 1 : Nat) : Int) by omega]
    rfl
theorem kt_rep (h : Jx ir fi ti c) : f_X3_repeatFrom 2 fi ti (cS b p k ir fi ti (c + 1) u D) = some (cS b p k ir fi ti (fi + ti * (c + 1 - fi)) u (repD (c + 1 - fi) ((c + 1 - fi) * (ti - 1)).toNat (c + 1) D)) := by
  obtain ⟨r1, r2, r3, r4⟩ := Jx_rep h
  have h1 := Jx_c h
  obtain ⟨-, g1, g2, g3, g4, g5⟩ := h
  refine of_ok ?_
  unfold f_X3_repeatFrom
  rw [cS_I304]
  refine ok_ck (inR_of (by omega)) (ok_bs (ok_ck (inR_of (by omega)) (ok_ck (inR_of (by omega)) (ok_bs ?_))))
  have hm : (((c + 1 - fi) * (ti - 1)).toNat : Int) = (c + 1 - fi) * (ti - 1) := Int.toNat_of_nonneg r4
  have e := kt_rep_14 (b := b) (p := p) (k := k) (ir := ir) (fi := fi) (ti := ti) (u := u) (c + 1 - fi) (by omega) ((c + 1 - fi) * (ti - 1)).toNat 400 (c + 1) D (by omega) (by omega) (by omega)
  rw [hm, r3] at e
  exact ok_of e rfl
theorem kt_may (h1 : 0 ≤ fi) (h2 : fi ≤ c) (h3 : 1 ≤ ti) (h4 : ti ≤ 9) (h5 : c ≤ 12) : f_X4_mayHaveOneMore (cS b p k ir fi ti c u D) = some (if 12 < fi + ti * (c - fi + 1) then 0 else 1, cS b p k ir fi ti c u D) := by
  refine of_ok ?_
  have hm := mul_rng (x := c - fi + 1) h3 h4 (by omega) (by omega)
  unfold f_X4_mayHaveOneMore f_X4_mayHaveOneMore_36
  rw [cS_I304, cS_I407, cS_I408]
  refine ok_ck (inR_of (by omega)) (ok_ck (inR_of (by omega)) (ok_bs (ok_ck (inR_of (by omega)) (ok_ck (inR_of (by omega)) ?_))))
  refine ok_if (fun q => ?_) (fun q => ?_)
  · rw [if_pos q]
    exact ok_ck (Or.inl rfl) (ok_some rfl)
  · rw [if_neg q]
    exact ok_ck (Or.inr rfl) (ok_some rfl)
noncomputable abbrev k113 : pS → Option (Int × pS) := fun s4 => (if (sI s4 406 0) ≠ 0 then f_X4_readText_125 0 s4 else f_X4_readText_125 1 s4)
theorem kt_tail (h : CB b T n) (hp : 0 ≤ p) {K27 : Int → pS → Option (Int × pS)} {K150 : pS → Option (Int × pS)} {x1 : Int} (hx : 0 ≤ x1 ∧ x1 < 12) {go : Int → Int → Int → Int → Dr → PR (Int × Dr)} (h0 : ir = 0 ∨ ir = 1) (h1 : 0 ≤ fi) (h2 : fi ≤ c) (h3 : 1 ≤ ti) (h4 : ti ≤ 9) (h5 : c ≤ 12)
    (hgo : Jx ir fi ti c → ∀ p', 0 ≤ p' → ok (K27 (x1 + 1) (cS b p' k ir fi ti c u D)) (ctx b (go ir fi ti c D p'))) : ok (f_X4_readText_102 K27 k113 (fun s6 => f_X4_readText_142 s6) K150 x1 (cS b p k ir fi ti c u D)) (ctx b (Ptail T n go ir fi ti c D p)) := by
  unfold f_X4_readText_102 Ptail
  rw [cS_I401, cS_403, h.1]
  by_cases hl : p < n
  · rw [if_neg (show ¬ n ≤ p by omega)]
    refine ok_pos hl (ok_eq (kt_may h1 h2 h3 h4 h5) ?_)
    by_cases hm : 12 < fi + ti * (c - fi + 1)
    · rw [if_pos hm, if_pos hm]
      refine ok_pos rfl ?_
      exact ok_some ⟨rfl, _, _, _, _, _, _, _, rfl, fun t ht => by cases ht⟩
    · rw [if_neg hm, if_neg hm]
      refine ok_neg (show ¬ (1 : Int) = 0 by decide) (ok_eq (kt_take h hp 32) ?_)
      by_cases hs : p < n ∧ T p.toNat = 32
      · rw [Pb_some' (Pt_y hs), Pt_y hs]
        refine ok_pos (rbs ()) (ok_ck (inR_of (by omega)) ?_)
        exact hgo ⟨h0, h1, h2, h3, h4, by omega⟩ (p + 1) (by omega)
      · rw [Pb_none' (Pt_n hs), Pt_n hs]
        refine ok_neg (rbn (α := Unit)) ?_
        exact ok_some ⟨rfl, _, _, _, _, _, _, _, rfl, fun t ht => by cases ht⟩
  · rw [if_pos (show n ≤ p by omega)]
    refine ok_neg hl ?_
    unfold k113 f_X4_readText_125
    rw [cS_I406]
    refine ok_if (fun q => ?_) (fun q => ?_)
    · rw [if_pos q]
      exact ok_ck (Or.inl rfl) (ok_some ⟨rfl, _, _, _, _, _, _, _, rfl, fun t ht => by cases ht⟩)
    · rw [if_neg q]
      exact ok_ck (Or.inr rfl) (ok_some ⟨rfl, _, _, _, _, _, _, _, rfl, fun t ht => Option.some.inj ht⟩)
/-- what stands behind the head of a step -/
noncomputable def Pstep (T : Nat → Int) (n : Int) (go : Int → Int → Int → Int → Dr → PR (Int × Dr)) (c : Int) (D : Dr) (e : Int × Int × Int) : PR (Int × Dr) := Pb (Ptrack T n) (fun t =>
      if e.1 ≠ 0 then Pc T n 41 (Ptail T n go 0 0 1 (e.2.1 + e.2.2 * (c + 1 - e.2.1)) (repD (c + 1 - e.2.1) ((c + 1 - e.2.1) * (e.2.2 - 1)).toNat (c + 1) (upD D c t))) (Ptail T n go e.1 e.2.1 e.2.2 (c + 1) (upD D c t))
      else Ptail T n go e.1 e.2.1 e.2.2 (c + 1) (upD D c t))
theorem kt_step (h : CB b T n) (hp : 0 ≤ p) (hJ : Jx ir fi ti c) {K27 : Int → pS → Option (Int × pS)} {K150 : pS → Option (Int × pS)} {x1 : Int} (hx : 0 ≤ x1 ∧ x1 < 12) {go : Int → Int → Int → Int → Dr → PR (Int × Dr)}
    (hgo : ∀ ir fi ti c, Jx ir fi ti c → ∀ p', 0 ≤ p' → ∀ k u D, ok (K27 (x1 + 1) (cS b p' k ir fi ti c u D)) (ctx b (go ir fi ti c D p'))) : ok (f_X4_readText_58 K27 k113 (fun s6 => f_X4_readText_142 s6) K150 x1 (cS b p k ir fi ti c u D)) (ctx b (Pstep T n go c D (ir, fi, ti) p)) := by
  have hc := Jx_c hJ
  obtain ⟨r1, r2, r3, r4⟩ := Jx_rep hJ
  obtain ⟨j0, j1, j2, j3, j4, j5⟩ := id hJ
  unfold f_X4_readText_58 Pstep
  refine ok_seq (kt_track h hp hc.1 (by omega)) (fun q hq => ?_)
  obtain ⟨a1, k', u', c', D', a2, a3⟩ := hq
  have m1 := Ptrack_mono T n p
  rw [a1, a2]
  cases e1 : (Ptrack T n p).1 with
  | none =>
    rw [Pb_none e1]
    exact ok_neg (rbn (α := Unit)) (ok_some ⟨rfl, _, _, _, _, _, _, _, rfl, fun t ht => by cases ht⟩)
  | some t =>
  obtain ⟨a4, a5⟩ := a3 t e1
  rw [Pb_some e1, a4, a5]
  generalize (Ptrack T n p).2 = p1 at m1 ⊢
  refine ok_pos (rbs ()) ?_
  rw [cS_I406]
  refine ok_if (fun q0 => ?_) (fun q0 => ?_)
  · rw [if_neg (show ¬ (ir, fi, ti).1 ≠ 0 from fun q => q q0)]
    exact kt_tail h (by omega) hx j0 j1 (by omega) j3 j4 (by omega) (fun hj p' hp' => hgo _ _ _ _ hj p' hp' _ _ _)
  · rw [if_pos (show (ir, fi, ti).1 ≠ 0 from q0)]
    refine ok_eq (kt_take h (by omega) 41) ?_
    by_cases hs : p1 < n ∧ T p1.toNat = 41
    · rw [Pc_y hs, Pt_y hs]
      refine ok_neg (rbs ()) ?_
      rw [cS_I407, cS_I408]
      refine ok_eq (kt_rep hJ) (ok_eq kt_leave ?_)
      exact kt_tail h (by omega) hx (Or.inl rfl) (by omega) r1 (by omega) (by omega) r2 (fun hj p' hp' => hgo _ _ _ _ hj p' hp' _ _ _)
    · rw [Pc_n hs, Pt_n hs]
      refine ok_pos rfl ?_
      exact kt_tail h (by omega) hx j0 j1 (by omega) j3 j4 (by omega) (fun hj p' hp' => hgo _ _ _ _ hj p' hp' _ _ _)
theorem kt_loop (h : CB b T n) : ∀ (m N : Nat) (x1 p k ir fi ti c : Int) (u : UInt32) (D : Dr), m < N → x1 + m = 12 → 0 ≤ x1 → 0 ≤ p → Jx ir fi ti c → ok (f_X4_readText_27 k113 (fun s6 => f_X4_readText_142 s6) (fun s7 => some (0, s7)) N x1 (cS b p k ir fi ti c u D)) (ctx b (Ploop T n m ir fi ti c D p))
  | 0, N + 1, x1, p, k, ir, fi, ti, c, u, D, hN, hx, hx0, hp, hJ => by
    rw [f_X4_readText_27]
    exact ok_pos (by omega) (ok_some ⟨rfl, _, _, _, _, _, _, _, rfl, fun t ht => by cases ht⟩)
  | m + 1, N + 1, x1, p, k, ir, fi, ti, c, u, D, hN, hx, hx0, hp, hJ => by
    have go : ∀ ir fi ti c, Jx ir fi ti c → ∀ p', 0 ≤ p' → ∀ k u D, ok (f_X4_readText_27 k113 (fun s6 => f_X4_readText_142 s6) (fun s7 => some (0, s7)) N (x1 + 1) (cS b p' k ir fi ti c u D)) (ctx b (Ploop T n m ir fi ti c D p')) :=
      fun ir fi ti c hj p' hp' k u D => kt_loop h m N (x1 + 1) p' k ir fi ti c u D (by omega) (by omega) (by omega) hp' hj
    have hc := Jx_c hJ
    rw [f_X4_readText_27]
    refine ok_neg (by omega) ?_
    rw [cS_I406]
    show ok _ (ctx b (Pb (Phead T n ir fi ti c) (Pstep T n (Ploop T n m) c D) p))
    unfold Phead
    refine ok_if (fun q0 => ?_) (fun q0 => ?_)
    · rw [if_pos q0, show Pb (Pp (ir, fi, ti)) (Pstep T n (Ploop T n m) c D) p = Pstep T n (Ploop T n m) c D (ir, fi, ti) p from rfl]
      exact kt_step h hp hJ (by omega) go
    · rw [if_neg q0]
      refine ok_eq (kt_peek h hp) ?_
      by_cases h1 : p < n ∧ T p.toNat = 114
      · refine ok_neg (show ¬ pkc T n p ≠ 114 from fun q => q ((pkc_eq (by decide)).mpr h1)) ?_
        refine ok_seq (kt_ent h hp hc.1 (by omega)) (fun q hq => ?_)
        obtain ⟨a1, i1, i2, i3, a2, a3⟩ := hq
        have m1 : p ≤ (Pent T n c p).2 := mono_of (Loc_ent (Int.le_refl n)) p
        rw [a1, a2]
        cases e1 : (Pent T n c p).1 with
        | none =>
          have ez : Pi T n 114 (Pb (Pent T n c) (fun t => Pp (1, c, t))) (Pp (ir, fi, ti)) p = ((none, (Pent T n c p).2) : Option (Int × Int × Int) × Int) := by
            rw [Pi_y h1, Pb_none e1]
          rw [Pb_none' ez]
          exact ok_neg (rbn (α := Unit)) (ok_some ⟨rfl, _, _, _, _, _, _, _, rfl, fun t ht => by cases ht⟩)
        | some t =>
          obtain ⟨b1, b2, b3, b4, b5, b6⟩ := a3 t e1
          have ez : Pi T n 114 (Pb (Pent T n c) (fun t => Pp (1, c, t))) (Pp (ir, fi, ti)) p = ((some (1, c, t), (Pent T n c p).2) : Option (Int × Int × Int) × Int) := by
            rw [Pi_y h1, Pb_some e1]
            rfl
          rw [Pb_some' ez, b1, b2, b3]
          refine ok_pos (rbs ()) ?_
          refine kt_step h (by omega) ⟨Or.inr rfl, hc.1, Int.le_refl _, b4, b5, ?_⟩ (by omega) go
          rw [Int.sub_self, Int.zero_add, Int.mul_one]
          exact b6
      · have ez : Pi T n 114 (Pb (Pent T n c) (fun t => Pp (1, c, t))) (Pp (ir, fi, ti)) p = ((some (ir, fi, ti), p) : Option (Int × Int × Int) × Int) := by
          rw [Pi_n h1]
          rfl
        rw [Pb_some' ez]
        refine ok_pos (show pkc T n p ≠ 114 from fun q => h1 ((pkc_eq (by decide)).mp q)) ?_
        exact kt_step h hp hJ (by omega) go

theorem kt_fill300 (v : Int) (A : Nat → Int) : ∀ (N j : Nat), j ≤ 12 → 12 < N + j → f_fillI_300_5 2 (fun s1 => some s1) N v (j : Int) 12 (cS b p k ir fi ti c u (flE (fun t => t) (fun _ => v) A j, D.2)) = some (cS b p k ir fi ti c u (flE (fun t => t) (fun _ => v) A 12, D.2))
  | 0, j, h1, h2 => by omega
  | N + 1, j, h1, h2 => by
    refine of_ok ?_
    rw [f_fillI_300_5]
    by_cases hj : j = 12
    · subst hj
      exact ok_pos (by omega) (ok_some rfl)
    · refine ok_neg (by omega) (ok_ck (by omega) (ok_bs ?_))
      rw [cS_A300, cS_A300w, nnat]
      refine ok_ck (inR_of (by omega)) (ok_of (kt_fill300 v A N (j + 1) (by omega) (by omega)) rfl)
theorem kt_fill301 (v : UInt32) (A : Nat → UInt32) : ∀ (N j : Nat), j ≤ 12 → 12 < N + j → f_fillF_301_5 2 (fun s1 => some s1) N v (j : Int) 12 (cS b p k ir fi ti c u (D.1, flE (fun t => t) (fun _ => v) A j, D.2.2)) = some (cS b p k ir fi ti c u (D.1, flE (fun t => t) (fun _ => v) A 12, D.2.2))
  | 0, j, h1, h2 => by omega
  | N + 1, j, h1, h2 => by
    refine of_ok ?_
    rw [f_fillF_301_5]
    by_cases hj : j = 12
    · subst hj
      exact ok_pos (by omega) (ok_some rfl)
    · refine ok_neg (by omega) (ok_ck (by omega) (ok_bs ?_))
      rw [cS_B301, cS_B301w, nnat]
      refine ok_ck (inR_of (by omega)) (ok_of (kt_fill301 v A N (j + 1) (by omega) (by omega)) rfl)
theorem kt_fill302 (v : Int) (A : Nat → Int) : ∀ (N j : Nat), j ≤ 12 → 12 < N + j → f_fillI_302_5 2 (fun s1 => some s1) N v (j : Int) 12 (cS b p k ir fi ti c u (D.1, D.2.1, flE (fun t => t) (fun _ => v) A j, D.2.2.2)) = some (cS b p k ir fi ti c u (D.1, D.2.1, flE (fun t => t) (fun _ => v) A 12, D.2.2.2))
  | 0, j, h1, h2 => by omega
  | N + 1, j, h1, h2 => by
    refine of_ok ?_
    rw [f_fillI_302_5]
    by_cases hj : j = 12
    · subst hj
      exact ok_pos (by omega) (ok_some rfl)
    · refine ok_neg (by omega) (ok_ck (by omega) (ok_bs ?_))
      rw [cS_A302, cS_A302w, nnat]
      refine ok_ck (inR_of (by omega)) (ok_of (kt_fill302 v A N (j + 1) (by omega) (by omega)) rfl)
theorem kt_fill303 (v : UInt32) (A : Nat → UInt32) : ∀ (N j : Nat), j ≤ 12 → 12 < N + j → f_fillF_303_5 2 (fun s1 => some s1) N v (j : Int) 12 (cS b p k ir fi ti c u (D.1, D.2.1, D.2.2.1, flE (fun t => t) (fun _ => v) A j)) = some (cS b p k ir fi ti c u (D.1, D.2.1, D.2.2.1, flE (fun t => t) (fun _ => v) A 12))
  | 0, j, h1, h2 => by omega
  | N + 1, j, h1, h2 => by
    refine of_ok ?_
    rw [f_fillF_303_5]
    by_cases hj : j = 12
    · subst hj
      exact ok_pos (by omega) (ok_some rfl)
    · refine ok_neg (by omega) (ok_ck (by omega) (ok_bs ?_))
      rw [cS_B303, cS_B303w, nnat]
      refine ok_ck (inR_of (by omega)) (ok_of (kt_fill303 v A N (j + 1) (by omega) (by omega)) rfl)
/-- the draft, cleared -/
def clD (D : Dr) : Dr := (flE (fun t => t) (fun _ => 3) D.1 12, flE (fun t => t) (fun _ => FP.fconst0) D.2.1 12, flE (fun t => t) (fun _ => 3) D.2.2.1 12, flE (fun t => t) (fun _ => FP.fconst0) D.2.2.2 12)
theorem kt_clear : f_X3_clear 2 (cS b p k ir fi ti c u D) = some (cS b p k ir fi ti 0 u (clD D)) := by
  refine of_ok ?_
  unfold f_X3_clear f_fillI_300 f_fillF_301 f_fillI_302 f_fillF_303
  refine ok_bs ?_
  rw [cS_I304w]
  refine ok_eq (kt_fill300 (D := D) 3 D.1 400 0 (by omega) (by omega)) ?_
  refine ok_eq (kt_fill301 (D := (flE (fun t => t) (fun _ => 3) D.1 12, D.2)) FP.fconst0 D.2.1 400 0 (by omega) (by omega)) ?_
  refine ok_eq (kt_fill302 (D := (flE (fun t => t) (fun _ => 3) D.1 12, flE (fun t => t) (fun _ => FP.fconst0) D.2.1 12, D.2.2)) 3 D.2.2.1 400 0 (by omega) (by omega)) ?_
  refine ok_eq (kt_fill303 (D := (flE (fun t => t) (fun _ => 3) D.1 12, flE (fun t => t) (fun _ => FP.fconst0) D.2.1 12, flE (fun t => t) (fun _ => 3) D.2.2.1 12, D.2.2.2)) FP.fconst0 D.2.2.2 400 0 (by omega) (by omega)) ?_
  exact ok_some rfl
theorem kt_text (h : CB b T n) : ok (f_X4_readText (cS b p k ir fi ti c u D)) (ctx b (Ptext T n (clD D))) := by
  unfold f_X4_readText Ptext
  refine ok_eq kt_clear (ok_bs ?_)
  rw [cS_I401w]
  refine ok_eq kt_leave ?_
  rw [cS_403, h.1]
  by_cases hn : n = 0
  · rw [if_pos hn]
    exact ok_neg (fun q => q hn) (ok_some ⟨rfl, _, _, _, _, _, _, _, rfl, fun t ht => Option.some.inj ht⟩)
  · rw [if_neg hn]
    refine ok_pos hn ?_
    exact kt_loop h 12 400 0 0 k 0 0 1 0 u (clD D) (by omega) (by omega) (by omega) (by omega) ⟨Or.inl rfl, by omega, by omega, by omega, by omega, by omega⟩
end
