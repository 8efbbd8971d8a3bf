/-! ===== THE REFERENCE'S READER: the whole text ===== -/
def DRel (c : Int) (E D : Dr) : Prop := ∀ j : Nat, (j : Int) < c → trel (D.1 j, D.2.1 j, D.2.2.1 j, D.2.2.2 j) (E.1 (24 + j)) (E.2.1 (24 + j)) (E.2.2.1 (24 + j)) (E.2.2.2 (24 + j))
def DFr (E0 E : Dr) : Prop := ∀ j : Nat, j < 24 → E.1 j = E0.1 j ∧ E.2.1 j = E0.2.1 j ∧ E.2.2.1 j = E0.2.2.1 j ∧ E.2.2.2 j = E0.2.2.2 j
theorem DRel_up {c : Int} {E D : Dr} {t x : Tk} (hc : 0 ≤ c) (h : DRel c E D) (ht : trel t x.1 x.2.1 x.2.2.1 x.2.2.2) : DRel (c + 1) (upD E (24 + c) x) (upD D c t) := by
  intro j hj
  unfold upD
  dsimp only
  rw [show (24 + c).toNat = 24 + c.toNat by omega]
  by_cases e : j = c.toNat
  · subst e
    rw [up_eq, up_eq, up_eq, up_eq, up_eq, up_eq, up_eq, up_eq]
    exact ht
  · rw [up_ne _ _ e, up_ne _ _ e, up_ne _ _ e, up_ne _ _ e, up_ne _ _ (show 24 + j ≠ 24 + c.toNat by omega), up_ne _ _ (show 24 + j ≠ 24 + c.toNat by omega), up_ne _ _ (show 24 + j ≠ 24 + c.toNat by omega), up_ne _ _ (show 24 + j ≠ 24 + c.toNat by omega)]
    exact h j (by omega)
theorem DFr_up {c : Int} {E0 E : Dr} {x : Tk} (hc : 0 ≤ c) (h : DFr E0 E) : DFr E0 (upD E (24 + c) x) := by
  intro j hj
  unfold upD
  dsimp only
  have e : j ≠ (24 + c).toNat := by omega
  rw [up_ne _ _ e, up_ne _ _ e, up_ne _ _ e, up_ne _ _ e]
  exact h j hj
theorem DRel_rep (len : Int) (h1 : 1 ≤ len) : ∀ (r : Nat) (c : Int) (E D : Dr), len ≤ c → DRel c E D → DRel (c + r) (repD len r (24 + c) E) (repD len r c D)
  | 0, c, E, D, hl, h => by
    rw [show c + ((0 : Nat) : Int) = c by omega]
    exact h
  | r + 1, c, E, D, hl, h => by
    have hn : 0 ≤ c := by omega
    have ht : trel (atD D (c - len)) (atD E (24 + c - len)).1 (atD E (24 + c - len)).2.1 (atD E (24 + c - len)).2.2.1 (atD E (24 + c - len)).2.2.2 := by
      have := h (c - len).toNat (by omega)
      unfold atD
      rw [show (24 + c - len).toNat = 24 + (c - len).toNat by omega]
      exact this
    have ih := DRel_rep len h1 r (c + 1) _ _ (by omega) (DRel_up hn h ht)
    rw [show c + 1 + (r : Int) = c + ((r + 1 : Nat) : Int) by omega, show 24 + (c + 1) = 24 + c + 1 by omega] at ih
    exact ih
theorem DFr_rep (len : Int) {E0 : Dr} : ∀ (r : Nat) (c : Int) (E : Dr), 0 ≤ c → DFr E0 E → DFr E0 (repD len r (24 + c) E)
  | 0, c, E, _, h => h
  | r + 1, c, E, hc, h => by
    have ih := DFr_rep len r (c + 1) (upD E (24 + c) (atD E (24 + c - len))) (by omega) (DFr_up hc h)
    rw [show 24 + (c + 1) = 24 + c + 1 by omega] at ih
    exact ih
def rtx (b : pS) (n : Int) (E0 : Dr) (r : Option (Int × Dr) × Int) (q : Int × pS) : Prop := ∃ p' st' rd' kd' lk' hk' nu' lu' hu' E', q.2 = rS b p' n st' rd' kd' lk' hk' nu' lu' hu' E' ∧ DFr E0 E' ∧ ((q.1 = 2 ∧ ∃ v, r.1 = some v ∧ rd' = v.1 ∧ DRel v.1 E' v.2) ∨ (r.1 = none ∧ q.1 = fz n r.2))
noncomputable abbrev kr93 : pS → Option (Int × pS) := fun s4 => f_X6_reads_93 s4
noncomputable abbrev kr116 : pS → Option (Int × pS) := fun s5 => some (1, s5)
noncomputable abbrev kr166 : pS → Option (Int × pS) := fun s10 => bs (wI s10 611 0 0) (fun s11 => some (0, s11))
noncomputable abbrev kr288 : Int → Int → Int → pS → Option (Int × pS) := fun x1 x2 x4 s16 => ck (inR (x1 * x4)) (ck (inR (x2 + (x1 * x4))) (bs (wI s16 612 0 (x2 + (x1 * x4))) (fun s19 => some (1, s19))))
noncomputable abbrev kr173 : Int → Int → pS → Option (Int × pS) := fun x1 x2 s12 => (f_X6_takes 41 s12).bind (fun q13 => (if q13.1 ≠ 0 then ck (inR ((sI q13.2 612 0) - x2)) (bs (((sI q13.2 612 0) - x2)) (fun v15 => f_X6_readRepeat_196 kr288 400 x1 x2 v15 v15 q13.2)) else some (0, q13.2)))
/-- what follows a repeat -/
noncomputable abbrev kRR (N : Nat) : Int × pS → Option (Int × pS) := fun q6 => (if q6.1 ≠ 0 then f_X6_reads_62 (f_X6_reads_21 kr93 kr116 N) kr93 kr116 q6.2 else some ((sI q6.2 611 0), q6.2))
section
variable {b : pS} {T : Nat → Int} {n p st rd kd lk hk : Int} {nu lu hu : UInt32} {E E0 D : Dr}
theorem k6_keep (h1 : 0 ≤ rd) (h2 : rd < 12) : f_X6_keep (rS b p n st rd kd lk hk nu lu hu E) = some (rS b p n st (rd + 1) kd lk hk nu lu hu (upD E (24 + rd) (lk, lu, hk, hu))) := by
  refine of_ok ?_
  unfold f_X6_keep
  rw [rS_I612]
  refine ok_ck (inR_of (by omega)) (ok_bs (ok_ck (by omega) (ok_bs ?_)))
  rw [rS_A605, rS_I615, rS_A605w]
  refine ok_ck (by omega) (ok_bs ?_)
  rw [rS_A606, rS_I616, rS_A606w]
  refine ok_ck (by omega) (ok_bs ?_)
  rw [rS_B607, rS_F617, rS_B607w]
  refine ok_ck (by omega) (ok_bs ?_)
  rw [rS_B608, rS_F618, rS_B608w, rS_I612]
  refine ok_ck (inR_of (by omega)) (ok_bs ?_)
  rw [rS_I612w]
  exact ok_some rfl
theorem k6_rep_196 (x1 x2 x4 : Int) (g1 : 1 ≤ x1) (g2 : x1 ≤ 9) (g3 : 0 ≤ x2) (g4 : 1 ≤ x4) (g5 : x2 + x1 * x4 ≤ 12) (hx : 0 ≤ x1 * x4) : ∀ (r N : Nat) (x5 : Int) (E : Dr), r < N → x5 + r = x1 * x4 → x4 ≤ x5 → f_X6_readRepeat_196 kr288 N x1 x2 x4 x5 (rS b p n st rd kd lk hk nu lu hu E) = some (1, rS b p n st (x2 + x1 * x4) kd lk hk nu lu hu (repD x4 r (24 + (x2 + x5)) E))
  | 0, N + 1, x5, E, hN, h1, h2 => by
    refine of_ok ?_
    rw [f_X6_readRepeat_196]
    refine ok_ck (inR_of (by omega)) (ok_pos (by omega) ?_)
    refine ok_ck (inR_of (by omega)) (ok_ck (inR_of (by omega)) (ok_bs ?_))
    rw [rS_I612w]
    exact ok_some rfl
  | r + 1, N + 1, x5, E, hN, h1, h2 => by
    refine of_ok ?_
    rw [f_X6_readRepeat_196]
    refine ok_ck (inR_of (by omega)) (ok_neg (by omega) ?_)
    refine ok_ck (inR_of (by omega)) (ok_ck (inR_of (by omega)) (ok_bs (ok_ck (inR_of (by omega)) (ok_ck (by omega) (ok_ck (by omega) (ok_bs ?_))))))
    rw [rS_A605, rS_A605w]
    refine ok_ck (inR_of (by omega)) (ok_ck (by omega) (ok_ck (by omega) (ok_bs ?_)))
    rw [rS_A606, rS_A606w]
    refine ok_ck (inR_of (by omega)) (ok_ck (by omega) (ok_ck (by omega) (ok_bs ?_)))
    rw [rS_B607, rS_B607w]
    refine ok_ck (inR_of (by omega)) (ok_ck (by omega) (ok_ck (by omega) (ok_bs ?_)))
    rw [rS_B608, rS_B608w]
    refine ok_ck (inR_of (by omega)) ?_
    refine ok_of (k6_rep_196 x1 x2 x4 g1 g2 g3 g4 g5 hx r N (x5 + 1) _ (by omega) (by omega) (by omega)) ?_
    rw [show 24 + (x2 + (x5 + 1)) = 24 + (x2 + x5) + 1 by omega]
    show _ = (1, rS b p n st (x2 + x1 * x4) kd lk hk nu lu hu (repD x4 r (24 + (x2 + x5) + 1) (upD E (24 + (x2 + x5)) (atD E (24 + (x2 + x5) - x4)))))
    rw [show 24 + (x2 + x5) = 24 + x2 + x5 by omega]
    rfl
theorem Ptrack_end {p : Int} (hp : n ≤ p) : Ptrack T n p = (none, p) := by
  have hn : ∀ c, ¬ (p < n ∧ T p.toNat = c) := fun c q => by omega
  have e1 : Pplain T n p = (none, p) := by
    unfold Pplain
    rw [Pi_n (hn _), Pc_n (hn _), Pb_none' (Pnum_let (fun q => by omega))]
  unfold Ptrack
  rw [Pi_n (hn _), Pb_none' e1]
theorem Ploop_end {p : Int} (hp : n ≤ p) (m : Nat) (c : Int) (D : Dr) : Ploop T n (m + 1) 0 0 1 c D p = (none, p) := by
  have hn : ∀ c, ¬ (p < n ∧ T p.toNat = c) := fun c q => by omega
  have e1 : Phead T n 0 0 1 c p = (some (0, 0, 1), p) := by
    unfold Phead
    rw [if_neg (show ¬ (0 : Int) ≠ 0 by decide), Pi_n (hn _)]
    rfl
  show Pb (Phead T n 0 0 1 c) (Pstep T n (Ploop T n m) c D) p = _
  rw [Pb_some' e1]
  unfold Pstep
  rw [Pb_none' (Ptrack_end hp)]
/-- a letter behind a track: nothing goes past it -/
theorem Ptail_let {go : Int → Int → Int → Int → Dr → PR (Int × Dr)} {ir fi ti c p : Int} (h1 : p < n) (h2 : 97 ≤ T p.toNat) (h3 : T p.toNat ≤ 122) : Ptail T n go ir fi ti c D p = (none, p) := by
  unfold Ptail
  rw [if_neg (show ¬ n ≤ p by omega)]
  split
  · rfl
  · exact Pb_none' (Pt_let (by decide) h2 h3)
theorem R0 {P : Int × pS → Prop} {s : pS} (N : Nat) (h : P (sI s 611 0, s)) : ok (kRR N (0, s)) P := ok_neg (show ¬ (0 : Int) ≠ 0 by decide) (ok_some h)
/-- behind a track outside of a repeat, or behind a repeat -/
theorem k6_tail (h : RB b T n) (hp : 0 ≤ p) (hpn : p ≤ n) (hc : 0 ≤ rd) (hc2 : rd ≤ 12) (hD : DRel rd E D) (hF : DFr E0 E) {m N : Nat} (hm : 12 ≤ rd + m)
    (ih : ∀ (p st rd kd lk hk : Int) (nu lu hu : UInt32) (E D : Dr), 0 ≤ p → p < n → 0 ≤ rd → rd ≤ 11 → 12 ≤ rd + m → DRel rd E D → DFr E0 E → ok (f_X6_reads_21 kr93 kr116 N (rS b p n st rd kd lk hk nu lu hu E)) (rtx b n E0 (Ploop T n m 0 0 1 rd D p))) :
    ok (f_X6_reads_62 (f_X6_reads_21 kr93 kr116 N) kr93 kr116 (rS b p n st rd kd lk hk nu lu hu E)) (rtx b n E0 (Ptail T n (Ploop T n m) 0 0 1 rd D p)) := by
  have h40 := h.2.2.1
  unfold f_X6_reads_62 Ptail kr93 kr116 f_X6_reads_93
  rw [rS_I609, rS_I610]
  by_cases he : p = n
  · rw [if_pos (show n ≤ p by omega), if_neg (show ¬ (0 : Int) ≠ 0 by decide)]
    exact ok_neg (fun q => q he) (ok_some ⟨_, _, _, _, _, _, _, _, _, _, rfl, hF, Or.inl ⟨rfl, _, rfl, rfl, hD⟩⟩)
  · rw [if_neg (show ¬ n ≤ p by omega)]
    refine ok_pos he (ok_eq (k6_now h hp) ?_)
    by_cases hs : p < n ∧ T p.toNat = 32
    · refine ok_neg (fun q => q ((nwc_eq (by decide)).mpr hs)) ?_
      rw [rS_I612]
      by_cases h12 : rd = 12
      · rw [if_pos (show 12 < 0 + 1 * (rd - 0 + 1) by omega)]
        exact ok_neg (fun q => q h12) (ok_some ⟨_, _, _, _, _, _, _, _, _, _, rfl, hF, Or.inr ⟨rfl, (fz_lt (by omega)).symm⟩⟩)
      · rw [if_neg (show ¬ 12 < 0 + 1 * (rd - 0 + 1) by omega), Pb_some' (Pt_y hs)]
        refine ok_pos h12 ?_
        rw [rS_I609]
        refine ok_ck (inR_of (by omega)) (ok_bs ?_)
        rw [rS_I609w, rS_I609, rS_I610]
        by_cases h1 : p + 1 = n
        · cases m with
          | zero => omega
          | succ m =>
            rw [Ploop_end (by omega)]
            refine ok_neg (fun q => q h1) (ok_some ⟨_, _, _, _, _, _, _, _, _, _, rfl, hF, Or.inr ⟨rfl, ?_⟩⟩)
            show (1 : Int) = fz n (p + 1)
            exact (if_pos h1).symm
        · exact ok_pos h1 (ih (p + 1) _ _ _ _ _ _ _ _ _ D (by omega) (by omega) hc (by omega) hm hD hF)
    · refine ok_pos (fun q => hs ((nwc_eq (by decide)).mp q)) (ok_some ⟨_, _, _, _, _, _, _, _, _, _, rfl, hF, Or.inr ?_⟩)
      by_cases h12 : 12 < 0 + 1 * (rd - 0 + 1)
      · rw [if_pos h12]
        exact ⟨rfl, (fz_lt (by omega)).symm⟩
      · rw [if_neg h12, Pb_none' (Pt_n hs)]
        exact ⟨rfl, (fz_lt (by omega)).symm⟩
/-- inside of a repeat -/
theorem k6_inner (h : RB b T n) {m N : Nat} 
    (ihA : ∀ (p st rd kd lk hk : Int) (nu lu hu : UInt32) (E D : Dr), 0 ≤ p → p < n → 0 ≤ rd → rd ≤ 11 → 12 ≤ rd + m → DRel rd E D → DFr E0 E → ok (f_X6_reads_21 kr93 kr116 N (rS b p n st rd kd lk hk nu lu hu E)) (rtx b n E0 (Ploop T n m 0 0 1 rd D p)))
    {N2 : Nat} (ihB : ∀ (fi ti p st rd kd lk hk : Int) (nu lu hu : UInt32) (E D : Dr), 0 ≤ p → p ≤ n → Jx 1 fi ti rd → 12 ≤ rd + m → DRel rd E D → DFr E0 E → ok (f_X6_readRepeat_102 kr166 kr173 N2 ti fi 1 (rS b p n st rd kd lk hk nu lu hu E)) (fun q => ok (kRR N q) (rtx b n E0 (Ploop T n m 1 fi ti rd D p))))
    (hN2 : 1 ≤ N2) {fi ti : Int} (hp : 0 ≤ p) (hpn : p ≤ n) (hJ : Jx 1 fi ti rd) (hm : 12 ≤ rd + (m + 1)) (hD : DRel rd E D) (hF : DFr E0 E) :
    ok (f_X6_readRepeat_102 kr166 kr173 (N2 + 1) ti fi 1 (rS b p n st rd kd lk hk nu lu hu E)) (fun q => ok (kRR N q) (rtx b n E0 (Pstep T n (Ploop T n m) rd D (1, fi, ti) p))) := by
  have h40 := h.2.2.1
  have hc := Jx_c hJ
  obtain ⟨r1, r2, r3, r4⟩ := Jx_rep hJ
  obtain ⟨j0, j1, j2, j3, j4, j5⟩ := id hJ
  rw [f_X6_readRepeat_102]
  refine ok_neg (show ¬ (1 : Int) = 0 by decide) (ok_seq (k6_track h hp hpn 1 (fun q => absurd q (by decide))) (fun q hq => ?_))
  obtain ⟨p1, st1, kd1, lk1, hk1, nu1, lu1, hu1, e1, ht⟩ := hq
  have m1 := Ptrack_mono T n p
  have m2 : (Ptrack T n p).2 ≤ n := ((Loc_track (Int.le_refl n)).1 p).2 hpn
  rw [e1]
  unfold Pstep
  rcases ht with ⟨g0, t, g1, g2, g3⟩ | ⟨g0, g1, g2⟩ | ⟨g0, ⟨t, g1⟩, g2, g3, g4, g5⟩
  · rw [g0, Pb_some g1]
    refine ok_pos (show (1 : Int) ≠ 0 by decide) ?_
    rw [if_pos (show ((1, fi, ti) : Int × Int × Int).1 ≠ 0 from (by show (1 : Int) ≠ 0; decide)), ← g2]
    rw [← g2] at m1 m2
    have hD' := DRel_up (x := (lk1, lu1, hk1, hu1)) hc.1 hD g3
    have hF' := DFr_up (x := (lk1, lu1, hk1, hu1)) hc.1 hF
    refine ok_eq (k6_keep hc.1 (by omega)) ?_
    refine ok_eq (k6_now h (by omega)) ?_
    by_cases hs : p1 < n ∧ T p1.toNat = 32
    · -- one more
      rw [Pc_n (fun q => by omega)]
      refine ok_neg (fun q => q ((nwc_eq (by decide)).mpr hs)) ?_
      unfold f_X6_readRepeat_134
      refine ok_neg (show ¬ (1 : Int) = 0 by decide) ?_
      rw [rS_I609]
      refine ok_ck (inR_of (by omega)) (ok_bs ?_)
      rw [rS_I609w, rS_I612]
      have hmr := mul_rng (x := rd + 1 - fi + 1) j3 j4 (by omega) (by omega)
      refine ok_ck (inR_of (by omega)) (ok_ck (inR_of (by omega)) (ok_ck (inR_of (by omega)) (ok_ck (inR_of (by omega)) ?_)))
      unfold Ptail
      rw [if_neg (show ¬ n ≤ p1 by omega)]
      refine ok_if (fun hk => ?_) (fun hk => ?_)
      · rw [if_neg (show ¬ 12 < (1, fi, ti).2.1 + (1, fi, ti).2.2 * (rd + 1 - (1, fi, ti).2.1 + 1) from (by show ¬ 12 < fi + ti * (rd + 1 - fi + 1); omega)), Pb_some' (Pt_y hs)]
        exact ihB fi ti (p1 + 1) _ (rd + 1) _ _ _ _ _ _ _ _ (by omega) (by omega) ⟨Or.inr rfl, j1, by omega, j3, j4, hk⟩ (by omega) hD' hF'
      · rw [if_pos (show 12 < (1, fi, ti).2.1 + (1, fi, ti).2.2 * (rd + 1 - (1, fi, ti).2.1 + 1) from (by show 12 < fi + ti * (rd + 1 - fi + 1); omega))]
        refine ok_bs ?_
        rw [rS_I611w]
        refine ok_some (R0 N ?_)
        rw [rS_I611]
        exact ⟨_, _, _, _, _, _, _, _, _, _, rfl, hF', Or.inr ⟨rfl, (fz_lt (by omega)).symm⟩⟩
    · refine ok_pos (fun q => hs ((nwc_eq (by decide)).mp q)) ?_
      unfold f_X6_readRepeat_134
      refine ok_pos rfl ?_
      obtain ⟨N3, rfl⟩ : ∃ N3, N2 = N3 + 1 := ⟨N2 - 1, by omega⟩
      rw [f_X6_readRepeat_102]
      refine ok_pos rfl ?_
      unfold kr173
      refine ok_eq (k6_takes h (by omega) (by omega) 41) ?_
      by_cases hb : p1 < n ∧ T p1.toNat = 41
      · rw [Pc_y hb, Pt_y hb]
        refine ok_pos (rbs ()) ?_
        rw [rS_I612]
        refine ok_ck (inR_of (by omega)) (ok_bs ?_)
        have hmul : ti * (rd + 1 - fi) = (rd + 1 - fi) + (rd + 1 - fi) * (ti - 1) := by omega
        have hr : (((rd + 1 - fi) * (ti - 1)).toNat : Int) = (rd + 1 - fi) * (ti - 1) := Int.toNat_of_nonneg r4
        refine ok_of (k6_rep_196 ti fi (rd + 1 - fi) j3 j4 j1 (by omega) (by omega) (by omega) ((rd + 1 - fi) * (ti - 1)).toNat 400 (rd + 1 - fi) _ (by omega) (by omega) (by omega)) ?_
        have hD2 := DRel_rep (rd + 1 - fi) (by omega) ((rd + 1 - fi) * (ti - 1)).toNat (rd + 1) _ _ (by omega) hD'
        have hF2 := DFr_rep (rd + 1 - fi) ((rd + 1 - fi) * (ti - 1)).toNat (rd + 1) _ (by omega) hF'
        rw [hr, r3] at hD2
        rw [show fi + (rd + 1 - fi) = rd + 1 by omega]
        refine ok_pos (show (1 : Int) ≠ 0 by decide) ?_
        exact k6_tail h (by omega) (by omega) r1 r2 hD2 hF2 (by omega) ihA
      · rw [Pc_n hb, Pt_n hb]
        refine ok_neg (rbn (α := Unit)) (ok_some (R0 N ?_))
        rw [rS_I611]
        refine ⟨_, _, _, _, _, _, _, _, _, _, rfl, hF', Or.inr ?_⟩
        show (Ptail T n (Ploop T n m) 1 fi ti (rd + 1) (upD D rd t) p1).1 = none ∧ fz n p1 = fz n (Ptail T n (Ploop T n m) 1 fi ti (rd + 1) (upD D rd t) p1).2
        unfold Ptail
        by_cases hl : n ≤ p1
        · rw [if_pos hl, if_pos (show (1 : Int) ≠ 0 by decide)]
          exact ⟨rfl, rfl⟩
        · rw [if_neg hl]
          split
          · exact ⟨rfl, rfl⟩
          · rw [Pb_none' (Pt_n hs)]
            exact ⟨rfl, rfl⟩
  · rw [g0, Pb_none g1]
    refine ok_neg (show ¬ (0 : Int) ≠ 0 by decide) (ok_some (R0 N ?_))
    rw [rS_I611]
    exact ⟨_, _, _, _, _, _, _, _, _, _, rfl, hF, Or.inr ⟨rfl, g2⟩⟩
  · rw [g0, Pb_some g1]
    rw [if_pos (show ((1, fi, ti) : Int × Int × Int).1 ≠ 0 from (by show (1 : Int) ≠ 0; decide)), Pc_n (fun q => by omega), Ptail_let g3 g4 g5]
    refine ok_neg (show ¬ (0 : Int) ≠ 0 by decide) (ok_some (R0 N ?_))
    rw [rS_I611]
    exact ⟨_, _, _, _, _, _, _, _, _, _, rfl, hF, Or.inr ⟨rfl, by rw [g2]; exact (fz_lt g3).symm⟩⟩
end
