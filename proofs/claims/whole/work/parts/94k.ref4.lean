/-! ===== THE REFERENCE'S READER: a track ===== -/
section
variable {b : pS} {T : Nat → Int} {n p st rd kd lk hk : Int} {nu lu hu : UInt32} {D : Dr}
/-- read, refused with the right word, or a letter stands behind it that nothing goes past -/
def rt3 (b : pS) (T : Nat → Int) (n rd : Int) (D : Dr) (r : Option Tk × Int) (q : Int × pS) : Prop := ∃ p' st' kd' lk' hk' nu' lu' hu', q.2 = rS b p' n st' rd kd' lk' hk' nu' lu' hu' D ∧ tri T n r q.1 st' (fun t => p' = r.2 ∧ trel t lk' lu' hk' hu')
theorem rt3_of {r : Option Tk × Int} {q : Int × pS} (h : rtk b n rd D r q) : rt3 b T n rd D r q := by
  obtain ⟨a1, a2, a3, a4, a5, a6, a7, a8, h1, h2⟩ := h
  refine ⟨a1, a2, a3, a4, a5, a6, a7, a8, h1, ?_⟩
  rcases h2 with h2 | h2
  · exact Or.inl h2
  · exact Or.inr (Or.inl h2)
theorem rt3_none {z : Int} {r : Option Tk × Int} {q : Int} (hr : r = (none, q)) {p' kd' lk' hk' : Int} {nu' lu' hu' : UInt32} {c : Prop} {dc : Decidable c} (hq : q = n ↔ c) (hz : z = 0) : rt3 b T n rd D r (z, rS b p' n (@ite _ c dc 1 0) rd kd' lk' hk' nu' lu' hu' D) := by
  refine ⟨_, _, _, _, _, _, _, _, rfl, Or.inr (Or.inl ⟨hz, by rw [hr], ?_⟩)⟩
  rw [hr]
  show _ = fz n q
  unfold fz
  by_cases hc : c
  · rw [if_pos hc, if_pos (hq.mpr hc)]
  · rw [if_neg hc, if_neg (fun e => hc (hq.mp e))]
theorem rt3_let {z : Int} {r : Option Tk × Int} {t : Tk} {q : Int} (hr : r = (some t, q)) {p' kd' lk' hk' : Int} {nu' lu' hu' : UInt32} {c : Prop} {dc : Decidable c} (hc : ¬ c) (hz : z = 0) (h1 : q < n) (h2 : 97 ≤ T q.toNat) (h3 : T q.toNat ≤ 122) : rt3 b T n rd D r (z, rS b p' n (@ite _ c dc 1 0) rd kd' lk' hk' nu' lu' hu' D) := by
  refine ⟨_, _, _, _, _, _, _, _, rfl, Or.inr (Or.inr ⟨hz, ⟨t, by rw [hr]⟩, if_neg hc, ?_⟩)⟩
  rw [hr]
  exact ⟨h1, h2, h3⟩
theorem Pend_w {k : Int} (h1 : k ≠ 0) (h2 : k ≠ 4) (q : Int) : Pend T n k FP.fconst0 q = (some (k, FP.fconst0, k, FP.fconst0), q) := by
  unfold Pend
  have e : Pshare T n k FP.fconst0 q = (some (k, FP.fconst0), q) := by
    unfold Pshare
    rw [if_pos h1]
    rfl
  rw [Pb_some' e, if_pos (show ((k, FP.fconst0) : Int × UInt32).1 ≠ 4 from h2)]
  rfl
theorem pair_of {q : Int × pS} {z : Int} {w : pS} (h1 : q.1 = z) (h2 : q.2 = w) : q = (z, w) := Prod.ext h1 h2
theorem k6_track (h : RB b T n) (hp : 0 ≤ p) (hpn : p ≤ n) (a : Int) (ha : a = 0 → ¬ (p < n ∧ T p.toNat = 114)) : ok (f_X6_readTrack a (rS b p n st rd kd lk hk nu lu hu D)) (rt3 b T n rd D (Ptrack T n p)) := by
  have h40 := h.2.2.1
  by_cases hl : p < n ∧ 97 ≤ T p.toNat ∧ T p.toNat ≤ 122
  · obtain ⟨ws, hR, hn⟩ := Run_ex T n (n - p).toNat p (by omega)
    have h0 : ws ≠ [] := fun e => by subst e; exact hR hl
    have hw := Run_lts hR
    have hstop := Run_stop hR
    cases hws : ws with
    | nil => exact absurd hws h0
    | cons x xs =>
    have hx : T p.toNat = x := by rw [hws] at hR; exact hR.2.1
    have hre : a = 0 → ¬ ws <+: wRe := fun e q => by
      rw [hws, List.cons_prefix_cons] at q
      exact ha e ⟨hl.1, by rw [hx]; exact q.1⟩
    have dT : ∀ c, T p.toNat = c ↔ x = c := fun c => by rw [hx]
    unfold Ptrack
    by_cases hf : x = 102
    · -- fit
      rw [Pi_y ⟨hl.1, by rw [hx]; exact hf⟩]
      unfold Pfit
      have nA : ws ≠ wAu := fun e => by rw [hws] at e; have := (List.cons.inj e).1; omega
      have nI : ws ≠ wMi := fun e => by rw [hws] at e; have := (List.cons.inj e).1; omega
      have nX : ws ≠ wMa := fun e => by rw [hws] at e; have := (List.cons.inj e).1; omega
      have nM : ws ≠ wMm := fun e => by rw [hws] at e; have := (List.cons.inj e).1; omega
      have hpre : preA a ws ↔ ws <+: wFi := by
        constructor
        · intro q
          rcases q with q | q | q | q
          · rw [hws, hf] at q
            simp [pre3, List.cons_prefix_cons] at q
          · exact q
          · rw [hws, hf] at q
            simp [List.cons_prefix_cons] at q
          · exact absurd q.2 (hre q.1)
        · intro q; exact Or.inr (Or.inl q)
      rcases Pw_paren (c := 40) (by decide) wFi ws p l_Fi hR hn with ⟨g1, g2⟩ | ⟨g1, q, g2, g3⟩
      · have g2 : Pw T n [102, 105, 116, 40] p = Pw T n [40] (p + 3) := g2
        have el : (ws.length : Int) = 3 := by rw [g1]; rfl
        rw [el] at hn
        rw [Pb_congr (m' := Pt T n 40) (p' := p + 3) (by rw [g2, Pw1])]
        by_cases he : p + 3 < n
        · unfold f_X6_readTrack f_X6_readTrack_255
          refine k6_let h hp (fun _ => ?_) (fun q => absurd hl q)
          refine ok_pos (show (1 : Int) ≠ 0 by decide) (ok_eq (k6_word h hR hp (by omega)) (ok_eq (k6_simple _ _) ?_))
          dsimp only
          rw [smp_no hw nA nI nX, rS_I609, rS_I610, el]
          refine ok_pos (by omega) (ok_pos (show (-1 : Int) < 0 by decide) ?_)
          refine ok_pos (lc_ne.mpr (fun q => nM ((w_eq hw l_Mm (by decide) c_Mm).mp q))) ?_
          refine ok_neg (fun q => lc_ne.mp q ((w_eq hw l_Fi (by decide) c_Fi).mpr g1)) ?_
          refine ok_eq (k6_takes h (by omega) (by omega) 40) ?_
          by_cases h1 : p + 3 < n ∧ T (p + 3).toNat = 40
          · rw [Pb_some' (Pt_y h1), Pt_y h1]
            refine ok_neg (rbs ()) (ok_seq (k6_num h (by omega)) (fun q hq => ?_))
            obtain ⟨b1, st', kd', nu', b2, b3, b4⟩ := hq
            have m1 : p + 3 + 1 ≤ (Pnum T n (p + 3 + 1)).2 := Pnum_mono T n _
            have m2 : (Pnum T n (p + 3 + 1)).2 ≤ n := ((Loc_num (Int.le_refl n)).1 (p + 3 + 1)).2 (by omega)
            rw [b1, b2]
            cases e1 : (Pnum T n (p + 3 + 1)).1 with
            | none =>
              rw [Pb_none e1]
              exact ok_neg (rbn (α := Unit)) (ok_some ⟨_, _, _, _, _, _, _, _, rfl, Or.inr (Or.inl ⟨rfl, rfl, b4 e1⟩)⟩)
            | some u =>
              rw [Pb_some e1]
              have b5 := b3 u e1
              show ok (if rb (some u) ≠ 0 then _ else _) _
              refine ok_pos (rbs ()) (ok_bs ?_)
              rw [rS_I615w]
              refine ok_bs ?_
              rw [rS_I616w]
              refine ok_bs ?_
              rw [rS_F614, rS_F618w]
              dsimp only at m1 m2 ⊢
              refine ok_eq (k6_takes h (by omega) (by omega) 41) (ok_ck (rb_01 _) (ok_some ?_))
              by_cases h3 : (Pnum T n (p + 3 + 1)).2 < n ∧ T (Pnum T n (p + 3 + 1)).2.toNat = 41
              · rw [Pb_some' (Pt_y h3), Pt_y h3]
                refine ⟨_, _, _, _, _, _, _, _, rfl, Or.inl ⟨rfl, _, rfl, rfl, rfl, rfl, fun z => ?_, fun z => b5⟩⟩
                exact absurd (show (3 : Int) = 0 from z) (by decide)
              · rw [Pb_none' (Pt_n h3), Pt_n h3]
                exact ⟨_, _, _, _, _, _, _, _, rfl, Or.inr (Or.inl ⟨rfl, rfl, rfl⟩)⟩
          · rw [Pb_none' (Pt_n h1), Pt_n h1]
            exact ok_pos rfl (ok_some ⟨_, _, _, _, _, _, _, _, rfl, Or.inr (Or.inl ⟨rfl, rfl, rfl⟩)⟩)
        · refine ok_mono (k6_trackW h hp a hR h0 (by omega) nA nI nX (fun _ => nM) (fun q => absurd q (by omega))) (fun q hq => ?_)
          obtain ⟨q1, p', kd', lk', hk', nu', lu', hu', q2⟩ := hq
          rw [pair_of q1 q2, Pb_none' (Pt_n (fun z => he z.1))]
          refine rt3_none rfl ?_ rfl
          rw [hpre, el, g1]
          exact ⟨fun z => ⟨z, List.prefix_refl _⟩, fun z => z.1⟩
      · have g2 : Pw T n [102, 105, 116, 40] p = (none, q) := g2
        refine ok_mono (k6_trackW h hp a hR h0 hn nA nI nX (fun _ => nM) (fun _ => g1)) (fun q' hq => ?_)
        obtain ⟨q1, p', kd', lk', hk', nu', lu', hu', q2⟩ := hq
        rw [pair_of q1 q2, Pb_none' g2]
        refine rt3_none rfl ?_ rfl
        rw [hpre]
        exact g3
    · rw [Pi_n (fun q => hf (by rw [← hx]; exact q.2))]
      have nF : ¬ ws <+: wFi := fun q => by
        rw [hws, List.cons_prefix_cons] at q
        exact hf q.1
      have nF2 : ws ≠ wFi := fun e => nF (by rw [e]; exact List.prefix_refl _)
      rcases plain_run hR h0 hn with ⟨g1, g2⟩ | ⟨g1, g2⟩ | ⟨g1, g2⟩ | ⟨g1, g2, g3, g4⟩
      · refine ok_mono (k6_trackS (k := 3) h hp a hR h0 hn (by decide) (by rw [g1]; exact smp_Au) (Or.inl (by rw [g1]; exact List.prefix_refl _))) (fun q hq => ?_)
        obtain ⟨q1, st', q2⟩ := hq
        rw [Pb_some' g2, if_pos (show ((3, FP.fconst0) : Int × UInt32).1 ≠ 1 from (by show (3 : Int) ≠ 1; decide)), Pend_w (show (3 : Int) ≠ 0 by decide) (show (3 : Int) ≠ 4 by decide)]
        refine ⟨_, _, _, _, _, _, _, _, q2, Or.inl ⟨q1, _, rfl, rfl, rfl, rfl, fun z => ?_, fun z => ?_⟩⟩
        · exact absurd (show (3 : Int) = 0 from z) (by decide)
        · exact absurd (show (3 : Int) = 0 ∨ (3 : Int) = 4 ∨ (3 : Int) = 5 from z) (by decide)
      · refine ok_mono (k6_trackS (k := 1) h hp a hR h0 hn (by decide) (by rw [g1]; exact smp_Mi) (Or.inr (Or.inl (by rw [g1]; exact List.prefix_refl _)))) (fun q hq => ?_)
        obtain ⟨q1, st', q2⟩ := hq
        rw [Pb_some' g2, if_neg (show ¬ ((1, FP.fconst0) : Int × UInt32).1 ≠ 1 from fun z => z rfl), Pi_n (fun z => hstop ⟨z.1, by omega, by omega⟩), Pend_w (show (1 : Int) ≠ 0 by decide) (show (1 : Int) ≠ 4 by decide)]
        refine ⟨_, _, _, _, _, _, _, _, q2, Or.inl ⟨q1, _, rfl, rfl, rfl, rfl, fun z => ?_, fun z => ?_⟩⟩
        · exact absurd (show (1 : Int) = 0 from z) (by decide)
        · exact absurd (show (1 : Int) = 0 ∨ (1 : Int) = 4 ∨ (1 : Int) = 5 from z) (by decide)
      · refine ok_mono (k6_trackS (k := 2) h hp a hR h0 hn (by decide) (by rw [g1]; exact smp_Ma) (Or.inr (Or.inr (by rw [g1]; exact List.prefix_refl _)))) (fun q hq => ?_)
        obtain ⟨q1, st', q2⟩ := hq
        rw [Pb_some' g2, if_pos (show ((2, FP.fconst0) : Int × UInt32).1 ≠ 1 from (by show (2 : Int) ≠ 1; decide)), Pend_w (show (2 : Int) ≠ 0 by decide) (show (2 : Int) ≠ 4 by decide)]
        refine ⟨_, _, _, _, _, _, _, _, q2, Or.inl ⟨q1, _, rfl, rfl, rfl, rfl, fun z => ?_, fun z => ?_⟩⟩
        · exact absurd (show (2 : Int) = 0 from z) (by decide)
        · exact absurd (show (2 : Int) = 0 ∨ (2 : Int) = 4 ∨ (2 : Int) = 5 from z) (by decide)
      · rcases g4 with ⟨q, e1, e2, e3⟩ | ⟨k, q, y, ys, e1, e2, e3, e4, e5⟩
        · have nM : ws ≠ wMm := fun e => by
            have := e3 (by rw [e]; exact List.prefix_refl _)
            rw [e] at this
            exact absurd this (by decide)
          refine ok_mono (k6_trackW h hp a hR h0 hn g1 g2 g3 (fun _ => nM) (fun _ => nF2)) (fun q' hq => ?_)
          obtain ⟨q1, p', kd', lk', hk', nu', lu', hu', q2⟩ := hq
          rw [pair_of q1 q2, Pb_none' e1]
          refine rt3_none rfl ?_ rfl
          rw [e2]
          constructor
          · intro z; exact ⟨z.1, Or.inl z.2⟩
          · intro z
            refine ⟨z.1, ?_⟩
            rcases z.2 with z | z | z | z
            · exact z
            · exact absurd z nF
            · exact e3 z
            · exact absurd z.2 (hre z.1)
        · rw [Pb_some' e1]
          rcases e5 with ⟨e5, e6⟩ | ⟨e5, e6, e7⟩
          · have nM : ws ≠ wMm := fun e => e6 (by rw [e]; exact List.prefix_refl _)
            refine ok_mono (k6_trackW h hp a hR h0 hn g1 g2 g3 (fun _ => nM) (fun _ => nF2)) (fun q' hq => ?_)
            obtain ⟨q1, p', kd', lk', hk', nu', lu', hu', q2⟩ := hq
            rw [pair_of q1 q2, if_pos (show ((k, FP.fconst0) : Int × UInt32).1 ≠ 1 from e5)]
            refine rt3_let (Pend_w (by omega) (by omega) q) (fun z => ?_) rfl e3.1 (by rw [e3.2.1]; exact e3.2.2.1) (by rw [e3.2.1]; exact e3.2.2.2.1)
            rcases z.2 with z | z | z | z
            · exact e4 z
            · exact nF z
            · exact e6 z
            · exact hre z.1 z.2
          · subst e5
            rw [if_neg (show ¬ ((1, FP.fconst0) : Int × UInt32).1 ≠ 1 from fun z => z rfl)]
            have el : (ws.length : Int) = 3 + ((y :: ys).length : Int) := by rw [e6, List.length_append]; simp
            have hpm : preA a ws ↔ (y :: ys) <+: wMa := by
              constructor
              · intro z
                rcases z with z | z | z | z
                · exact absurd z e4
                · exact absurd z nF
                · rw [e6] at z
                  simpa [List.cons_prefix_cons] using z
                · exact absurd z.2 (hre z.1)
              · intro z
                refine Or.inr (Or.inr (Or.inl ?_))
                rw [e6]
                simpa [List.cons_prefix_cons] using z
            by_cases hy : y = 109
            · rw [Pi_y ⟨e3.1, by rw [e3.2.1]; exact hy⟩, Pmm_eq]
              rcases Pw_paren (c := 40) (by decide) wMa (y :: ys) q l_Ma e3 (by omega) with ⟨k1, k2⟩ | ⟨k1, q3, k2, k3⟩
              · have k2 : Pw T n [109, 97, 120, 40] q = Pw T n [40] (q + 3) := k2
                have hwm : ws = wMm := by rw [e6, k1]; rfl
                have el2 : (ws.length : Int) = 6 := by rw [hwm]; rfl
                rw [Pb_congr (m' := Pt T n 40) (p' := p + (ws.length : Int)) (by rw [k2, Pw1, el2, show q + 3 = p + 6 by omega])]
                by_cases he : p + (ws.length : Int) < n
                · unfold f_X6_readTrack
                  refine k6_let h hp (fun _ => ?_) (fun q => absurd hl q)
                  refine ok_pos (show (1 : Int) ≠ 0 by decide) (ok_eq (k6_word h hR hp (by omega)) (ok_eq (k6_simple _ _) ?_))
                  dsimp only
                  rw [smp_no hw g1 g2 g3, rS_I609, rS_I610]
                  refine ok_pos (by omega) (ok_pos (show (-1 : Int) < 0 by decide) ?_)
                  refine ok_neg (fun q => lc_ne.mp q ((w_eq hw l_Mm (by decide) c_Mm).mpr hwm)) ?_
                  refine ok_seq (k6_mm h (by omega) (by omega)) (fun q' hq => ok_ck ?_ (ok_some (rt3_of hq)))
                  obtain ⟨a1, a2, a3, a4, a5, a6, a7, a8, h1, h2⟩ := hq
                  rcases h2 with h2 | h2
                  · exact Or.inr h2.1
                  · exact Or.inl h2.1
                · refine ok_mono (k6_trackW h hp a hR h0 hn g1 g2 g3 (fun q => absurd q he) (fun _ => nF2)) (fun q' hq => ?_)
                  obtain ⟨q1, p', kd', lk', hk', nu', lu', hu', q2⟩ := hq
                  rw [pair_of q1 q2, Pb_none' (Pt_n (fun z => he z.1))]
                  refine rt3_none rfl ?_ rfl
                  rw [hpm, k1]
                  exact ⟨fun z => ⟨z, List.prefix_refl _⟩, fun z => z.1⟩
              · have k2 : Pw T n [109, 97, 120, 40] q = (none, q3) := k2
                have nM : ws ≠ wMm := fun e => k1 (by rw [e6] at e; exact (List.append_cancel_left (as := wMi) e))
                refine ok_mono (k6_trackW h hp a hR h0 hn g1 g2 g3 (fun _ => nM) (fun _ => nF2)) (fun q' hq => ?_)
                obtain ⟨q1, p', kd', lk', hk', nu', lu', hu', q2⟩ := hq
                rw [pair_of q1 q2, Pb_none' k2]
                refine rt3_none rfl ?_ rfl
                rw [hpm, k3, el]
                exact ⟨fun z => ⟨by omega, z.2⟩, fun z => ⟨by omega, z.2⟩⟩
            · rw [Pi_n (fun z => hy (by rw [← e3.2.1]; exact z.2))]
              have nM0 : ¬ (y :: ys) <+: wMa := fun z => hy (List.cons_prefix_cons.mp z).1
              have nM : ws ≠ wMm := fun e => nM0 (by rw [e6] at e; rw [List.append_cancel_left (as := wMi) (cs := wMa) e]; exact List.prefix_refl _)
              refine ok_mono (k6_trackW h hp a hR h0 hn g1 g2 g3 (fun _ => nM) (fun _ => nF2)) (fun q' hq => ?_)
              obtain ⟨q1, p', kd', lk', hk', nu', lu', hu', q2⟩ := hq
              rw [pair_of q1 q2]
              exact rt3_let (Pend_w (by decide) (by decide) q) (fun z => nM0 (hpm.mp z.2)) rfl e3.1 (by rw [e3.2.1]; exact e3.2.2.1) (by rw [e3.2.1]; exact e3.2.2.2.1)
  · unfold f_X6_readTrack
    refine k6_let h hp (fun q => absurd q hl) (fun _ => ?_)
    refine ok_neg (show ¬ (0 : Int) ≠ 0 by decide) ?_
    have e0 : Ptrack T n p = Pb (Pnum T n) (fun u => Pend T n 0 u) p := by
      have e1 : Pplain T n p = Pb (Pnum T n) (fun u => Pp (0, u)) p := by
        unfold Pplain
        rw [Pi_n (fun q => hl ⟨q.1, by omega, by omega⟩), Pc_n (fun q => hl ⟨q.1, by omega, by omega⟩)]
      unfold Ptrack
      rw [Pi_n (fun q => hl ⟨q.1, by omega, by omega⟩), Pb_congr e1, Pb_assoc]
      rfl
    rw [e0]
    have m1 := Pnum_mono T n p
    have m2 : (Pnum T n p).2 ≤ n := ((Loc_num (Int.le_refl n)).1 p).2 hpn
    refine ok_seq (k6_num h hp) (fun q hq => ?_)
    obtain ⟨b1, st', kd', nu', b2, b3, b4⟩ := hq
    rw [b1, b2]
    cases e1 : (Pnum T n p).1 with
    | none =>
      rw [Pb_none e1]
      exact ok_neg (rbn (α := Unit)) (ok_some ⟨_, _, _, _, _, _, _, _, rfl, Or.inr (Or.inl ⟨rfl, rfl, b4 e1⟩)⟩)
    | some x =>
      rw [Pb_some e1]
      have b5 := b3 x e1
      generalize (Pnum T n p).2 = p1 at m1 m2
      refine ok_pos (rbs ()) (ok_bs ?_)
      rw [rS_I615w]
      refine ok_bs ?_
      rw [rS_I616w]
      refine ok_bs ?_
      rw [rS_F614, rS_F617w]
      refine ok_bs ?_
      rw [rS_F614, rS_F618w]
      refine ok_eq (k6_now h (by omega)) ?_
      unfold Pend Pshare
      rw [if_neg (show ¬ (0 : Int) ≠ 0 by decide)]
      by_cases hf : p1 < n ∧ T p1.toNat = 102
      · refine ok_pos ((nwc_eq (by decide)).mpr hf) ?_
        rw [rS_I609]
        refine ok_ck (inR_of (by omega)) (ok_bs ?_)
        rw [rS_I609w]
        refine ok_bs ?_
        rw [rS_I615w]
        refine ok_bs ?_
        rw [rS_I616w]
        refine ok_eq (k6_takes h (by omega) (by omega) 114) (ok_ck (rb_01 _) (ok_some ?_))
        have ew : Pw T n [102, 114] p1 = Pb (Pt T n 114) (fun _ => Pp ()) (p1 + 1) := Pb_some' (Pt_y hf)
        by_cases hr : p1 + 1 < n ∧ T (p1 + 1).toNat = 114
        · have e2 : Pi T n 102 (Pb (Pw T n [102, 114]) (fun _ => Pp ((4, x) : Int × UInt32))) (Pp (0, x)) p1 = (some (4, x), p1 + 1 + 1) := by
            rw [Pi_y hf, Pb_some' (show Pw T n [102, 114] p1 = (some (), p1 + 1 + 1) by rw [ew, Pb_some' (Pt_y hr)]; rfl)]
            rfl
          rw [Pb_some' e2, if_neg (show ¬ ((4, x) : Int × UInt32).1 ≠ 4 from fun z => z rfl), Pt_y hr]
          refine ⟨_, _, _, _, _, _, _, _, rfl, Or.inl ⟨rfl, _, rfl, rfl, rfl, rfl, fun z => ?_, fun _ => b5⟩⟩
          exact absurd (show (3 : Int) = 0 from z) (by decide)
        · have e2 : Pi T n 102 (Pb (Pw T n [102, 114]) (fun _ => Pp ((4, x) : Int × UInt32))) (Pp (0, x)) p1 = (none, p1 + 1) := by
            rw [Pi_y hf, Pb_none' (show Pw T n [102, 114] p1 = (none, p1 + 1) by rw [ew, Pb_none' (Pt_n hr)])]
          rw [Pb_none' e2, Pt_n hr]
          exact ⟨_, _, _, _, _, _, _, _, rfl, Or.inr (Or.inl ⟨rfl, rfl, rfl⟩)⟩
      · have e2 : Pi T n 102 (Pb (Pw T n [102, 114]) (fun _ => Pp ((4, x) : Int × UInt32))) (Pp (0, x)) p1 = (some (0, x), p1) := by
          rw [Pi_n hf]
          rfl
        rw [Pb_some' e2, if_pos (show ((0, x) : Int × UInt32).1 ≠ 4 from (by show (0 : Int) ≠ 4; decide))]
        refine ok_neg (fun q => hf ((nwc_eq (by decide)).mp q)) (ok_some ?_)
        exact ⟨_, _, _, _, _, _, _, _, rfl, Or.inl ⟨rfl, _, rfl, rfl, rfl, rfl, fun _ => b5, fun _ => b5⟩⟩
end
