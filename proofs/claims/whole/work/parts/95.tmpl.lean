/-! ===== TEMPLATE ===== -/
def fr6 (D : Nat → Nat → Prop) (s w : pS) : Prop := ∀ f i, D f i → sI w f i = sI s f i ∧ sF w f i = sF s f i ∧ sA w f i = sA s f i ∧ sB w f i = sB s f i
theorem fr6_refl (D : Nat → Nat → Prop) (s : pS) : fr6 D s s := fun _ _ _ => ⟨rfl, rfl, rfl, rfl⟩
theorem fr6_wI {D : Nat → Nat → Prop} {s s' : pS} {f i : Nat} {v : Int} (hf : ¬ D f i) (h : fr6 D s s') : fr6 D s (wI s' f i v) := fun g j hg => by
  obtain ⟨h1, h2, h3, h4⟩ := h g j hg
  exact ⟨by rw [sI_wI, if_neg (show ¬ (g = f ∧ j = i) from fun hx => hf (by rw [← hx.1, ← hx.2]; exact hg))]; exact h1, h2, h3, h4⟩
theorem fr6_wA {D : Nat → Nat → Prop} {s s' : pS} {f i : Nat} {v : Nat → Int} (hf : ¬ D f i) (h : fr6 D s s') : fr6 D s (wA s' f i v) := fun g j hg => by
  obtain ⟨h1, h2, h3, h4⟩ := h g j hg
  exact ⟨h1, h2, by rw [sA_wA, if_neg (show ¬ (g = f ∧ j = i) from fun hx => hf (by rw [← hx.1, ← hx.2]; exact hg))]; exact h3, h4⟩
theorem fr6_wB {D : Nat → Nat → Prop} {s s' : pS} {f i : Nat} {v : Nat → UInt32} (hf : ¬ D f i) (h : fr6 D s s') : fr6 D s (wB s' f i v) := fun g j hg => by
  obtain ⟨h1, h2, h3, h4⟩ := h g j hg
  exact ⟨h1, h2, h3, by rw [sB_wB, if_neg (show ¬ (g = f ∧ j = i) from fun hx => hf (by rw [← hx.1, ← hx.2]; exact hg))]; exact h4⟩
theorem fr6_wN {D : Nat → Nat → Prop} {s s' : pS} (h : fr6 D s s') : fr6 D s (wN s') := h
theorem fr6_cS {D : Nat → Nat → Prop} {s s' : pS} {p k ir fi ti c : Int} {u : UInt32} {X : Dr} (hd : ∀ f i, D f i → ¬ (401 ≤ f ∧ f ≤ 408) ∧ ¬ (300 ≤ f ∧ f ≤ 304 ∧ i = 2)) (h : fr6 D s s') : fr6 D s (cS s' p k ir fi ti c u X) := fun g j hg => by
  obtain ⟨h1, h2, h3, h4⟩ := h g j hg
  have hx := hd g j hg
  refine ⟨?_, ?_, ?_, ?_⟩
  · rw [cS_Io (by omega)]; exact h1
  · rw [cS_Fo (by omega)]; exact h2
  · rw [cS_Ao (by omega)]; exact h3
  · rw [cS_Bo (by omega)]; exact h4
theorem fr6_rS {D : Nat → Nat → Prop} {s s' : pS} {p en st rd kd lk hk : Int} {nu lu hu : UInt32} {X : Dr} (hd : ∀ f i, D f i → ¬ (605 ≤ f ∧ f ≤ 618)) (h : fr6 D s s') : fr6 D s (rS s' p en st rd kd lk hk nu lu hu X) := fun g j hg => by
  obtain ⟨h1, h2, h3, h4⟩ := h g j hg
  have hx := hd g j hg
  refine ⟨?_, ?_, ?_, ?_⟩
  · rw [rS_Io (by omega)]; exact h1
  · rw [rS_Fo (by omega)]; exact h2
  · rw [rS_Ao (by omega)]; exact h3
  · rw [rS_Bo (by omega)]; exact h4
def dx (f : Nat) : Prop := ¬ (300 ≤ f ∧ f ≤ 304) ∧ ¬ (401 ≤ f ∧ f ≤ 408) ∧ f ≠ 505 ∧ ¬ (600 ≤ f ∧ f ≤ 618) ∧ f ≠ 700
theorem fr4_of {D : Nat → Nat → Prop} {s w : pS} (h : fr6 D s w) (hd : ∀ f i, dx f → D f i) : fr4 dx s w := fun f i hf => h f i (hd f i hf)
theorem inv_dx {s w : pS} (h : fr4 dx s w) (hI : Inv s) (gT : gTs w) (gR : sI w 505 0 = sI w 603 0) (g0 : gPs w 0) (g1 : gPs w 1) : Inv w := by
  obtain ⟨hT, hR, hP0, hP1, hC, hI0, hI1, hF, hS0, hS1, hL0, hL1, hX⟩ := hI
  exact ⟨gT, gR, g0, g1, grp_C h (fun f hf => by unfold dx; omega) hC, grp_I h (fun f hf => by unfold dx; omega) hI0, grp_I h (fun f hf => by unfold dx; omega) hI1, grp_F h (fun f hf => by unfold dx; omega) hF, grp_S h (fun f hf => by unfold dx; omega) hS0, grp_S h (fun f hf => by unfold dx; omega) hS1, grp_L h (fun f hf => by unfold dx; omega) hL0, grp_L h (fun f hf => by unfold dx; omega) hL1, grp_X h (by unfold dx; omega) hX⟩
theorem gP_tr {a : Nat} {cnt : Int} {lo hi lo' hi' lo2 hi2 many many2 : Nat → Int} {lnu hn lnu' hn' lnu2 hn2 : Nat → UInt32} (ha : a < 2) (h : gP a cnt lo lnu hi hn many lo' hi' lnu' hn') (hm : many2 a = many a)
    (he : ∀ t : Nat, t < 12 → lo2 (12 * a + t) = lo' (12 * a + t) ∧ lnu2 (12 * a + t) = lnu' (12 * a + t) ∧ hi2 (12 * a + t) = hi' (12 * a + t) ∧ hn2 (12 * a + t) = hn' (12 * a + t)) : gP a cnt lo lnu hi hn many2 lo2 hi2 lnu2 hn2 := by
  obtain ⟨h1, h2, h3, h4⟩ := h
  refine ⟨by rw [hm]; exact h1, h2, h3, fun t ht => ?_⟩
  obtain ⟨e1, e2, e3, e4⟩ := he t ht
  obtain ⟨k1, k2⟩ := h4 t ht
  rw [e1, e2, e3, e4]
  exact ⟨k1, k2⟩
def eD (z : pS) : Dr := (sA z 605 0, sB z 607 0, sA z 606 0, sB z 608 0)
def z8 (z : pS) : pS := wI (wI z 600 0 0) 601 0 0
theorem k6_template {z : pS} {T : Nat → Int} {n : Int} {D : Dr} (h : RB z T n) (hn : sI z 601 0 = n) {A : Nat} (hA : A < 2) (hv : ∀ v, (Ptext T n D).1 = some v → 0 ≤ v.1 ∧ v.1 ≤ 12) :
    ok (f_X6_template (A : Int) z) (fun q => ∃ (p en st rd kd lk hk : Int) (nu lu hu : UInt32) (E : Dr), DFr (eD z) E ∧
      (((Ptext T n D).1 = none ∧ q = (0, wI (wI (rS (z8 z) p en st rd kd lk hk nu lu hu E) 603 0 (Ptext T n D).2) 600 0 1)) ∨
       (∃ v, (Ptext T n D).1 = some v ∧ DRel v.1 E v.2 ∧ q = (v.1, wA (rS (z8 z) p en st v.1 kd lk hk nu lu hu (cpD A v.1.toNat E)) 604 0 (pm_up (sA z 604 0) A v.1))))) := by
  have ha : ((A : Int) = 0 ∨ (A : Int) = 1) := by omega
  unfold f_X6_template f_X6_template_13
  refine ok_eq (k6_isAxis _ z) ?_
  rw [if_pos ha]
  refine ok_pos (show (1 : Int) ≠ 0 by decide) (ok_eq (k6_fails00 z) (ok_pos rfl (ok_bs (ok_bs ?_))))
  have e601 : sI (wI z 600 0 0) 601 0 = n := by rw [sI_wI, if_neg (by omega)]; exact hn
  dsimp only
  rw [e601]
  show ok ((f_X6_reads n (z8 z)).bind _) _
  have hRB : RB (z8 z) T n := ⟨by unfold z8; rw [sA_wI, sA_wI]; exact h.1, h.2⟩
  have hE : eD (z8 z) = eD z := by
    unfold eD z8
    rw [sA_wI, sA_wI, sA_wI, sA_wI, sB_wI, sB_wI, sB_wI, sB_wI]
  have hrd := k6_reads (b := z8 z) (T := T) (n := n) (p := sI (z8 z) 609 0) (en := sI (z8 z) 610 0) (st := sI (z8 z) 611 0) (rd := sI (z8 z) 612 0) (kd := sI (z8 z) 613 0) (lk := sI (z8 z) 615 0) (hk := sI (z8 z) 616 0) (nu := sF (z8 z) 614 0) (lu := sF (z8 z) 617 0) (hu := sF (z8 z) 618 0) (E := eD (z8 z)) (E0 := eD z) (D := D) hRB (by rw [hE]; exact fun j _ => ⟨rfl, rfl, rfl, rfl⟩)
  unfold eD at hrd
  rw [rS_self (z8 z)] at hrd
  refine ok_seq hrd (fun q hq => ?_)
  obtain ⟨p', st', rd', kd', lk', hk', nu', lu', hu', E', e1, e2, e3⟩ := hq
  rw [e1]
  rcases e3 with ⟨e3, v, e4, e5, e6⟩ | ⟨e3, e4⟩
  · rw [e3]
    refine ok_pos rfl ?_
    have hv' := hv v e4
    have ec : ((v.1.toNat : Nat) : Int) = v.1 := Int.toNat_of_nonneg hv'.1
    have e0 : E' = cpD A 0 E' := by
      unfold cpD
      rw [cpf0, cpf0, cpf0, cpf0]
    have fin := k6_t78 (b := z8 z) (p := p') (en := n) (st := st') (kd := kd') (lk := lk') (hk := hk') (nu := nu') (lu := lu') (hu := hu') (E := E') (c := v.1.toNat) (a := A) (K172 := fun x1 s5 => ck (0 ≤ x1 ∧ x1 < 2) (bs (wA s5 604 0 (pm_up (sA s5 604 0) x1.toNat (sI s5 612 0))) (fun s7 => some ((sI s7 612 0), s7)))) (P := fun q => ∃ (p en st rd kd lk hk : Int) (nu lu hu : UInt32) (E : Dr), DFr (eD z) E ∧
      (((Ptext T n D).1 = none ∧ q = (0, wI (wI (rS (z8 z) p en st rd kd lk hk nu lu hu E) 603 0 (Ptext T n D).2) 600 0 1)) ∨
       (∃ v, (Ptext T n D).1 = some v ∧ DRel v.1 E v.2 ∧ q = (v.1, wA (rS (z8 z) p en st v.1 kd lk hk nu lu hu (cpD A v.1.toNat E)) 604 0 (pm_up (sA z 604 0) A v.1))))) hA (by omega) ?_ v.1.toNat 400 0 (by omega) (by omega)
    · rw [ec, ← e0] at fin
      rw [e5]
      exact fin
    · rw [ec]
      refine ok_ck (by omega) (ok_bs (ok_some ?_))
      refine ⟨p', n, st', v.1, kd', lk', hk', nu', lu', hu', E', e2, Or.inr ⟨v, e4, e6, ?_⟩⟩
      have x604 : sA (rS (z8 z) p' n st' v.1 kd' lk' hk' nu' lu' hu' (cpD A v.1.toNat E')) 604 0 = sA z 604 0 := by
        rw [rS_Ao (by decide)]
        unfold z8
        rw [sA_wI, sA_wI]
      rw [x604, nnat, sI_wA, rS_I612]
  · refine ok_neg (fun q => ?_) ?_
    · rw [e4] at q
      unfold fz at q
      split at q <;> omega
    · have hn0 : n ≠ 0 := fun e => by
        unfold Ptext at e3
        rw [if_pos e] at e3
        cases e3
      have hnn := h.2.1
      have h40 := h.2.2.1
      have hq := (text_loc (T := T) (D := D) (show 0 < n by omega) (Int.le_refl n)).1
      have ec : ((((Ptext T n D).2).toNat : Nat) : Int) = (Ptext T n D).2 := Int.toNat_of_nonneg hq.1
      refine k6_t43 (b := z8 z) (E0 := eD z) hRB e3 (fun p en st rd kd lk hk nu lu hu E hE => ?_) ((Ptext T n D).2).toNat 400 0 _ _ _ _ _ _ _ _ _ _ E' (by omega) (by omega) (by omega) e2
      unfold f_X6_template_64
      refine ok_bs (ok_bs (ok_some ?_))
      exact ⟨p, en, st, rd, kd, lk, hk, nu, lu, hu, E, hE, Or.inl ⟨e3, rfl⟩⟩
theorem op_template (a : Int) (s : pS) (hI : Inv s) : opT (f_L_template a) (f_X6_template a) s := by
  have hI' := hI
  obtain ⟨hT, hR, hP0, hP1, hC, hI0, hI1, hF, hS0, hS1, hL0, hL1, hX⟩ := hI'
  unfold opT
  by_cases ha : a = 0 ∨ a = 1
  · obtain ⟨A, hA, rfl⟩ : ∃ A : Nat, A < 2 ∧ a = (A : Int) := by
      rcases ha with h | h
      · exact ⟨0, by omega, h⟩
      · exact ⟨1, by omega, h⟩
    obtain ⟨t1, t2, t3, t4⟩ := id hT
    have hCB : CB s (sA s 402 0) (sI s 403 0) := ⟨rfl, rfl, t2, t3, fun j hj => ⟨(t4 j hj).2.1, (t4 j hj).2.2⟩⟩
    have hk := kt_text (b := s) (p := sI s 401 0) (k := sI s 404 0) (ir := sI s 406 0) (fi := sI s 407 0) (ti := sI s 408 0) (c := sI s 304 2) (u := sF s 405 0) (D := (sA s 300 2, sB s 301 2, sA s 302 2, sB s 303 2)) hCB
    rw [cS_self s] at hk
    have hDQ : ∀ v, (Ptext (sA s 402 0) (sI s 403 0) (clD (sA s 300 2, sB s 301 2, sA s 302 2, sB s 303 2))).1 = some v → DQ v := fun v hv => Ptext_q hv
    have heq : Ptext (sA s 602 0) (sI s 403 0) (clD (sA s 300 2, sB s 301 2, sA s 302 2, sB s 303 2)) = Ptext (sA s 402 0) (sI s 403 0) (clD (sA s 300 2, sB s 301 2, sA s 302 2, sB s 303 2)) := text_eqv (fun p h0 hp => ((t4 p.toNat (by omega)).1).symm) _
    generalize hD0 : clD (sA s 300 2, sB s 301 2, sA s 302 2, sB s 303 2) = D0 at hk hDQ heq
    have hRBs : ∀ z : pS, sA z 602 0 = sA s 602 0 → RB z (sA s 602 0) (sI s 403 0) := fun z hz => ⟨hz, t2, t3, fun j hj => by rw [← (t4 j hj).1]; exact (t4 j hj).2⟩
    unfold f_L_template
    refine ok_bind ?_
    unfold f_X5_template f_X4_forgetText
    refine ok_eq (k5_isAxis _ s) ?_
    rw [if_pos ha]
    refine ok_pos (show (1 : Int) ≠ 0 by decide) (ok_seq hk (fun q hq => ?_))
    obtain ⟨q1, k', ir', fi', ti', c', u', D', q2, q3⟩ := hq
    rw [q1, q2]
    refine ok_bind (ok_bs (ok_some ?_))
    cases hr1 : (Ptext (sA s 402 0) (sI s 403 0) D0).1 with
    | none =>
      refine ok_neg (rbn (α := Unit)) (ok_bs (ok_some ?_))
      show ok (if (0 : Nat) = 0 then _ else none) _
      refine ok_pos rfl (ok_some ?_)
      rw [sI_wI, if_neg (by omega), cS_I401]
      generalize hr2 : (Ptext (sA s 402 0) (sI s 403 0) D0).2 = q0 at heq
      generalize hz : wN (wI (wI (cS s q0 k' ir' fi' ti' c' u' D') 403 0 0) 505 0 q0) = z
      have hfz : fr6 (fun f i => ¬ (401 ≤ f ∧ f ≤ 408) ∧ ¬ (300 ≤ f ∧ f ≤ 304 ∧ i = 2) ∧ f ≠ 505) s z := by
        rw [← hz]
        exact fr6_wN (fr6_wI (by omega) (fr6_wI (by omega) (fr6_cS (fun f i hf => by omega) (fr6_refl _ _))))
      have z403 : sI z 403 0 = 0 := by rw [← hz, sI_wN, sI_wI, if_neg (by omega), sI_wI, if_pos ⟨rfl, rfl⟩]
      have z505 : sI z 505 0 = q0 := by rw [← hz, sI_wN, sI_wI, if_pos ⟨rfl, rfl⟩]
      have zN : sN z = sN s + 1 := by rw [← hz, sN_wN, sN_wI, sN_wI, cS_N]
      refine ok_mono (k6_template (D := D0) (hRBs z (hfz 602 0 (by omega)).2.2.1) (by rw [(hfz 601 0 (by omega)).1]; exact t1.symm) hA (fun v hv => by rw [heq] at hv; rw [hr1] at hv; cases hv)) (fun q hq => ?_)
      obtain ⟨p, en, st, rd, kd, lk, hk', nu, lu, hu, E, hE, hcase⟩ := hq
      rcases hcase with ⟨-, hq⟩ | ⟨v, hv, -, -⟩
      · rw [heq, hr2] at hq
        rw [hq]
        generalize hw : wI (wI (rS (z8 z) p en st rd kd lk hk' nu lu hu E) 603 0 q0) 600 0 1 = w
        have hfw : fr6 (fun f i => ¬ (401 ≤ f ∧ f ≤ 402) ∧ ¬ (404 ≤ f ∧ f ≤ 408) ∧ ¬ (300 ≤ f ∧ f ≤ 304 ∧ i = 2) ∧ ¬ (600 ≤ f ∧ f ≤ 601) ∧ f ≠ 603 ∧ ¬ (605 ≤ f ∧ f ≤ 618)) z w := by
          rw [← hw]
          exact fr6_wI (by omega) (fr6_wI (by omega) (fr6_rS (fun f i hf => by omega) (fr6_wI (by omega) (fr6_wI (by omega) (fr6_refl _ _)))))
        have hfr : fr6 (fun f i => ¬ (401 ≤ f ∧ f ≤ 408) ∧ ¬ (300 ≤ f ∧ f ≤ 304 ∧ i = 2) ∧ f ≠ 505 ∧ ¬ (600 ≤ f ∧ f ≤ 601) ∧ f ≠ 603 ∧ ¬ (605 ≤ f ∧ f ≤ 618)) s w := fun f i hf => by
          obtain ⟨a1, a2, a3, a4⟩ := hfw f i (by omega)
          obtain ⟨b1, b2, b3, b4⟩ := hfz f i (by omega)
          exact ⟨a1.trans b1, a2.trans b2, a3.trans b3, a4.trans b4⟩
        have w600 : sI w 600 0 = 1 := by rw [← hw, sI_wI, if_pos ⟨rfl, rfl⟩]
        have w601 : sI w 601 0 = 0 := by rw [← hw, sI_wI, if_neg (by omega), sI_wI, if_neg (by omega), rS_Io (by decide)]; unfold z8; rw [sI_wI, if_pos ⟨rfl, rfl⟩]
        have w603 : sI w 603 0 = q0 := by rw [← hw, sI_wI, if_neg (by omega), sI_wI, if_pos ⟨rfl, rfl⟩]
        have wN' : sN w = sN s + 1 := by rw [← hw, sN_wI, sN_wI, rS_N]; unfold z8; rw [sN_wI, sN_wI]; exact zN
        have w605 : sA w 605 0 = E.1 := by rw [← hw, sA_wI, sA_wI, rS_A605]
        have w606 : sA w 606 0 = E.2.2.1 := by rw [← hw, sA_wI, sA_wI, rS_A606]
        have w607 : sB w 607 0 = E.2.1 := by rw [← hw, sB_wI, sB_wI, rS_B607]
        have w608 : sB w 608 0 = E.2.2.2 := by rw [← hw, sB_wI, sB_wI, rS_B608]
        have z605 : sA z 605 0 = sA s 605 0 := (hfz 605 0 (by omega)).2.2.1
        have z606 : sA z 606 0 = sA s 606 0 := (hfz 606 0 (by omega)).2.2.1
        have z607 : sB z 607 0 = sB s 607 0 := (hfz 607 0 (by omega)).2.2.2
        have z608 : sB z 608 0 = sB s 608 0 := (hfz 608 0 (by omega)).2.2.2
        have gp : ∀ B, B < 2 → gPs s B → gPs w B := by
          intro B hB g
          unfold gPs at g ⊢
          rw [(hfr 304 B (by omega)).1, (hfr 300 B (by omega)).2.2.1, (hfr 301 B (by omega)).2.2.2, (hfr 302 B (by omega)).2.2.1, (hfr 303 B (by omega)).2.2.2, (hfr 604 0 (by omega)).2.2.1, w605, w606, w607, w608]
          refine gP_tr hB g rfl (fun t ht => ?_)
          obtain ⟨y1, y2, y3, y4⟩ := hE (12 * B + t) (by omega)
          rw [y1, y2, y3, y4]
          show sA z 605 0 _ = _ ∧ sB z 607 0 _ = _ ∧ sA z 606 0 _ = _ ∧ sB z 608 0 _ = _
          rw [z605, z606, z607, z608]
          exact ⟨rfl, rfl, rfl, rfl⟩
        have w403 : sI w 403 0 = 0 := by rw [(hfw 403 0 (by omega)).1]; exact z403
        have w505 : sI w 505 0 = q0 := by rw [(hfw 505 0 (by omega)).1]; exact z505
        refine ⟨w600, fun hh => absurd (show (1 : Int) = 0 from hh) (by decide), inv_dx (fr4_of hfr (fun f i hf => by unfold dx at hf; omega)) hI ?_ (by rw [w505, w603]) (gp 0 (by omega) hP0) (gp 1 (by omega) hP1), by show sN w ≤ sN s + 1; omega⟩
        unfold gTs
        rw [w403, w601]
        exact ⟨rfl, by omega, by omega, fun j hj => by omega⟩
      · rw [heq, hr1] at hv
        cases hv
    | some v =>
      obtain ⟨v1, v2, v3⟩ := hDQ v hr1
      have q4 := q3 v hr1
      have qc : c' = v.1 := by rw [← q4]
      have qD : D' = v.2 := by rw [← q4]
      subst qc
      subst qD
      have key : ∀ z : pS, fr6 (fun f i => ¬ (401 ≤ f ∧ f ≤ 408) ∧ ¬ (300 ≤ f ∧ f ≤ 304 ∧ (i = 2 ∨ i = A)) ∧ f ≠ 700) s z → sI z 403 0 = 0 → sI z 304 A = v.1 → (∀ j, j < 12 → sA z 300 A j = v.2.1 j) → (∀ j, j < 12 → sB z 301 A j = v.2.2.1 j) → (∀ j, j < 12 → sA z 302 A j = v.2.2.2.1 j) → (∀ j, j < 12 → sB z 303 A j = v.2.2.2.2 j) → sA z 700 0 0 = v.1 → sN z = sN s → ok (f_X6_template (A : Int) z) (fun r => sI r.2 600 0 = 0 ∧ ((0 : Int) = 0 → sA r.2 700 0 0 = r.1) ∧ Inv r.2 ∧ sN r.2 ≤ sN s + 1) := by
        intro z hfz z403 z304 z300 z301 z302 z303 z700 zN
        refine ok_mono (k6_template (D := D0) (hRBs z (hfz 602 0 (by omega)).2.2.1) (by rw [(hfz 601 0 (by omega)).1]; exact t1.symm) hA (fun x hx => by rw [heq, hr1] at hx; rw [← Option.some.inj hx]; exact ⟨v1, v2⟩)) (fun q hq => ?_)
        obtain ⟨p, en, st, rd, kd, lk, hk', nu, lu, hu, E, hE, hcase⟩ := hq
        rcases hcase with ⟨hv, -⟩ | ⟨x, hx, hrel, hq⟩
        · rw [heq, hr1] at hv
          cases hv
        · rw [heq, hr1] at hx
          have hx := Option.some.inj hx
          subst hx
          rw [hq]
          generalize hw : wA (rS (z8 z) p en st v.1 kd lk hk' nu lu hu (cpD A v.1.toNat E)) 604 0 (pm_up (sA z 604 0) A v.1) = w
          have hfw : fr6 (fun f i => ¬ (600 ≤ f ∧ f ≤ 601) ∧ ¬ (604 ≤ f ∧ f ≤ 618)) z w := by
            rw [← hw]
            exact fr6_wA (by omega) (fr6_rS (fun f i hf => by omega) (fr6_wI (by omega) (fr6_wI (by omega) (fr6_refl _ _))))
          have hfr : fr6 (fun f i => ¬ (401 ≤ f ∧ f ≤ 408) ∧ ¬ (300 ≤ f ∧ f ≤ 304 ∧ (i = 2 ∨ i = A)) ∧ f ≠ 700 ∧ ¬ (600 ≤ f ∧ f ≤ 601) ∧ ¬ (604 ≤ f ∧ f ≤ 618)) s w := fun f i hf => by
            obtain ⟨a1, a2, a3, a4⟩ := hfw f i (by omega)
            obtain ⟨b1, b2, b3, b4⟩ := hfz f i (by omega)
            exact ⟨a1.trans b1, a2.trans b2, a3.trans b3, a4.trans b4⟩
          have w600 : sI w 600 0 = 0 := by rw [← hw, sI_wA, rS_Io (by decide)]; unfold z8; rw [sI_wI, if_neg (by omega), sI_wI, if_pos ⟨rfl, rfl⟩]
          have w601 : sI w 601 0 = 0 := by rw [← hw, sI_wA, rS_Io (by decide)]; unfold z8; rw [sI_wI, if_pos ⟨rfl, rfl⟩]
          have wN' : sN w = sN s := by rw [← hw, sN_wA, rS_N]; unfold z8; rw [sN_wI, sN_wI]; exact zN
          have w604 : sA w 604 0 = pm_up (sA z 604 0) A v.1 := by rw [← hw, sA_wA, if_pos ⟨rfl, rfl⟩]
          have w605 : sA w 605 0 = cpf A v.1.toNat E.1 := by rw [← hw, sA_wA, if_neg (by omega), rS_A605]; rfl
          have w606 : sA w 606 0 = cpf A v.1.toNat E.2.2.1 := by rw [← hw, sA_wA, if_neg (by omega), rS_A606]; rfl
          have w607 : sB w 607 0 = cpf A v.1.toNat E.2.1 := by rw [← hw, sB_wA, rS_B607]; rfl
          have w608 : sB w 608 0 = cpf A v.1.toNat E.2.2.2 := by rw [← hw, sB_wA, rS_B608]; rfl
          have z604 : sA z 604 0 = sA s 604 0 := (hfz 604 0 (by omega)).2.2.1
          have z605 : sA z 605 0 = sA s 605 0 := (hfz 605 0 (by omega)).2.2.1
          have z606 : sA z 606 0 = sA s 606 0 := (hfz 606 0 (by omega)).2.2.1
          have z607 : sB z 607 0 = sB s 607 0 := (hfz 607 0 (by omega)).2.2.2
          have z608 : sB z 608 0 = sB s 608 0 := (hfz 608 0 (by omega)).2.2.2
          have gB : ∀ B, B < 2 → B ≠ A → gPs s B → gPs w B := by
            intro B hB hBA g
            unfold gPs at g ⊢
            rw [(hfr 304 B (by omega)).1, (hfr 300 B (by omega)).2.2.1, (hfr 301 B (by omega)).2.2.2, (hfr 302 B (by omega)).2.2.1, (hfr 303 B (by omega)).2.2.2, w604, w605, w606, w607, w608]
            refine gP_tr hB g (by rw [up_ne _ _ hBA, z604]) (fun t ht => ?_)
            obtain ⟨y1, y2, y3, y4⟩ := hE (12 * B + t) (by omega)
            have no : ¬ (12 * A ≤ 12 * B + t ∧ 12 * B + t < 12 * A + v.1.toNat) := by omega
            unfold cpf
            rw [if_neg no, if_neg no, if_neg no, if_neg no, y1, y2, y3, y4]
            show sA z 605 0 _ = _ ∧ sB z 607 0 _ = _ ∧ sA z 606 0 _ = _ ∧ sB z 608 0 _ = _
            rw [z605, z606, z607, z608]
            exact ⟨rfl, rfl, rfl, rfl⟩
          have gA : gPs w A := by
            unfold gPs
            rw [(hfw 304 A (by omega)).1, (hfw 300 A (by omega)).2.2.1, (hfw 301 A (by omega)).2.2.2, (hfw 302 A (by omega)).2.2.1, (hfw 303 A (by omega)).2.2.2, w604, w605, w606, w607, w608, z304]
            refine ⟨(up_eq _ _ _).symm, v1, v2, fun t ht => ?_⟩
            rw [z300 t ht, z301 t ht, z302 t ht, z303 t ht]
            obtain ⟨⟨d1, d2, d3, d4, d5, d6, d7, d8, d9⟩, d10⟩ := v3 t ht
            refine ⟨fun htc => ?_, d10, d3, d1, d2, d4, d5, d6, d7, d8, d9⟩
            have yes : 12 * A ≤ 12 * A + t ∧ 12 * A + t < 12 * A + v.1.toNat := by omega
            obtain ⟨m1, m2, m3, m4⟩ := hrel t htc
            unfold cpf
            rw [if_pos yes, if_pos yes, if_pos yes, if_pos yes, show 12 * A + t - 12 * A = t by omega]
            exact ⟨m1.symm, m2.symm, fun hh => (m3 hh).symm, fun hh => (m4 hh).symm⟩
          have w403 : sI w 403 0 = 0 := by rw [(hfw 403 0 (by omega)).1]; exact z403
          have gR : sI w 505 0 = sI w 603 0 := by
            rw [(hfr 505 0 (by omega)).1, (hfr 603 0 (by omega)).1]
            exact hR
          have w700 : sA w 700 0 0 = v.1 := by rw [(hfw 700 0 (by omega)).2.2.1]; exact z700
          have gAll : ∀ B, B < 2 → gPs s B → gPs w B := fun B hB g => by
            by_cases hBA : B = A
            · rw [hBA]; exact gA
            · exact gB B hB hBA g
          refine ⟨w600, fun _ => w700, inv_dx (fr4_of hfr (fun f i hf => by unfold dx at hf; omega)) hI ?_ gR (gAll 0 (by omega) hP0) (gAll 1 (by omega) hP1), by show sN w ≤ sN s + 1; omega⟩
          unfold gTs
          rw [w403, w601]
          exact ⟨rfl, by omega, by omega, fun j hj => by omega⟩
      generalize hw0 : wI (cS s (Ptext (sA s 402 0) (sI s 403 0) D0).2 k' ir' fi' ti' v.1 u' v.2) 403 0 0 = w0
      have hf0 : fr6 (fun f i => ¬ (401 ≤ f ∧ f ≤ 408) ∧ ¬ (300 ≤ f ∧ f ≤ 304 ∧ i = 2)) s w0 := by
        rw [← hw0]
        exact fr6_wI (by omega) (fr6_cS (fun f i hf => by omega) (fr6_refl _ _))
      have x304 : sI w0 304 2 = v.1 := by rw [← hw0, sI_wI, if_neg (by omega), cS_I304]
      have x300 : sA w0 300 2 = v.2.1 := by rw [← hw0, sA_wI, cS_A300]
      have x301 : sB w0 301 2 = v.2.2.1 := by rw [← hw0, sB_wI, cS_B301]
      have x302 : sA w0 302 2 = v.2.2.2.1 := by rw [← hw0, sA_wI, cS_A302]
      have x303 : sB w0 303 2 = v.2.2.2.2 := by rw [← hw0, sB_wI, cS_B303]
      have x403 : sI w0 403 0 = 0 := by rw [← hw0, sI_wI, if_pos ⟨rfl, rfl⟩]
      have xN : sN w0 = sN s := by rw [← hw0, sN_wI, cS_N]
      refine ok_pos (rbs ()) (ok_ck (by omega) ?_)
      unfold f_X3_copyFrom
      refine ok_bind (ok_bs (ok_bs (ok_bs (ok_bs (ok_bs (ok_some ?_))))))
      refine ok_some ?_
      rw [nnat]
      have y304 : ∀ (f1 f3 : Nat → Int) (f2 f4 : Nat → UInt32), sI (wB (wA (wB (wA (wI w0 304 A v.1) 300 A f1) 301 A f2) 302 A f3) 303 A f4) 304 2 = v.1 := by
        intro f1 f3 f2 f4
        rw [sI_wB, sI_wA, sI_wB, sI_wA, sI_wI, if_neg (by omega)]
        exact x304
      rw [x304]
      refine ok_bs (ok_some ?_)
      refine key _ ?_ ?_ ?_ ?_ ?_ ?_ ?_ ?_ ?_
      · refine fr6_wA (by omega) (fr6_wB (by omega) (fr6_wA (by omega) (fr6_wB (by omega) (fr6_wA (by omega) (fr6_wI (by omega) (fun f i hf => hf0 f i (by omega)))))))
      · rw [sI_wA, sI_wB, sI_wA, sI_wB, sI_wA, sI_wI, if_neg (by omega)]
        exact x403
      · rw [sI_wA, sI_wB, sI_wA, sI_wB, sI_wA, sI_wI, if_pos ⟨rfl, rfl⟩]
      · intro j hj
        rw [sA_wA, if_neg (by omega), sA_wB, sA_wA, if_neg (by omega), sA_wB, sA_wA, if_pos ⟨rfl, rfl⟩]
        show (if j < 12 then _ else _) = _
        rw [if_pos hj, sA_wI, x300]
      · intro j hj
        rw [sB_wA, sB_wB, if_neg (by omega), sB_wA, sB_wB, if_pos ⟨rfl, rfl⟩]
        show (if j < 12 then _ else _) = _
        rw [if_pos hj, sB_wA, sB_wI, x301]
      · intro j hj
        rw [sA_wA, if_neg (by omega), sA_wB, sA_wA, if_pos ⟨rfl, rfl⟩]
        show (if j < 12 then _ else _) = _
        rw [if_pos hj, sA_wB, sA_wA, if_neg (by omega), sA_wI, x302]
      · intro j hj
        rw [sB_wA, sB_wB, if_pos ⟨rfl, rfl⟩]
        show (if j < 12 then _ else _) = _
        rw [if_pos hj, sB_wA, sB_wB, if_neg (by omega), sB_wA, sB_wI, x303]
      · rw [sA_wA, if_pos ⟨rfl, rfl⟩]
        show pm_up _ 0 _ 0 = _
        rw [up_eq]
        exact y304 _ _ _ _
      · rw [sN_wA, sN_wB, sN_wA, sN_wB, sN_wA, sN_wI]
        exact xN
  · have r1 : f_L_template a s = some (1, wN s) := by
      refine of_ok ?_
      unfold f_L_template f_X5_template
      refine ok_bind (ok_eq (k5_isAxis a s) ?_)
      rw [if_neg ha]
      refine ok_neg (show ¬ (0 : Int) ≠ 0 by decide) (ok_some ?_)
      show ok (if (0 : Nat) = 0 then some (1, wN s) else none) _
      exact ok_pos rfl (ok_some rfl)
    have r2 : f_X6_template a (wN s) = some (0, wI (wN s) 600 0 1) := by
      refine of_ok ?_
      unfold f_X6_template f_X6_template_13
      refine ok_eq (k6_isAxis a _) ?_
      rw [if_neg ha]
      exact ok_neg (show ¬ (0 : Int) ≠ 0 by decide) (ok_eq (k6_fails1 0 _) (ok_neg (show ¬ (1 : Int) = 0 by decide) (ok_some rfl)))
    refine ok_of r1 (ok_of r2 ⟨r600 _ _, fun hh => absurd (show (1 : Int) = 0 from hh) (by decide), inv_6 (fr4_wI (by unfold d6; omega) (fr4_wN (fr4_refl _ _))) hI, ?_⟩)
    rw [sN_wI, sN_wN]
    exact Nat.le_refl _
