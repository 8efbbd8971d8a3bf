/-! ===== LAYOUT: the operation ===== -/
/-- the fields that a layout leaves alone -/
def dK (f : Nat) : Prop := f ≤ 7 ∨ (300 ≤ f ∧ f ≤ 599) ∨ (601 ≤ f ∧ f ≤ 628) ∨ 700 ≤ f
theorem inv_lay {s w : pS} {n : Nat} {L : Nat → Nat → Int} {c : Nat → Nat} (hI : Inv s) (hn : sI s 504 0 = (n : Int)) (hfr : fr dK s w) (h629 : sI w 629 0 = 1) (h630 : sI w 630 0 = (n : Int))
    (hax : ∀ a, a < 2 → c a ≤ 12 ∧ lnb s a (c a) n (L a) ∧ sI w 8 a = (c a : Int) ∧ sA w 11 a = L a ∧ sA w 633 0 a = (c a : Int) ∧ (∀ j, j < n → sA w 631 0 (2 * j + a) = L a j) ∧ (∀ j, n ≤ j → j < 10 → L a j = 0)
      ∧ (∀ t, t < c a → sB w 9 a t = sB w 634 0 (12 * a + t) ∧ sB w 10 a t = sB w 637 0 (12 * a + t) ∧ fb 120 (sB w 9 a t) ∧ fb 120 (sB w 10 a t)) ∧ sF w 13 a = sB w 638 0 a ∧ fb 120 (sF w 13 a) ∧ ∀ j, j < n → L a j ≠ 0 → sB w 12 a j = sB w 632 0 (2 * j + a) ∧ fb 120 (sB w 12 a j))
    (hX : ∀ j, j < n → (L 0 j = 0 ↔ L 1 j = 0)) : Inv w := by
  obtain ⟨hT, hR, hP0, hP1, hC, hI0, hI1, hF, hS0, hS1, hL0, hL1, hX'⟩ := hI
  have d1 : ∀ f, f ≤ 7 ∨ (300 ≤ f ∧ f ≤ 599) ∨ (601 ≤ f ∧ f ≤ 628) ∨ 700 ≤ f → dK f := fun f h => h
  have kI : ∀ f i, dK f → sI w f i = sI s f i := fun f i h => (hfr.1 f i h).1
  have kF : ∀ f i, dK f → sF w f i = sF s f i := fun f i h => (hfr.1 f i h).2.1
  have kA : ∀ f i, dK f → sA w f i = sA s f i := fun f i h => (hfr.1 f i h).2.2.1
  have kB : ∀ f i, dK f → sB w f i = sB s f i := fun f i h => (hfr.1 f i h).2.2.2
  have gp : ∀ a, gPs s a → gPs w a := by
    intro a h
    unfold gPs
    rw [kI 304 a (d1 304 (by omega)), kA 300 a (d1 300 (by omega)), kB 301 a (d1 301 (by omega)), kA 302 a (d1 302 (by omega)), kB 303 a (d1 303 (by omega)), kA 604 0 (d1 604 (by omega)), kA 605 0 (d1 605 (by omega)), kA 606 0 (d1 606 (by omega)), kB 607 0 (d1 607 (by omega)), kB 608 0 (d1 608 (by omega))]
    exact h
  have gi : ∀ a, gIs s a → gIs w a := by
    intro a h
    unfold gIs
    rw [kI 504 0 (d1 504 (by omega)), kA 4 a (d1 4 (by omega)), kA 5 a (d1 5 (by omega)), kB 6 a (d1 6 (by omega)), kB 7 a (d1 7 (by omega)), kA 620 0 (d1 620 (by omega)), kA 621 0 (d1 621 (by omega)), kB 622 0 (d1 622 (by omega)), kB 623 0 (d1 623 (by omega))]
    exact h
  have gs : ∀ a, gSs s a → gSs w a := by
    intro a h
    unfold gSs
    rw [kF 1 a (d1 1 (by omega)), kF 2 a (d1 2 (by omega)), kI 3 a (d1 3 (by omega)), kB 626 0 (d1 626 (by omega)), kB 627 0 (d1 627 (by omega)), kA 628 0 (d1 628 (by omega))]
    exact h
  have hn2 : n ≤ 10 := by have := hC.2.2; omega
  have gl : ∀ a, a < 2 → gIs s a → gLs w a := by
    intro a ha hIa
    obtain ⟨c1, c2, c3, c4, c5, c6, c7, c8, c9, c10, c11⟩ := hax a ha
    unfold gLs
    rw [kI 504 0 (d1 504 (by omega)), h629, h630, c3, c4, hn]
    refine ⟨Or.inr ⟨rfl, by omega, by omega, c5.symm, c9, fun t ht => c8 t (by omega)⟩, c10, by omega, by omega, fun j hj => ⟨fun hjn => ?_, fun hjn => c7 j (by omega) hj⟩⟩
    have hjn' : j < n := by omega
    obtain ⟨b1, b2⟩ := c2 j hjn'
    obtain ⟨q1, -⟩ := hIa j hj
    have q := q1 (by rw [hn]; omega)
    refine ⟨(c6 j hjn').symm, b1, ?_, fun h0 => c11 j hjn' h0⟩
    by_cases h0 : L a j = 0
    · omega
    · have := b2 h0
      omega
  refine ⟨?_, ?_, gp 0 hP0, gp 1 hP1, ?_, gi 0 hI0, gi 1 hI1, ?_, gs 0 hS0, gs 1 hS1, gl 0 (by omega) hI0, gl 1 (by omega) hI1, ?_⟩
  · unfold gTs
    rw [kI 403 0 (d1 403 (by omega)), kI 601 0 (d1 601 (by omega)), kA 402 0 (d1 402 (by omega)), kA 602 0 (d1 602 (by omega))]
    exact hT
  · rw [kI 505 0 (d1 505 (by omega)), kI 603 0 (d1 603 (by omega))]
    exact hR
  · rw [kI 504 0 (d1 504 (by omega)), kI 619 0 (d1 619 (by omega))]
    exact hC
  · rw [kI 506 0 (d1 506 (by omega)), kI 507 0 (d1 507 (by omega)), kI 624 0 (d1 624 (by omega)), kI 625 0 (d1 625 (by omega))]
    exact hF
  · rw [(hax 0 (by omega)).2.2.2.1, (hax 1 (by omega)).2.2.2.1]
    intro j hj
    by_cases hjn : j < n
    · exact hX j hjn
    · rw [(hax 0 (by omega)).2.2.2.2.2.2.1 j (by omega) hj, (hax 1 (by omega)).2.2.2.2.2.2.1 j (by omega) hj]
theorem k6_layout_36 (n : Nat) (S : pS) (L : Nat → Int) (hn : n ≤ 10) (h619 : sI S 619 0 = (n : Int)) (hL : ∀ j, j < n → (sA S 631 0 (2 * j) ≤ 0 ↔ L j = 0)) : f_X6_layout_36 (fun x1 s7 => some (x1, s7)) 400 0 0 S = some (cpd L n, S) := by
  refine of_ok ?_
  refine itS (fun r k => f_X6_layout_36 (fun x1 s7 => some (x1, s7)) r (cpd L k) (k : Int) S) n _ (fun r k hk ih => ?_) (fun r => ?_) 400 0 (by omega) (by omega)
  · have hq := cpd_q L k
    rw [f_X6_layout_36]
    unfold f_X6_layout_61
    rw [show (2 * (k : Int)).toNat = 2 * k by omega]
    rw [cpd] at ih
    refine ok_neg (by omega) (ok_ck (inR_of (by omega)) (ok_ck (by omega) (ok_if (fun q => ok_ck (inR_of (by omega)) (ok_bs (ok_ck (inR_of (by omega)) ?_))) (fun q => ok_ck (inR_of (by omega)) (ok_bs (ok_ck (inR_of (by omega)) ?_))))))
    · rw [if_pos ((hL k hk).mp q)] at ih
      rw [show cpd L k + 0 = cpd L k by omega]
      exact ih
    · rw [if_neg (fun h => q ((hL k hk).mpr h))] at ih
      exact ih
  · rw [f_X6_layout_36]
    exact ok_pos (by omega) (ok_some rfl)
theorem lay_core (m : Nat) (s : pS) (hm2 : m < 2) (hmain : sI s 624 0 = (m : Int)) (hI : Inv s) :
    ok (f_X5_layout_25 (m : Int) ((1 - m : Nat) : Int) s) (fun q => ok (f_X6_layout q.2) (fun r => q.1 = r.1 ∧ Inv r.2 ∧ sN r.2 ≤ sN s + 1)) := by
  have hI' := hI
  obtain ⟨hT, hR, hP0, hP1, hC, hI0, hI1, hF, hS0, hS1, hL0, hL1, hX'⟩ := hI'
  obtain ⟨n, hn⟩ : ∃ n : Nat, sI s 504 0 = (n : Int) := ⟨(sI s 504 0).toNat, by have := hC.2.1; omega⟩
  have hn2 : n ≤ 10 := by have := hC.2.2; omega
  obtain ⟨-, hpk1, hpk2⟩ := hF
  have gP : ∀ a, a < 2 → gPs s a := fun a ha => by
    rcases (by omega : a = 0 ∨ a = 1) with rfl | rfl
    · exact hP0
    · exact hP1
  have gI' : ∀ a, a < 2 → gIs s a := fun a ha => by
    rcases (by omega : a = 0 ∨ a = 1) with rfl | rfl
    · exact hI0
    · exact hI1
  have gS' : ∀ a, a < 2 → gSs s a := fun a ha => by
    rcases (by omega : a = 0 ∨ a = 1) with rfl | rfl
    · exact hS0
    · exact hS1
  have it : ∀ a, a < 2 → ∀ j, j < n → sA s 4 a j = sA s 620 0 (2 * j + a) ∧ sA s 5 a j = sA s 621 0 (2 * j + a) ∧ 0 ≤ sA s 4 a j ∧ sA s 4 a j ≤ 12 ∧ 1 ≤ sA s 5 a j ∧ sA s 5 a j ≤ 4 ∧ sA s 4 a j + sA s 5 a j ≤ 13 := by
    intro a ha j hj
    obtain ⟨q1, -⟩ := gI' a ha j (by omega)
    obtain ⟨x1, x2, x3, x4, x5, x6, x7, x8, x9⟩ := q1 (by rw [hn]; omega)
    exact ⟨x1, x2, x5, x6, x7, x8, x9⟩
  generalize hhm : (fun j => (sA s 5 m j).toNat) = hm
  generalize hwo : (fun j => (sA s 5 (1 - m) j).toNat) = wo
  have ehm : ∀ j, j < n → sA s 5 m j = (hm j : Int) := fun j hj => by
    rw [← hhm]
    have := it m hm2 j hj
    show sA s 5 m j = ((sA s 5 m j).toNat : Int)
    omega
  have ewo : ∀ j, j < n → sA s 5 (1 - m) j = (wo j : Int) := fun j hj => by
    rw [← hwo]
    have := it (1 - m) (by omega) j hj
    show sA s 5 (1 - m) j = ((sA s 5 (1 - m) j).toNat : Int)
    omega
  have hB : ∀ j, j < n → 0 ≤ sA s 4 m j ∧ sA s 4 m j ≤ 12 ∧ 0 ≤ sA s 4 (1 - m) j ∧ sA s 4 (1 - m) j ≤ 12 ∧ 1 ≤ hm j ∧ hm j ≤ 4 ∧ 1 ≤ wo j ∧ wo j ≤ 4 ∧ sA s 4 m j + hm j ≤ 13 ∧ sA s 4 (1 - m) j + wo j ≤ 13 := by
    intro j hj
    have h1 := it m hm2 j hj
    have h2 := it (1 - m) (by omega) j hj
    have h3 := ehm j hj
    have h4 := ewo j hj
    omega
  obtain ⟨pM1, pM2, pM3, -⟩ := gP m hm2
  obtain ⟨pO1, pO2, pO3, -⟩ := gP (1 - m) (by omega)
  unfold f_X5_layout_25
  simp only [nnat, hn]
  refine ok_ck (by omega) (ok_ck (by omega) (ok_bind ?_))
  refine ok_mono (k1_placeAll m n s (sI s 507 0) (sI s 304 m) (sI s 304 (1 - m)) (sA s 4 m) (sA s 4 (1 - m)) hm wo hm2 hn2 hpk2 rfl rfl ⟨pM2, pM3⟩ pO3 (fun j hj => ⟨rfl, rfl, ehm j hj, ewo j hj⟩) hB) (fun q3 h3 => ?_)
  obtain ⟨s', LB, cm, co, hs', hIt, hpin, rfl⟩ := h3
  have hfar : ∀ j, n ≤ j → j < 10 → (plQ (sA s 4 m) (sA s 4 (1 - m)) hm wo (cao (sI s 304 (1 - m)) (sA s 4 (1 - m)) wo n) (sI s 507 0) n (flo 0 10 (fun _ => 0) (sA s 11 m), flo 0 10 (fun _ => 0) (sA s 11 (1 - m)), flo 0 144 (fun _ => 0) (sA s 107 0)) (flo 0 13 (fun _ => 1) (sA s 108 0))).1 j = 0 ∧ (plQ (sA s 4 m) (sA s 4 (1 - m)) hm wo (cao (sI s 304 (1 - m)) (sA s 4 (1 - m)) wo n) (sI s 507 0) n (flo 0 10 (fun _ => 0) (sA s 11 m), flo 0 10 (fun _ => 0) (sA s 11 (1 - m)), flo 0 144 (fun _ => 0) (sA s 107 0)) (flo 0 13 (fun _ => 1) (sA s 108 0))).2.1 j = 0 := by
    intro j hj hj2
    have := plQ_far (sm := sA s 4 m) (so := sA s 4 (1 - m)) (hm := hm) (wo := wo) (cnt := cao (sI s 304 (1 - m)) (sA s 4 (1 - m)) wo n) (pk := sI s 507 0) (Q0 := (flo 0 10 (fun _ => 0) (sA s 11 m), flo 0 10 (fun _ => 0) (sA s 11 (1 - m)), flo 0 144 (fun _ => 0) (sA s 107 0))) (LB0 := flo 0 13 (fun _ => 1) (sA s 108 0)) hj
    refine ⟨this.1.trans ?_, this.2.trans ?_⟩
    · show flo 0 10 (fun _ => (0 : Int)) (sA s 11 m) j = 0
      rw [flo_in (by omega)]
    · show flo 0 10 (fun _ => (0 : Int)) (sA s 11 (1 - m)) j = 0
      rw [flo_in (by omega)]
  have hagr : ∀ T', agP (plQ (sA s 4 m) (sA s 4 (1 - m)) hm wo (cao (sI s 304 (1 - m)) (sA s 4 (1 - m)) wo n) (sI s 507 0) n (flo 0 10 (fun _ => 0) (sA s 11 m), flo 0 10 (fun _ => 0) (sA s 11 (1 - m)), flo 0 144 (fun _ => 0) (sA s 107 0)) (flo 0 13 (fun _ => 1) (sA s 108 0))) (plQ (sA s 4 m) (sA s 4 (1 - m)) hm wo (cao (sI s 304 (1 - m)) (sA s 4 (1 - m)) wo n) (sI s 507 0) n (fun _ => 0, fun _ => 0, flo 0 144 (fun _ => 0) T') (flo 0 13 (fun _ => 1) (sA s 108 0))) := by
    intro T'
    refine agP_plQ hIt.2.2.1 ⟨fun j hj => ?_, fun j hj => ?_, fun q hq => ?_⟩
    · show flo 0 10 (fun _ => (0 : Int)) (sA s 11 m) j = 0
      rw [flo_in (by omega)]
    · show flo 0 10 (fun _ => (0 : Int)) (sA s 11 (1 - m)) j = 0
      rw [flo_in (by omega)]
    · show flo 0 144 (fun _ => (0 : Int)) (sA s 107 0) q = flo 0 144 (fun _ => (0 : Int)) T' q
      rw [flo_in (by omega), flo_in (by omega)]
  generalize plQ (sA s 4 m) (sA s 4 (1 - m)) hm wo (cao (sI s 304 (1 - m)) (sA s 4 (1 - m)) wo n) (sI s 507 0) n (flo 0 10 (fun _ => 0) (sA s 11 m), flo 0 10 (fun _ => 0) (sA s 11 (1 - m)), flo 0 144 (fun _ => 0) (sA s 107 0)) (flo 0 13 (fun _ => 1) (sA s 108 0)) = Q at *
  obtain ⟨-, hc1, hc2, -⟩ := id hIt
  have rr := rch_q (lm := Q.1) (hm := hm) (M := 12) (by omega) (n := n) (fun j hj h => by have := hpin j hj; omega) (k := n) (Nat.le_refl _)
  generalize hcnt : cao (sI s 304 (1 - m)) (sA s 4 (1 - m)) wo n = cnt at *
  have hCM : 0 ≤ (if sI s 304 m < rch Q.1 hm n then rch Q.1 hm n else sI s 304 m) ∧ (if sI s 304 m < rch Q.1 hm n then rch Q.1 hm n else sI s 304 m) ≤ 12 ∧ rch Q.1 hm n ≤ (if sI s 304 m < rch Q.1 hm n then rch Q.1 hm n else sI s 304 m) := by
    split <;> omega
  generalize hcM : (if sI s 304 m < rch Q.1 hm n then rch Q.1 hm n else sI s 304 m) = CM at *
  dsimp only
  generalize hZ1 : wI (wI (mkR s' m Q LB cm co) 8 m CM) 8 (1 - m) cnt = S1
  have f1 : fr dC s S1 := by
    rw [← hZ1, hs']
    unfold mkR
    exact fr_wI (by unfold dC; omega) (fr_wI (by unfold dC; omega) (fr_mkP (fr_wI (by unfold dC; omega) (fr_wI (by unfold dC; omega) (fr_wI (by unfold dC; omega) (fr_wI (by unfold dC; omega) (fr_wI (by unfold dC; omega) (fr_refl _ _))))))))
  have c8 : ∀ a, a < 2 → sI S1 8 a = if a = m then CM else cnt := by
    intro a ha
    rw [← hZ1, sI_wI, sI_wI]
    by_cases h : a = m
    · rw [if_neg (by omega), if_pos ⟨rfl, h⟩, if_pos h]
    · rw [if_pos ⟨rfl, by omega⟩, if_neg h]
  have c11 : ∀ a, a < 2 → sA S1 11 a = if a = m then Q.1 else Q.2.1 := by
    intro a ha
    rw [← hZ1, sA_wI, sA_wI]
    by_cases h : a = m
    · rw [if_pos h, h]; exact p11m _ _ _ _ _ _ _ _ hm2
    · rw [if_neg h, show a = 1 - m by omega]; exact p11o _ _ _ _ _ _ _ _
  generalize hcf : (fun a : Nat => if a = m then CM.toNat else cnt.toNat) = cf
  generalize hLf : (fun a : Nat => if a = m then Q.1 else Q.2.1) = Lf
  have ecf : ∀ a, a < 2 → sI S1 8 a = (cf a : Int) ∧ cf a ≤ 12 := by
    intro a ha
    rw [c8 a ha, ← hcf]
    show (if a = m then CM else cnt) = ((if a = m then CM.toNat else cnt.toNat : Nat) : Int) ∧ (if a = m then CM.toNat else cnt.toNat) ≤ 12
    split <;> omega
  have eLf : ∀ a, a < 2 → sA S1 11 a = Lf a := by
    intro a ha
    rw [c11 a ha, ← hLf]
  have hlnb : ∀ a, a < 2 → lnb s a (cf a) n (Lf a) := by
    intro a ha j hj
    have hp := hpin j hj
    have e8 := (ecf a ha).1
    rw [c8 a ha] at e8
    by_cases h : a = m
    · subst h
      rw [if_pos rfl] at e8
      rw [← hLf]
      show 0 ≤ (if a = a then Q.1 else Q.2.1) j ∧ ((if a = a then Q.1 else Q.2.1) j ≠ 0 → (if a = a then Q.1 else Q.2.1) j - 1 + sA s 5 a j ≤ (cf a : Int))
      rw [if_pos rfl, ehm j hj]
      refine ⟨by omega, fun h0 => ?_⟩
      have := rr.2.2 j hj h0
      omega
    · have h' : a = 1 - m := by omega
      rw [if_neg h] at e8
      rw [← hLf]
      show 0 ≤ (if a = m then Q.1 else Q.2.1) j ∧ ((if a = m then Q.1 else Q.2.1) j ≠ 0 → (if a = m then Q.1 else Q.2.1) j - 1 + sA s 5 a j ≤ (cf a : Int))
      rw [if_neg h, h', ewo j hj, ← h']
      exact ⟨by omega, fun h0 => by omega⟩
  have q504 : sI S1 504 0 = (n : Int) := ((f1.1 504 0 (by unfold dC; omega)).1).trans hn
  rw [q504]
  refine ok_seq (L_work (a := 0) (S := S1) (by omega) hP0 hI0 hS0 hn hn2 f1 (ecf 0 (by omega)).1 (ecf 0 (by omega)).2 (eLf 0 (by omega)) (hlnb 0 (by omega))) (fun u0 hu0 => ?_)
  obtain ⟨f2, x0, y0⟩ := hu0
  have q504b : sI u0 504 0 = (n : Int) := ((f2.1 504 0 (by unfold dC; omega)).1).trans hn
  rw [q504b]
  refine ok_seq (L_work (a := 1) (S := u0) (by omega) hP1 hI1 hS1 hn hn2 f2 (((y0 8 1 (by omega) (by omega)).1).trans (ecf 1 (by omega)).1) (ecf 1 (by omega)).2 (((y0 11 1 (by omega) (by omega)).2.2.1).trans (eLf 1 (by omega))) (hlnb 1 (by omega))) (fun u1 hu1 => ok_some ?_)
  obtain ⟨f3, x1, y1⟩ := hu1
  have x0' := axC_fr (by omega : (0 : Nat) ≠ 1) y1 x0
  dsimp only
  -- the reference
  unfold f_X6_layout
  refine ok_bs ?_
  generalize hv0 : wI u1 600 0 0 = v0
  have m1 : fr dM u1 v0 := by rw [← hv0]; exact fr_wI (by unfold dM; omega) (fr_refl _ _)
  have told : fr dT s v0 := fr_trans (fr_sub (fun f hf => by unfold dT at hf; unfold dC; omega) f3) (fr_sub (fun f hf => by unfold dT at hf; unfold dM; omega) m1)
  have tI : ∀ f i, dT f → sI v0 f i = sI s f i := fun f i h => (told.1 f i h).1
  have tA : ∀ f i, dT f → sA v0 f i = sA s f i := fun f i h => (told.1 f i h).2.2.1
  have dt : ∀ f, 601 ≤ f ∧ f ≤ 628 → dT f := fun f h => h
  refine ok_seq (k7_places m n v0 (sI s 507 0) (sI s 304 m) (sI s 304 (1 - m)) (sA s 4 m) (sA s 4 (1 - m)) hm wo (flo 0 13 (fun _ => 1) (sA s 108 0)) hm2 hn2 ((tI 624 0 (dt 624 (by omega))).trans hmain) ((tI 625 0 (dt 625 (by omega))).trans hpk1.symm) ((tI 619 0 (dt 619 (by omega))).trans (hC.1 ▸ hn)) (by rw [tA 604 0 (dt 604 (by omega))]; exact pM1.symm) (by rw [tA 604 0 (dt 604 (by omega))]; exact pO1.symm) ⟨pM2, pM3⟩ pO3 (fun v hv => flo_in (by omega)) (fun j hj => ?_) hB) (fun v1 hv1 => ?_)
  · rw [tA 620 0 (dt 620 (by omega)), tA 621 0 (dt 621 (by omega)), show 2 * j + 1 - m = 2 * j + (1 - m) by omega, ← ehm j hj, ← ewo j hj]
    exact ⟨(it m hm2 j hj).1.symm, (it (1 - m) (by omega) j hj).1.symm, (it m hm2 j hj).2.1.symm, (it (1 - m) (by omega) j hj).2.1.symm⟩
  · obtain ⟨cm', co', Q', t0, t1, hQ', ht0, ht1, hv1⟩ := hv1
    have hag := hagr (sA v0 639 0)
    rw [hcnt] at hQ' ht0 ht1 hv1
    rw [← hQ'] at hag
    have eR : rch Q'.1 hm n = rch Q.1 hm n := rch_congr (fun j hj => (hag.1 j (by omega)).symm)
    rw [eR, hcM] at ht0 ht1
    have m2 : fr dM u1 v1 := by
      rw [hv1]
      exact fr_wA (by unfold dM; omega) (fr_mkQ (fr_wI (by unfold dM; omega) m1))
    have told1 : fr dT s v1 := fr_trans (fr_sub (fun f hf => by unfold dT at hf; unfold dC; omega) f3) (fr_sub (fun f hf => by unfold dT at hf; unfold dM; omega) m2)
    have h633 : ∀ a, a < 2 → sA v1 633 0 a = (cf a : Int) := by
      intro a ha
      rw [← (ecf a ha).1, c8 a ha, hv1, sA_wA, if_pos ⟨rfl, rfl⟩]
      rcases (by omega : a = 0 ∨ a = 1) with rfl | rfl
      · rw [up_ne _ _ (by omega), up_eq, ht0]
        by_cases h0 : m = 0
        · rw [if_pos h0, if_pos (by omega)]
        · rw [if_neg h0, if_neg (by omega)]
      · rw [up_eq, ht1]
        by_cases h0 : m = 0
        · rw [if_pos h0, if_neg (by omega)]
        · rw [if_neg h0, if_pos (by omega)]
    have h631 : ∀ a, a < 2 → ∀ j, j < n → sA v1 631 0 (2 * j + a) = Lf a j := by
      intro a ha j hj
      rw [hv1, sA_wA, if_neg (by omega), q631, ← hLf]
      show _ = (if a = m then Q.1 else Q.2.1) j
      by_cases h : a = m
      · rw [if_pos h, h, l2_m hm2 (by omega)]
        exact (hag.1 j (by omega)).symm
      · rw [if_neg h, show 2 * j + a = 2 * j + 1 - m by omega, l2_o hm2 (by omega)]
        exact (hag.2.1 j (by omega)).symm
    refine ok_seq (L_sizes (a := 0) (S := v1) (fun _ => 0) (by omega) hP0 hI0 hS0 hC hn hn2 told1 (h633 0 (by omega)) (ecf 0 (by omega)).2 (h631 0 (by omega)) (hlnb 0 (by omega))) (fun v2 hv2 => ?_)
    obtain ⟨z1, a1, b1⟩ := hv2
    have told2 : fr dT s v2 := fr_trans told1 (fr_sub (fun f hf => by unfold dT at hf; unfold dZ; omega) z1)
    have dz631 : dZ 631 := by unfold dZ; omega
    have dz633 : dZ 633 := by unfold dZ; omega
    refine ok_seq (L_sizes (a := 1) (S := v2) (fun _ => 0) (by omega) hP1 hI1 hS1 hC hn hn2 told2 (by rw [(z1.1 633 0 dz633).2.2.1]; exact h633 1 (by omega)) (ecf 1 (by omega)).2 (fun j hj => by rw [(z1.1 631 0 dz631).2.2.1]; exact h631 1 (by omega) j hj) (hlnb 1 (by omega))) (fun v3 hv3 => ?_)
    obtain ⟨z2, a2, b2⟩ := hv3
    have a1' := axM_fr (by omega : (0 : Nat) ≠ 1) (by omega) (ecf 0 (by omega)).2 b2 a1
    have z3 := fr_trans z1 z2
    have told3 : fr dT s v3 := fr_trans told2 (fr_sub (fun f hf => by unfold dT at hf; unfold dZ; omega) z2)
    have q619 : sI v3 619 0 = (n : Int) := ((told3.1 619 0 (dt 619 (by omega))).1).trans (hC.1 ▸ hn)
    refine ok_bs (ok_bs ?_)
    rw [show sI (wI v3 629 0 1) 619 0 = (n : Int) from q619]
    generalize hw : wI (wI v3 629 0 1) 630 0 (n : Int) = w
    have w619 : sI w 619 0 = (n : Int) := by rw [← hw]; exact q619
    have wA' : ∀ f i, sA w f i = sA v3 f i := fun f i => by rw [← hw]; rfl
    have wB' : ∀ f i, sB w f i = sB v3 f i := fun f i => by rw [← hw]; rfl
    have hLz : ∀ j, j < n → (Lf 0 j = 0 ↔ Lf 1 j = 0) ∧ (Lf 0 j = 0 ↔ Q.1 j = 0) := by
      intro j hj
      have hp := hpin j hj
      rw [← hLf]
      show ((if 0 = m then Q.1 else Q.2.1) j = 0 ↔ (if 1 = m then Q.1 else Q.2.1) j = 0) ∧ ((if 0 = m then Q.1 else Q.2.1) j = 0 ↔ Q.1 j = 0)
      by_cases h : 0 = m
      · rw [if_pos h, if_neg (show ¬ 1 = m by omega)]
        omega
      · rw [if_neg h, if_pos (show 1 = m by omega)]
        omega
    have hcount := k6_layout_36 n w (Lf 0) hn2 w619 (fun j hj => by
      have e := h631 0 (by omega) j hj
      rw [wA', (z3.1 631 0 dz631).2.2.1, show 2 * j = 2 * j + 0 by omega, e]
      have := (hlnb 0 (by omega) j hj).1
      omega)
    refine ok_of hcount ⟨cpd_congr (fun j hj => (hLz j hj).2.symm), ?_, ?_⟩
    · have mw : fr dM u1 w := by
        rw [← hw]
        exact fr_wI (by unfold dM; omega) (fr_wI (by unfold dM; omega) (fr_trans m2 (fr_sub (fun f hf => by unfold dM at hf; unfold dZ; omega) z3)))
      have hK : fr dK s w := fr_trans (fr_sub (fun f hf => by unfold dK at hf; unfold dC; omega) f3) (fr_sub (fun f hf => by unfold dK at hf; unfold dM; omega) mw)
      have dm : ∀ f, f ≤ 599 → dM f := fun f h => Or.inl h
      have xa : ∀ a, a < 2 → axC s u1 a (cf a) n (Lf a) ∧ axM s v3 a (cf a) n (Lf a) (fun _ => 0) ∧ gSs s a := by
        intro a ha
        rcases (by omega : a = 0 ∨ a = 1) with rfl | rfl
        · exact ⟨x0', a1', hS0⟩
        · exact ⟨x1, a2, hS1⟩
      refine inv_lay (n := n) (L := Lf) (c := cf) hI hn hK (by rw [← hw]; rfl) (by rw [← hw]; rfl) (fun a ha => ?_) (fun j hj => (hLz j hj).1)
      obtain ⟨xc, xm, gsa⟩ := xa a ha
      obtain ⟨e1, e2, e3, e4⟩ := ax_same (ecf a ha).2 (fun j hj => by have := it a ha j hj; omega) gsa.2.2.2.2.2.2.2.2 (hlnb a ha) xc xm
      rw [(mw.1 8 a (dm 8 (by omega))).1, (mw.1 11 a (dm 11 (by omega))).2.2.1, wA', wA', (mw.1 9 a (dm 9 (by omega))).2.2.2, (mw.1 10 a (dm 10 (by omega))).2.2.2, (mw.1 12 a (dm 12 (by omega))).2.2.2, (mw.1 13 a (dm 13 (by omega))).2.1, wB', wB', wB', wB']
      refine ⟨(ecf a ha).2, hlnb a ha, xc.1, xc.2.1, ?_, fun j hj => ?_, fun j hj hj2 => ?_, e1, e2, e3, e4⟩
      · rw [(z3.1 633 0 dz633).2.2.1]; exact h633 a ha
      · rw [(z3.1 631 0 dz631).2.2.1]; exact h631 a ha j hj
      · have h := hfar j hj hj2
        rw [← hLf]
        show (if a = m then Q.1 else Q.2.1) j = 0
        split
        · exact h.1
        · exact h.2
    · have e1 : sN w = sN v3 := by rw [← hw]; rfl
      have e2 := z3.2.2
      have e3 := m2.2.2
      have e4 := f3.2.2
      show sN w ≤ sN s + 1
      omega
theorem op_layout (s : pS) (hI : Inv s) : opI f_X5_layout f_X6_layout s := by
  have hF := hI.2.2.2.2.2.2.2.1
  obtain ⟨h | h, -, -⟩ := hF
  · unfold opI f_X5_layout f_X5_layout_12
    rw [if_pos h.1, if_pos h.1]
    exact lay_core 1 s (by omega) h.2 hI
  · unfold opI f_X5_layout f_X5_layout_12
    rw [if_neg (by omega), if_neg (by omega)]
    exact lay_core 0 s (by omega) h.2 hI
