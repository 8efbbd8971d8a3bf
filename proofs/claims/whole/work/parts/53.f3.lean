/-! ===== THE METHODS AS FUNCTIONS (written by wip/whole/gen_fun.py) ===== -/
noncomputable def f_X1_placeByCursor_76 (K2 : Int → pS → Option (pS)) (K82 : pS → Option (pS)) (x1 : Int) (s : pS) : Option (pS) := ck (inR (x1 + 1)) (K2 (x1 + 1) s)
set_option maxRecDepth 10000 in
theorem t_X1_placeByCursor_76 (xs : Nat → Int) (e : Nat) (q : pS) (X : List (Option pV) → List pV → Nat → pH → Prop) (hX : pm_clo 1001 xs (pCall pm_tx 1001 xs pm_P (e + 4)) (e + 4) mX1_placeByCursor (eU q) X) (K2 : Int → pS → Option (pS)) (K82 : pS → Option (pS)) (hK2 : ∀ (x1 : Int) (s : pS), K2 x1 s = some q → X [some (vR (cc 1 0)), some (vI x1)] [] 2 (pW s)) (hK82 : ∀ (d0 : Option pV) (d1 : Option pV) (s : pS), K82 s = some q → X [d0, d1] [] 82 (pW s)) : ∀  (x1 : Int) (s : pS), f_X1_placeByCursor_76 K2 K82 x1 s = some q → X [some (vR (cc 1 0)), some (vI x1)] [] 76 (pW s) := by
  intro x1 s h
  unfold f_X1_placeByCursor_76 at h
  obtain ⟨c1, h⟩ := ck_some h
  refine r_iinc hX (p2 := 79) (ls2 := [some (vR (cc 1 0)), some (vI (x1 + 1))]) rfl rfl rfl rfl c1 rfl ?_
  refine r_goto hX (p2 := 2) rfl (by decide) ?_
  exact hK2 (x1 + 1) s h
noncomputable def f_X1_placeByCursor_42 (K2 : Int → pS → Option (pS)) (K82 : pS → Option (pS)) (x1 : Int) (s : pS) : Option (pS) := ck (0 ≤ (sI s 101 0) ∧ (sI s 101 0) < 2) (ck (0 ≤ x1 ∧ x1 < 10) ((if (sA s 4 ((sI s 101 0).toNat) x1.toNat) = 0 then (f_X1_placeAnywhere x1 s).bind (fun q3 => f_X1_placeByCursor_76 K2 K82 x1 q3) else ck (0 ≤ (sI s 101 0) ∧ (sI s 101 0) < 2) (ck (0 ≤ x1 ∧ x1 < 10) ((f_X1_placeOnOtherLine x1 (sA s 4 ((sI s 101 0).toNat) x1.toNat) s).bind (fun q6 => f_X1_placeByCursor_76 K2 K82 x1 q6))))))
set_option maxRecDepth 10000 in
theorem t_X1_placeByCursor_42 (xs : Nat → Int) (e : Nat) (q : pS) (X : List (Option pV) → List pV → Nat → pH → Prop) (hX : pm_clo 1001 xs (pCall pm_tx 1001 xs pm_P (e + 4)) (e + 4) mX1_placeByCursor (eU q) X) (K2 : Int → pS → Option (pS)) (K82 : pS → Option (pS)) (hK2 : ∀ (x1 : Int) (s : pS), K2 x1 s = some q → X [some (vR (cc 1 0)), some (vI x1)] [] 2 (pW s)) (hK82 : ∀ (d0 : Option pV) (d1 : Option pV) (s : pS), K82 s = some q → X [d0, d1] [] 82 (pW s)) : ∀  (x1 : Int) (s : pS), f_X1_placeByCursor_42 K2 K82 x1 s = some q → X [some (vR (cc 1 0)), some (vI x1)] [] 42 (pW s) := by
  intro x1 s h
  unfold f_X1_placeByCursor_42 at h
  refine r_aload_n hX (p2 := 43) rfl rfl rfl ⟨_, Or.inl rfl⟩ ?_
  obtain ⟨c1, h⟩ := ck_some h
  refine r_gf hX (p2 := 46) (v := vR (cc 0 ((sI s 101 0).toNat))) rfl rfl (hc1 0 (by decide)) rfl rfl rfl ?_
  refine r_gf hX (p2 := 49) (v := vR (ca 4 ((sI s 101 0).toNat))) rfl rfl (hc0 ((sI s 101 0).toNat) (tn_lt c1)) rfl rfl rfl ?_
  refine r_iload_n hX (p2 := 50) rfl rfl rfl ?_
  obtain ⟨c2, h⟩ := ck_some h
  refine r_iaload hX (p2 := 51) (j := x1.toNat) rfl rfl (ha4 ((sI s 101 0).toNat) (tn_lt c1)) rfl rfl c2 rfl ?_
  refine r_if hX (p2 := 71) (p3 := 54) (P := (sA s 4 ((sI s 101 0).toNat) x1.toNat) = 0) rfl (by decide) rfl rfl (fun p7 => ?_) (fun p7 => ?_)
  · have h := it_pos h p7
    refine r_aload_n hX (p2 := 72) rfl rfl rfl ⟨_, Or.inl rfl⟩ ?_
    refine r_iload_n hX (p2 := 73) rfl rfl rfl ?_
    obtain ⟨q3, hq3, h⟩ := bd_some h
    refine r_callv hX (p2 := 76) (v := none) (as := [vI x1]) (r := []) (st2 := []) rfl rfl rfl rfl rfl (hc1 0 (by decide)) rfl rfl (c_X1_placeAnywhere xs e x1 s q3 hq3) ?_
    exact t_X1_placeByCursor_76 xs e q X hX _ _ hK2 hK82 x1 q3 h
  · have h := it_neg h p7
    refine r_aload_n hX (p2 := 55) rfl rfl rfl ⟨_, Or.inl rfl⟩ ?_
    refine r_iload_n hX (p2 := 56) rfl rfl rfl ?_
    refine r_aload_n hX (p2 := 57) rfl rfl rfl ⟨_, Or.inl rfl⟩ ?_
    obtain ⟨c4, h⟩ := ck_some h
    refine r_gf hX (p2 := 60) (v := vR (cc 0 ((sI s 101 0).toNat))) rfl rfl (hc1 0 (by decide)) rfl rfl rfl ?_
    refine r_gf hX (p2 := 63) (v := vR (ca 4 ((sI s 101 0).toNat))) rfl rfl (hc0 ((sI s 101 0).toNat) (tn_lt c4)) rfl rfl rfl ?_
    refine r_iload_n hX (p2 := 64) rfl rfl rfl ?_
    obtain ⟨c5, h⟩ := ck_some h
    refine r_iaload hX (p2 := 65) (j := x1.toNat) rfl rfl (ha4 ((sI s 101 0).toNat) (tn_lt c4)) rfl rfl c5 rfl ?_
    obtain ⟨q6, hq6, h⟩ := bd_some h
    refine r_callv hX (p2 := 68) (v := none) (as := [vI x1, vI (sA s 4 ((sI s 101 0).toNat) x1.toNat)]) (r := []) (st2 := []) rfl rfl rfl rfl rfl (hc1 0 (by decide)) rfl rfl (c_X1_placeOnOtherLine xs e x1 (sA s 4 ((sI s 101 0).toNat) x1.toNat) s q6 hq6) ?_
    refine r_goto hX (p2 := 76) rfl (by decide) ?_
    exact t_X1_placeByCursor_76 xs e q X hX _ _ hK2 hK82 x1 q6 h
noncomputable def f_X1_placeByCursor_2 (K82 : pS → Option (pS)) : Nat → Int → pS → Option (pS)
  | 0, _, _ => none
  | n + 1, x1, s => (if (sI s 102 0) ≤ x1 then K82 s else ck (0 ≤ (sI s 100 0) ∧ (sI s 100 0) < 2) (ck (0 ≤ x1 ∧ x1 < 10) ((if (sA s 4 ((sI s 100 0).toNat) x1.toNat) = 0 then (if (sI s 103 0) = 0 then f_X1_placeByCursor_42 (f_X1_placeByCursor_2 K82 n) K82 x1 s else bs (wI s 105 0 1) (fun s3 => bs (wI s3 106 0 1) (fun s4 => f_X1_placeByCursor_42 (f_X1_placeByCursor_2 K82 n) K82 x1 s4))) else f_X1_placeByCursor_76 (f_X1_placeByCursor_2 K82 n) K82 x1 s))))
set_option maxRecDepth 10000 in
theorem t_X1_placeByCursor_2 (xs : Nat → Int) (e : Nat) (q : pS) (X : List (Option pV) → List pV → Nat → pH → Prop) (hX : pm_clo 1001 xs (pCall pm_tx 1001 xs pm_P (e + 4)) (e + 4) mX1_placeByCursor (eU q) X) (K82 : pS → Option (pS)) (hK82 : ∀ (d0 : Option pV) (d1 : Option pV) (s : pS), K82 s = some q → X [d0, d1] [] 82 (pW s)) : ∀ (n : Nat) (x1 : Int) (s : pS), f_X1_placeByCursor_2 K82 n x1 s = some q → X [some (vR (cc 1 0)), some (vI x1)] [] 2 (pW s) := by
  intro n
  induction n with
  | zero =>
    intro x1 s h
    rw [f_X1_placeByCursor_2] at h
    cases h
  | succ n ih =>
    intro x1 s h
    rw [f_X1_placeByCursor_2] at h
    refine r_iload_n hX (p2 := 3) rfl rfl rfl ?_
    refine r_aload_n hX (p2 := 4) rfl rfl rfl ⟨_, Or.inl rfl⟩ ?_
    refine r_gf hX (p2 := 7) (v := vI (sI s 102 0)) rfl rfl (hc1 0 (by decide)) rfl rfl rfl ?_
    refine r_icmp hX (p2 := 82) (p3 := 10) (P := (sI s 102 0) ≤ x1) rfl (by decide) rfl rfl (fun p7 => ?_) (fun p7 => ?_)
    · have h := it_pos h p7
      exact hK82 (some (vR (cc 1 0))) (some (vI x1)) s h
    · have h := it_neg h p7
      refine r_aload_n hX (p2 := 11) rfl rfl rfl ⟨_, Or.inl rfl⟩ ?_
      obtain ⟨c1, h⟩ := ck_some h
      refine r_gf hX (p2 := 14) (v := vR (cc 0 ((sI s 100 0).toNat))) rfl rfl (hc1 0 (by decide)) rfl rfl rfl ?_
      refine r_gf hX (p2 := 17) (v := vR (ca 4 ((sI s 100 0).toNat))) rfl rfl (hc0 ((sI s 100 0).toNat) (tn_lt c1)) rfl rfl rfl ?_
      refine r_iload_n hX (p2 := 18) rfl rfl rfl ?_
      obtain ⟨c2, h⟩ := ck_some h
      refine r_iaload hX (p2 := 19) (j := x1.toNat) rfl rfl (ha4 ((sI s 100 0).toNat) (tn_lt c1)) rfl rfl c2 rfl ?_
      refine r_if hX (p2 := 25) (p3 := 22) (P := (sA s 4 ((sI s 100 0).toNat) x1.toNat) = 0) rfl (by decide) rfl rfl (fun p6 => ?_) (fun p6 => ?_)
      · have h := it_pos h p6
        refine r_aload_n hX (p2 := 26) rfl rfl rfl ⟨_, Or.inl rfl⟩ ?_
        refine r_gf hX (p2 := 29) (v := vI (sI s 103 0)) rfl rfl (hc1 0 (by decide)) rfl rfl rfl ?_
        refine r_if hX (p2 := 42) (p3 := 32) (P := (sI s 103 0) = 0) rfl (by decide) rfl rfl (fun p5 => ?_) (fun p5 => ?_)
        · have h := it_pos h p5
          exact t_X1_placeByCursor_42 xs e q X hX _ _ ih hK82 x1 s h
        · have h := it_neg h p5
          refine r_aload_n hX (p2 := 33) rfl rfl rfl ⟨_, Or.inl rfl⟩ ?_
          refine r_iconst hX (p2 := 34) rfl rfl rfl ?_
          obtain ⟨s3, hs3, h⟩ := bs_some h
          refine r_pfI hX (p2 := 37) rfl rfl (hc1 0 (by decide)) rfl rfl rfl rfl rfl rfl hs3 ?_
          refine r_aload_n hX (p2 := 38) rfl rfl rfl ⟨_, Or.inl rfl⟩ ?_
          refine r_iconst hX (p2 := 39) rfl rfl rfl ?_
          obtain ⟨s4, hs4, h⟩ := bs_some h
          refine r_pfI hX (p2 := 42) rfl rfl (hc1 0 (by decide)) rfl rfl rfl rfl rfl rfl hs4 ?_
          exact t_X1_placeByCursor_42 xs e q X hX _ _ ih hK82 x1 s4 h
      · have h := it_neg h p6
        refine r_goto hX (p2 := 76) rfl (by decide) ?_
        exact t_X1_placeByCursor_76 xs e q X hX _ _ ih hK82 x1 s h
noncomputable def f_X1_placeByCursor (s : pS) : Option (pS) := f_X1_placeByCursor_2 (fun s1 => some s1) 400 0 s
set_option maxRecDepth 10000 in
theorem c_X1_placeByCursor (xs : Nat → Int) (e : Nat) (s : pS) (q : pS) (h : f_X1_placeByCursor s = some q) : pCall pm_tx 1001 xs pm_P (e + 4 + 1) 11 [vR (cc 1 0)] (pW s) (.inl none) (pW q) := by
  refine pCall_of mX1_placeByCursor rfl rfl (fun X hX => ?_)
  show X [some (vR (cc 1 0)), none] [] 0 (pW s)
  replace hX : pm_clo 1001 xs (pCall pm_tx 1001 xs pm_P (e + 4)) (e + 4) mX1_placeByCursor (eU q) X := hX
  unfold f_X1_placeByCursor at h
  refine r_iconst hX (p2 := 1) rfl rfl rfl ?_
  refine r_istore_n hX (p2 := 2) (ls2 := [some (vR (cc 1 0)), some (vI 0)]) rfl rfl rfl rfl ?_
  refine t_X1_placeByCursor_2 xs e q X hX _ (fun d0 d1 s1 h => ?_) 400 0 s h
  exact r_return hX rfl rfl (eU_ok h)
noncomputable def f_X0_reach_38 (i0 : Nat) (K4 : Int → Int → Int → pS → Option (Int × pS)) (K44 : Int → pS → Option (Int × pS)) (x1 : Int) (x2 : Int) (x3 : Int) (s : pS) : Option (Int × pS) := ck (inR (x3 + 1)) (K4 x1 x2 (x3 + 1) s)
set_option maxRecDepth 10000 in
theorem t_X0_reach_38 (xs : Nat → Int) (e : Nat) (i0 : Nat) (hi0 : i0 < 2) (q : Int × pS) (X : List (Option pV) → List pV → Nat → pH → Prop) (hX : pm_clo 1001 xs (pCall pm_tx 1001 xs pm_P (e + 1)) (e + 1) mX0_reach (eI q) X) (K4 : Int → Int → Int → pS → Option (Int × pS)) (K44 : Int → pS → Option (Int × pS)) (hK4 : ∀ (x1 : Int) (x2 : Int) (x3 : Int) (s : pS), K4 x1 x2 x3 s = some q → X [some (vR (cc 0 i0)), some (vI x1), some (vI x2), some (vI x3)] [] 4 (pW s)) (hK44 : ∀ (x2 : Int) (d0 : Option pV) (d1 : Option pV) (d3 : Option pV) (s : pS), K44 x2 s = some q → X [d0, d1, some (vI x2), d3] [] 44 (pW s)) : ∀  (x1 : Int) (x2 : Int) (x3 : Int) (s : pS), f_X0_reach_38 i0 K4 K44 x1 x2 x3 s = some q → X [some (vR (cc 0 i0)), some (vI x1), some (vI x2), some (vI x3)] [] 38 (pW s) := by
  intro x1 x2 x3 s h
  unfold f_X0_reach_38 at h
  obtain ⟨c1, h⟩ := ck_some h
  refine r_iinc hX (p2 := 41) (ls2 := [some (vR (cc 0 i0)), some (vI x1), some (vI x2), some (vI (x3 + 1))]) rfl rfl rfl rfl c1 rfl ?_
  refine r_goto hX (p2 := 4) rfl (by decide) ?_
  exact hK4 x1 x2 (x3 + 1) s h
noncomputable def f_X0_reach_4 (i0 : Nat) (K44 : Int → pS → Option (Int × pS)) : Nat → Int → Int → Int → pS → Option (Int × pS)
  | 0, _, _, _, _ => none
  | n + 1, x1, x2, x3, s => (if x1 ≤ x3 then K44 x2 s else ck (0 ≤ x3 ∧ x3 < 10) ((if (sA s 11 i0 x3.toNat) = 0 then f_X0_reach_38 i0 (f_X0_reach_4 i0 K44 n) K44 x1 x2 x3 s else ck (0 ≤ x3 ∧ x3 < 10) (ck (0 ≤ x3 ∧ x3 < 10) (ck (inR ((sA s 11 i0 x3.toNat) + (sA s 5 i0 x3.toNat))) (ck (inR (((sA s 11 i0 x3.toNat) + (sA s 5 i0 x3.toNat)) - 1)) (bs ((if x2 < (((sA s 11 i0 x3.toNat) + (sA s 5 i0 x3.toNat)) - 1) then (((sA s 11 i0 x3.toNat) + (sA s 5 i0 x3.toNat)) - 1) else x2)) (fun v6 => f_X0_reach_38 i0 (f_X0_reach_4 i0 K44 n) K44 x1 v6 x3 s))))))))
set_option maxRecDepth 10000 in
theorem t_X0_reach_4 (xs : Nat → Int) (e : Nat) (i0 : Nat) (hi0 : i0 < 2) (q : Int × pS) (X : List (Option pV) → List pV → Nat → pH → Prop) (hX : pm_clo 1001 xs (pCall pm_tx 1001 xs pm_P (e + 1)) (e + 1) mX0_reach (eI q) X) (K44 : Int → pS → Option (Int × pS)) (hK44 : ∀ (x2 : Int) (d0 : Option pV) (d1 : Option pV) (d3 : Option pV) (s : pS), K44 x2 s = some q → X [d0, d1, some (vI x2), d3] [] 44 (pW s)) : ∀ (n : Nat) (x1 : Int) (x2 : Int) (x3 : Int) (s : pS), f_X0_reach_4 i0 K44 n x1 x2 x3 s = some q → X [some (vR (cc 0 i0)), some (vI x1), some (vI x2), some (vI x3)] [] 4 (pW s) := by
  intro n
  induction n with
  | zero =>
    intro x1 x2 x3 s h
    rw [f_X0_reach_4] at h
    cases h
  | succ n ih =>
    intro x1 x2 x3 s h
    rw [f_X0_reach_4] at h
    refine r_iload_n hX (p2 := 5) rfl rfl rfl ?_
    refine r_iload_n hX (p2 := 6) rfl rfl rfl ?_
    refine r_icmp hX (p2 := 44) (p3 := 9) (P := x1 ≤ x3) rfl (by decide) rfl rfl (fun p8 => ?_) (fun p8 => ?_)
    · have h := it_pos h p8
      exact hK44 x2 (some (vR (cc 0 i0))) (some (vI x1)) (some (vI x3)) s h
    · have h := it_neg h p8
      refine r_aload_n hX (p2 := 10) rfl rfl rfl ⟨_, Or.inl rfl⟩ ?_
      refine r_gf hX (p2 := 13) (v := vR (ca 11 i0)) rfl rfl (hc0 i0 hi0) rfl rfl rfl ?_
      refine r_iload_n hX (p2 := 14) rfl rfl rfl ?_
      obtain ⟨c1, h⟩ := ck_some h
      refine r_iaload hX (p2 := 15) (j := x3.toNat) rfl rfl (ha11 i0 hi0) rfl rfl c1 rfl ?_
      refine r_if hX (p2 := 38) (p3 := 18) (P := (sA s 11 i0 x3.toNat) = 0) rfl (by decide) rfl rfl (fun p7 => ?_) (fun p7 => ?_)
      · have h := it_pos h p7
        exact t_X0_reach_38 xs e i0 hi0 q X hX _ _ ih hK44 x1 x2 x3 s h
      · have h := it_neg h p7
        refine r_iload_n hX (p2 := 19) rfl rfl rfl ?_
        refine r_aload_n hX (p2 := 20) rfl rfl rfl ⟨_, Or.inl rfl⟩ ?_
        refine r_gf hX (p2 := 23) (v := vR (ca 11 i0)) rfl rfl (hc0 i0 hi0) rfl rfl rfl ?_
        refine r_iload_n hX (p2 := 24) rfl rfl rfl ?_
        obtain ⟨c2, h⟩ := ck_some h
        refine r_iaload hX (p2 := 25) (j := x3.toNat) rfl rfl (ha11 i0 hi0) rfl rfl c2 rfl ?_
        refine r_aload_n hX (p2 := 26) rfl rfl rfl ⟨_, Or.inl rfl⟩ ?_
        refine r_gf hX (p2 := 29) (v := vR (ca 5 i0)) rfl rfl (hc0 i0 hi0) rfl rfl rfl ?_
        refine r_iload_n hX (p2 := 30) rfl rfl rfl ?_
        obtain ⟨c3, h⟩ := ck_some h
        refine r_iaload hX (p2 := 31) (j := x3.toNat) rfl rfl (ha5 i0 hi0) rfl rfl c3 rfl ?_
        obtain ⟨c4, h⟩ := ck_some h
        refine r_iadd hX (p2 := 32) rfl rfl c4 ?_
        refine r_iconst hX (p2 := 33) rfl rfl rfl ?_
        obtain ⟨c5, h⟩ := ck_some h
        refine r_isub hX (p2 := 34) rfl rfl c5 ?_
        refine r_max hX (p2 := 37) rfl rfl rfl (by omega) ?_
        obtain ⟨v6, hv6, h⟩ := bs_some h
        refine r_istoreE_n hX (p2 := 38) (ls2 := [some (vR (cc 0 i0)), some (vI x1), some (vI v6), some (vI x3)]) rfl rfl hv6 rfl rfl ?_
        exact t_X0_reach_38 xs e i0 hi0 q X hX _ _ ih hK44 x1 v6 x3 s h
noncomputable def f_X0_reach (i0 : Nat) (a1 : Int) (s : pS) : Option (Int × pS) := f_X0_reach_4 i0 (fun x2 s1 => some (x2, s1)) 400 a1 0 0 s
set_option maxRecDepth 10000 in
theorem c_X0_reach (xs : Nat → Int) (e : Nat) (i0 : Nat) (a1 : Int) (hi0 : i0 < 2) (s : pS) (q : Int × pS) (h : f_X0_reach i0 a1 s = some q) : pCall pm_tx 1001 xs pm_P (e + 1 + 1) 3 [vR (cc 0 i0), vI a1] (pW s) (.inl (some (vI q.1))) (pW q.2) := by
  refine pCall_of mX0_reach rfl rfl (fun X hX => ?_)
  show X [some (vR (cc 0 i0)), some (vI a1), none, none] [] 0 (pW s)
  replace hX : pm_clo 1001 xs (pCall pm_tx 1001 xs pm_P (e + 1)) (e + 1) mX0_reach (eI q) X := hX
  unfold f_X0_reach at h
  refine r_iconst hX (p2 := 1) rfl rfl rfl ?_
  refine r_istore_n hX (p2 := 2) (ls2 := [some (vR (cc 0 i0)), some (vI a1), some (vI 0), none]) rfl rfl rfl rfl ?_
  refine r_iconst hX (p2 := 3) rfl rfl rfl ?_
  refine r_istore_n hX (p2 := 4) (ls2 := [some (vR (cc 0 i0)), some (vI a1), some (vI 0), some (vI 0)]) rfl rfl rfl rfl ?_
  refine t_X0_reach_4 xs e i0 hi0 q X hX _ (fun x2 d0 d1 d3 s1 h => ?_) 400 a1 0 0 s h
  refine r_iload_n hX (p2 := 45) rfl rfl rfl ?_
  exact r_iretI hX rfl rfl (eI_ok h)
noncomputable def f_X1_countPlaced_27 (K4 : Int → Int → pS → Option (Int × pS)) (K33 : Int → pS → Option (Int × pS)) (x1 : Int) (x2 : Int) (s : pS) : Option (Int × pS) := ck (inR (x2 + 1)) (K4 x1 (x2 + 1) s)
set_option maxRecDepth 10000 in
theorem t_X1_countPlaced_27 (xs : Nat → Int) (e : Nat) (q : Int × pS) (X : List (Option pV) → List pV → Nat → pH → Prop) (hX : pm_clo 1001 xs (pCall pm_tx 1001 xs pm_P e) e mX1_countPlaced (eI q) X) (K4 : Int → Int → pS → Option (Int × pS)) (K33 : Int → pS → Option (Int × pS)) (hK4 : ∀ (x1 : Int) (x2 : Int) (s : pS), K4 x1 x2 s = some q → X [some (vR (cc 1 0)), some (vI x1), some (vI x2)] [] 4 (pW s)) (hK33 : ∀ (x1 : Int) (d0 : Option pV) (d2 : Option pV) (s : pS), K33 x1 s = some q → X [d0, some (vI x1), d2] [] 33 (pW s)) : ∀  (x1 : Int) (x2 : Int) (s : pS), f_X1_countPlaced_27 K4 K33 x1 x2 s = some q → X [some (vR (cc 1 0)), some (vI x1), some (vI x2)] [] 27 (pW s) := by
  intro x1 x2 s h
  unfold f_X1_countPlaced_27 at h
  obtain ⟨c1, h⟩ := ck_some h
  refine r_iinc hX (p2 := 30) (ls2 := [some (vR (cc 1 0)), some (vI x1), some (vI (x2 + 1))]) rfl rfl rfl rfl c1 rfl ?_
  refine r_goto hX (p2 := 4) rfl (by decide) ?_
  exact hK4 x1 (x2 + 1) s h
noncomputable def f_X1_countPlaced_4 (K33 : Int → pS → Option (Int × pS)) : Nat → Int → Int → pS → Option (Int × pS)
  | 0, _, _, _ => none
  | n + 1, x1, x2, s => (if (sI s 102 0) ≤ x2 then K33 x1 s else ck (0 ≤ (sI s 100 0) ∧ (sI s 100 0) < 2) (ck (0 ≤ x2 ∧ x2 < 10) ((if (sA s 11 ((sI s 100 0).toNat) x2.toNat) = 0 then f_X1_countPlaced_27 (f_X1_countPlaced_4 K33 n) K33 x1 x2 s else ck (inR (x1 + 1)) (f_X1_countPlaced_27 (f_X1_countPlaced_4 K33 n) K33 (x1 + 1) x2 s)))))
set_option maxRecDepth 10000 in
theorem t_X1_countPlaced_4 (xs : Nat → Int) (e : Nat) (q : Int × pS) (X : List (Option pV) → List pV → Nat → pH → Prop) (hX : pm_clo 1001 xs (pCall pm_tx 1001 xs pm_P e) e mX1_countPlaced (eI q) X) (K33 : Int → pS → Option (Int × pS)) (hK33 : ∀ (x1 : Int) (d0 : Option pV) (d2 : Option pV) (s : pS), K33 x1 s = some q → X [d0, some (vI x1), d2] [] 33 (pW s)) : ∀ (n : Nat) (x1 : Int) (x2 : Int) (s : pS), f_X1_countPlaced_4 K33 n x1 x2 s = some q → X [some (vR (cc 1 0)), some (vI x1), some (vI x2)] [] 4 (pW s) := by
  intro n
  induction n with
  | zero =>
    intro x1 x2 s h
    rw [f_X1_countPlaced_4] at h
    cases h
  | succ n ih =>
    intro x1 x2 s h
    rw [f_X1_countPlaced_4] at h
    refine r_iload_n hX (p2 := 5) rfl rfl rfl ?_
    refine r_aload_n hX (p2 := 6) rfl rfl rfl ⟨_, Or.inl rfl⟩ ?_
    refine r_gf hX (p2 := 9) (v := vI (sI s 102 0)) rfl rfl (hc1 0 (by decide)) rfl rfl rfl ?_
    refine r_icmp hX (p2 := 33) (p3 := 12) (P := (sI s 102 0) ≤ x2) rfl (by decide) rfl rfl (fun p5 => ?_) (fun p5 => ?_)
    · have h := it_pos h p5
      exact hK33 x1 (some (vR (cc 1 0))) (some (vI x2)) s h
    · have h := it_neg h p5
      refine r_aload_n hX (p2 := 13) rfl rfl rfl ⟨_, Or.inl rfl⟩ ?_
      obtain ⟨c1, h⟩ := ck_some h
      refine r_gf hX (p2 := 16) (v := vR (cc 0 ((sI s 100 0).toNat))) rfl rfl (hc1 0 (by decide)) rfl rfl rfl ?_
      refine r_gf hX (p2 := 19) (v := vR (ca 11 ((sI s 100 0).toNat))) rfl rfl (hc0 ((sI s 100 0).toNat) (tn_lt c1)) rfl rfl rfl ?_
      refine r_iload_n hX (p2 := 20) rfl rfl rfl ?_
      obtain ⟨c2, h⟩ := ck_some h
      refine r_iaload hX (p2 := 21) (j := x2.toNat) rfl rfl (ha11 ((sI s 100 0).toNat) (tn_lt c1)) rfl rfl c2 rfl ?_
      refine r_if hX (p2 := 27) (p3 := 24) (P := (sA s 11 ((sI s 100 0).toNat) x2.toNat) = 0) rfl (by decide) rfl rfl (fun p4 => ?_) (fun p4 => ?_)
      · have h := it_pos h p4
        exact t_X1_countPlaced_27 xs e q X hX _ _ ih hK33 x1 x2 s h
      · have h := it_neg h p4
        obtain ⟨c3, h⟩ := ck_some h
        refine r_iinc hX (p2 := 27) (ls2 := [some (vR (cc 1 0)), some (vI (x1 + 1)), some (vI x2)]) rfl rfl rfl rfl c3 rfl ?_
        exact t_X1_countPlaced_27 xs e q X hX _ _ ih hK33 (x1 + 1) x2 s h
noncomputable def f_X1_countPlaced (s : pS) : Option (Int × pS) := f_X1_countPlaced_4 (fun x1 s1 => some (x1, s1)) 400 0 0 s
set_option maxRecDepth 10000 in
theorem c_X1_countPlaced (xs : Nat → Int) (e : Nat) (s : pS) (q : Int × pS) (h : f_X1_countPlaced s = some q) : pCall pm_tx 1001 xs pm_P (e + 1) 18 [vR (cc 1 0)] (pW s) (.inl (some (vI q.1))) (pW q.2) := by
  refine pCall_of mX1_countPlaced rfl rfl (fun X hX => ?_)
  show X [some (vR (cc 1 0)), none, none] [] 0 (pW s)
  replace hX : pm_clo 1001 xs (pCall pm_tx 1001 xs pm_P e) e mX1_countPlaced (eI q) X := hX
  unfold f_X1_countPlaced at h
  refine r_iconst hX (p2 := 1) rfl rfl rfl ?_
  refine r_istore_n hX (p2 := 2) (ls2 := [some (vR (cc 1 0)), some (vI 0), none]) rfl rfl rfl rfl ?_
  refine r_iconst hX (p2 := 3) rfl rfl rfl ?_
  refine r_istore_n hX (p2 := 4) (ls2 := [some (vR (cc 1 0)), some (vI 0), some (vI 0)]) rfl rfl rfl rfl ?_
  refine t_X1_countPlaced_4 xs e q X hX _ (fun x1 d0 d2 s1 h => ?_) 400 0 0 s h
  refine r_iload_n hX (p2 := 34) rfl rfl rfl ?_
  exact r_iretI hX rfl rfl (eI_ok h)
noncomputable def f_X1_placeAll (i1 : Nat) (i2 : Nat) (a3 : Int) (a4 : Int) (s : pS) : Option (Int × pS) := bs (wI s 100 0 (i1 : Nat)) (fun s1 => bs (wI s1 101 0 (i2 : Nat)) (fun s2 => bs (wI s2 102 0 a3) (fun s3 => ck (a4 = 0 ∨ a4 = 1) (bs (wI s3 103 0 a4) (fun s5 => ck (0 ≤ (sI s5 101 0) ∧ (sI s5 101 0) < 2) ((f_X0_countAsOther ((sI s5 101 0).toNat) (sI s5 102 0) s5).bind (fun q7 => bs (wI q7.2 104 0 q7.1) (fun s8 => (f_X1_clearPlaces s8).bind (fun q9 => (f_X1_placeTold q9).bind (fun q10 => (f_X1_placeWithMainStart q10).bind (fun q11 => (f_X1_placeByCursor q11).bind (fun q12 => ck (0 ≤ (sI q12 100 0) ∧ (sI q12 100 0) < 2) (ck (0 ≤ (sI q12 100 0) ∧ (sI q12 100 0) < 2) (ck (0 ≤ (sI q12 100 0) ∧ (sI q12 100 0) < 2) ((f_X0_reach ((sI q12 100 0).toNat) (sI q12 102 0) q12).bind (fun q16 => bs (wI q16.2 8 ((sI q12 100 0).toNat) (if (sI q12 304 ((sI q12 100 0).toNat)) < q16.1 then q16.1 else (sI q12 304 ((sI q12 100 0).toNat)))) (fun s17 => ck (0 ≤ (sI s17 101 0) ∧ (sI s17 101 0) < 2) (bs (wI s17 8 ((sI s17 101 0).toNat) (sI s17 104 0)) (fun s19 => (f_X1_countPlaced s19).bind (fun q20 => some (q20.1, q20.2)))))))))))))))))))))
set_option maxRecDepth 10000 in
theorem c_X1_placeAll (xs : Nat → Int) (e : Nat) (i1 : Nat) (i2 : Nat) (a3 : Int) (a4 : Int) (hi1 : i1 < 2) (hi2 : i2 < 2) (s : pS) (q : Int × pS) (h : f_X1_placeAll i1 i2 a3 a4 s = some q) : pCall pm_tx 1001 xs pm_P (e + 5 + 1) 6 [vR (cc 1 0), vR (cc 0 i1), vR (cc 0 i2), vI a3, vI a4] (pW s) (.inl (some (vI q.1))) (pW q.2) := by
  refine pCall_of mX1_placeAll rfl rfl (fun X hX => ?_)
  show X [some (vR (cc 1 0)), some (vR (cc 0 i1)), some (vR (cc 0 i2)), some (vI a3), some (vI a4)] [] 0 (pW s)
  replace hX : pm_clo 1001 xs (pCall pm_tx 1001 xs pm_P (e + 5)) (e + 5) mX1_placeAll (eI q) X := hX
  unfold f_X1_placeAll at h
  refine r_aload_n hX (p2 := 1) rfl rfl rfl ⟨_, Or.inl rfl⟩ ?_
  refine r_aload_n hX (p2 := 2) rfl rfl rfl ⟨_, Or.inl rfl⟩ ?_
  obtain ⟨s1, hs1, h⟩ := bs_some h
  refine r_pfM0 hX (p2 := 5) rfl rfl (hc1 0 (by decide)) hs1 ?_
  refine r_aload_n hX (p2 := 6) rfl rfl rfl ⟨_, Or.inl rfl⟩ ?_
  refine r_aload_n hX (p2 := 7) rfl rfl rfl ⟨_, Or.inl rfl⟩ ?_
  obtain ⟨s2, hs2, h⟩ := bs_some h
  refine r_pfM1 hX (p2 := 10) rfl rfl (hc1 0 (by decide)) hs2 ?_
  refine r_aload_n hX (p2 := 11) rfl rfl rfl ⟨_, Or.inl rfl⟩ ?_
  refine r_iload_n hX (p2 := 12) rfl rfl rfl ?_
  obtain ⟨s3, hs3, h⟩ := bs_some h
  refine r_pfI hX (p2 := 15) rfl rfl (hc1 0 (by decide)) rfl rfl rfl rfl rfl rfl hs3 ?_
  refine r_aload_n hX (p2 := 16) rfl rfl rfl ⟨_, Or.inl rfl⟩ ?_
  refine r_iload hX (p2 := 18) rfl rfl rfl ?_
  obtain ⟨c4, h⟩ := ck_some h
  obtain ⟨s5, hs5, h⟩ := bs_some h
  refine r_pfZ hX (p2 := 21) rfl rfl (hc1 0 (by decide)) rfl rfl rfl rfl rfl rfl hs5 c4 ?_
  refine r_aload_n hX (p2 := 22) rfl rfl rfl ⟨_, Or.inl rfl⟩ ?_
  refine r_aload_n hX (p2 := 23) rfl rfl rfl ⟨_, Or.inl rfl⟩ ?_
  obtain ⟨c6, h⟩ := ck_some h
  refine r_gf hX (p2 := 26) (v := vR (cc 0 ((sI s5 101 0).toNat))) rfl rfl (hc1 0 (by decide)) rfl rfl rfl ?_
  refine r_aload_n hX (p2 := 27) rfl rfl rfl ⟨_, Or.inl rfl⟩ ?_
  refine r_gf hX (p2 := 30) (v := vI (sI s5 102 0)) rfl rfl (hc1 0 (by decide)) rfl rfl rfl ?_
  obtain ⟨q7, hq7, h⟩ := bd_some h
  refine r_callv hX (p2 := 33) (v := some (vI q7.1)) (as := [vI (sI s5 102 0)]) (r := [vR (cc 1 0)]) (st2 := [vI q7.1, vR (cc 1 0)]) rfl rfl rfl rfl rfl (hc0 ((sI s5 101 0).toNat) (tn_lt c6)) rfl rfl (c_X0_countAsOther xs (e + 3) ((sI s5 101 0).toNat) (sI s5 102 0) (tn_lt c6) s5 q7 hq7) ?_
  obtain ⟨s8, hs8, h⟩ := bs_some h
  refine r_pfI hX (p2 := 36) rfl rfl (hc1 0 (by decide)) rfl rfl rfl rfl rfl rfl hs8 ?_
  refine r_aload_n hX (p2 := 37) rfl rfl rfl ⟨_, Or.inl rfl⟩ ?_
  obtain ⟨q9, hq9, h⟩ := bd_some h
  refine r_callv hX (p2 := 40) (v := none) (as := []) (r := []) (st2 := []) rfl rfl rfl rfl rfl (hc1 0 (by decide)) rfl rfl (c_X1_clearPlaces xs (e + 3) s8 q9 hq9) ?_
  refine r_aload_n hX (p2 := 41) rfl rfl rfl ⟨_, Or.inl rfl⟩ ?_
  obtain ⟨q10, hq10, h⟩ := bd_some h
  refine r_callv hX (p2 := 44) (v := none) (as := []) (r := []) (st2 := []) rfl rfl rfl rfl rfl (hc1 0 (by decide)) rfl rfl (c_X1_placeTold xs (e + 2) q9 q10 hq10) ?_
  refine r_aload_n hX (p2 := 45) rfl rfl rfl ⟨_, Or.inl rfl⟩ ?_
  obtain ⟨q11, hq11, h⟩ := bd_some h
  refine r_callv hX (p2 := 48) (v := none) (as := []) (r := []) (st2 := []) rfl rfl rfl rfl rfl (hc1 0 (by decide)) rfl rfl (c_X1_placeWithMainStart xs (e + 1) q10 q11 hq11) ?_
  refine r_aload_n hX (p2 := 49) rfl rfl rfl ⟨_, Or.inl rfl⟩ ?_
  obtain ⟨q12, hq12, h⟩ := bd_some h
  refine r_callv hX (p2 := 52) (v := none) (as := []) (r := []) (st2 := []) rfl rfl rfl rfl rfl (hc1 0 (by decide)) rfl rfl (c_X1_placeByCursor xs e q11 q12 hq12) ?_
  refine r_aload_n hX (p2 := 53) rfl rfl rfl ⟨_, Or.inl rfl⟩ ?_
  obtain ⟨c13, h⟩ := ck_some h
  refine r_gf hX (p2 := 56) (v := vR (cc 0 ((sI q12 100 0).toNat))) rfl rfl (hc1 0 (by decide)) rfl rfl rfl ?_
  refine r_aload_n hX (p2 := 57) rfl rfl rfl ⟨_, Or.inl rfl⟩ ?_
  obtain ⟨c14, h⟩ := ck_some h
  refine r_gf hX (p2 := 60) (v := vR (cc 0 ((sI q12 100 0).toNat))) rfl rfl (hc1 0 (by decide)) rfl rfl rfl ?_
  refine r_gf hX (p2 := 63) (v := vR (cc 3 ((sI q12 100 0).toNat))) rfl rfl (hc0 ((sI q12 100 0).toNat) (tn_lt c14)) rfl rfl rfl ?_
  refine r_gf hX (p2 := 66) (v := vI (sI q12 304 ((sI q12 100 0).toNat))) rfl rfl (hc3 ((sI q12 100 0).toNat) (Nat.lt_succ_of_lt (tn_lt c14))) rfl rfl rfl ?_
  refine r_aload_n hX (p2 := 67) rfl rfl rfl ⟨_, Or.inl rfl⟩ ?_
  obtain ⟨c15, h⟩ := ck_some h
  refine r_gf hX (p2 := 70) (v := vR (cc 0 ((sI q12 100 0).toNat))) rfl rfl (hc1 0 (by decide)) rfl rfl rfl ?_
  refine r_aload_n hX (p2 := 71) rfl rfl rfl ⟨_, Or.inl rfl⟩ ?_
  refine r_gf hX (p2 := 74) (v := vI (sI q12 102 0)) rfl rfl (hc1 0 (by decide)) rfl rfl rfl ?_
  obtain ⟨q16, hq16, h⟩ := bd_some h
  refine r_callv hX (p2 := 77) (v := some (vI q16.1)) (as := [vI (sI q12 102 0)]) (r := [vI (sI q12 304 ((sI q12 100 0).toNat)), vR (cc 0 ((sI q12 100 0).toNat))]) (st2 := [vI q16.1, vI (sI q12 304 ((sI q12 100 0).toNat)), vR (cc 0 ((sI q12 100 0).toNat))]) rfl rfl rfl rfl rfl (hc0 ((sI q12 100 0).toNat) (tn_lt c15)) rfl rfl (c_X0_reach xs (e + 3) ((sI q12 100 0).toNat) (sI q12 102 0) (tn_lt c15) q12 q16 hq16) ?_
  refine r_max hX (p2 := 80) rfl rfl rfl (by omega) ?_
  obtain ⟨s17, hs17, h⟩ := bs_some h
  refine r_pfI hX (p2 := 83) rfl rfl (hc0 ((sI q12 100 0).toNat) (tn_lt c13)) rfl rfl rfl rfl rfl rfl hs17 ?_
  refine r_aload_n hX (p2 := 84) rfl rfl rfl ⟨_, Or.inl rfl⟩ ?_
  obtain ⟨c18, h⟩ := ck_some h
  refine r_gf hX (p2 := 87) (v := vR (cc 0 ((sI s17 101 0).toNat))) rfl rfl (hc1 0 (by decide)) rfl rfl rfl ?_
  refine r_aload_n hX (p2 := 88) rfl rfl rfl ⟨_, Or.inl rfl⟩ ?_
  refine r_gf hX (p2 := 91) (v := vI (sI s17 104 0)) rfl rfl (hc1 0 (by decide)) rfl rfl rfl ?_
  obtain ⟨s19, hs19, h⟩ := bs_some h
  refine r_pfI hX (p2 := 94) rfl rfl (hc0 ((sI s17 101 0).toNat) (tn_lt c18)) rfl rfl rfl rfl rfl rfl hs19 ?_
  refine r_aload_n hX (p2 := 95) rfl rfl rfl ⟨_, Or.inl rfl⟩ ?_
  obtain ⟨q20, hq20, h⟩ := bd_some h
  refine r_callv hX (p2 := 98) (v := some (vI q20.1)) (as := []) (r := []) (st2 := [vI q20.1]) rfl rfl rfl rfl rfl (hc1 0 (by decide)) rfl rfl (c_X1_countPlaced xs (e + 4) s19 q20 hq20) ?_
  exact r_iretI hX rfl rfl (eI_ok h)
noncomputable def f_X5_greater_11 (y0 : UInt32) (s : pS) : Option (UInt32 × pS) := some (y0, s)
set_option maxRecDepth 10000 in
theorem t_X5_greater_11 (xs : Nat → Int) (e : Nat) (q : UInt32 × pS) (X : List (Option pV) → List pV → Nat → pH → Prop) (hX : pm_clo 1001 xs (pCall pm_tx 1001 xs pm_P e) e mX5_greater (eF q) X) : ∀  (y0 : UInt32) (d0 : Option pV) (d1 : Option pV) (s : pS), f_X5_greater_11 y0 s = some q → X [d0, d1] [vF y0] 11 (pW s) := by
  intro y0 d0 d1 s h
  unfold f_X5_greater_11 at h
  exact r_freturn hX rfl rfl (eF_ok h)
noncomputable def f_X5_greater (a0 : UInt32) (a1 : UInt32) (s : pS) : Option (UInt32 × pS) := (if (pm_fc .l a0 a1) < 0 then f_X5_greater_11 a1 s else f_X5_greater_11 a0 s)
set_option maxRecDepth 10000 in
theorem c_X5_greater (xs : Nat → Int) (e : Nat) (a0 : UInt32) (a1 : UInt32) (s : pS) (q : UInt32 × pS) (h : f_X5_greater a0 a1 s = some q) : pCall pm_tx 1001 xs pm_P (e + 1) 96 [vF a0, vF a1] (pW s) (.inl (some (vF q.1))) (pW q.2) := by
  refine pCall_of mX5_greater rfl rfl (fun X hX => ?_)
  show X [some (vF a0), some (vF a1)] [] 0 (pW s)
  replace hX : pm_clo 1001 xs (pCall pm_tx 1001 xs pm_P e) e mX5_greater (eF q) X := hX
  unfold f_X5_greater at h
  refine r_fload_n hX (p2 := 1) rfl rfl rfl ?_
  refine r_fload_n hX (p2 := 2) rfl rfl rfl ?_
  refine r_fcmp hX (p2 := 3) rfl rfl ?_
  refine r_if hX (p2 := 10) (p3 := 6) (P := (pm_fc .l a0 a1) < 0) rfl (by decide) rfl rfl (fun p1 => ?_) (fun p1 => ?_)
  · have h := it_pos h p1
    refine r_fload_n hX (p2 := 11) rfl rfl rfl ?_
    exact t_X5_greater_11 xs e q X hX a1 (some (vF a0)) (some (vF a1)) s h
  · have h := it_neg h p1
    refine r_fload_n hX (p2 := 7) rfl rfl rfl ?_
    refine r_goto hX (p2 := 11) rfl (by decide) ?_
    exact t_X5_greater_11 xs e q X hX a0 (some (vF a0)) (some (vF a1)) s h
noncomputable def f_X2_raiseLimits_2 (i0 : Nat) (K40 : pS → Option (pS)) : Nat → Int → pS → Option (pS)
  | 0, _, _ => none
  | n + 1, x1, s => (if (sI s 8 i0) ≤ x1 then K40 s else ck (0 ≤ x1 ∧ x1 < 12) (ck (0 ≤ x1 ∧ x1 < 12) ((f_X5_greater (sB s 203 i0 x1.toNat) (sB s 9 i0 x1.toNat) s).bind (fun q3 => ck (0 ≤ x1 ∧ x1 < 12) (bs (wB q3.2 203 i0 (pm_up (sB q3.2 203 i0) x1.toNat q3.1)) (fun s5 => ck (inR (x1 + 1)) (f_X2_raiseLimits_2 i0 K40 n (x1 + 1) s5)))))))
set_option maxRecDepth 10000 in
theorem t_X2_raiseLimits_2 (xs : Nat → Int) (e : Nat) (i0 : Nat) (hi0 : i0 < 2) (q : pS) (X : List (Option pV) → List pV → Nat → pH → Prop) (hX : pm_clo 1001 xs (pCall pm_tx 1001 xs pm_P (e + 1)) (e + 1) mX2_raiseLimits (eU q) X) (K40 : pS → Option (pS)) (hK40 : ∀ (d0 : Option pV) (d1 : Option pV) (s : pS), K40 s = some q → X [d0, d1] [] 40 (pW s)) : ∀ (n : Nat) (x1 : Int) (s : pS), f_X2_raiseLimits_2 i0 K40 n x1 s = some q → X [some (vR (cc 2 i0)), some (vI x1)] [] 2 (pW s) := by
  intro n
  induction n with
  | zero =>
    intro x1 s h
    rw [f_X2_raiseLimits_2] at h
    cases h
  | succ n ih =>
    intro x1 s h
    rw [f_X2_raiseLimits_2] at h
    refine r_iload_n hX (p2 := 3) rfl rfl rfl ?_
    refine r_aload_n hX (p2 := 4) rfl rfl rfl ⟨_, Or.inl rfl⟩ ?_
    refine r_gf hX (p2 := 7) (v := vR (cc 0 i0)) rfl rfl (hc2 i0 hi0) rfl rfl rfl ?_
    refine r_gf hX (p2 := 10) (v := vI (sI s 8 i0)) rfl rfl (hc0 i0 hi0) rfl rfl rfl ?_
    refine r_icmp hX (p2 := 40) (p3 := 13) (P := (sI s 8 i0) ≤ x1) rfl (by decide) rfl rfl (fun p7 => ?_) (fun p7 => ?_)
    · have h := it_pos h p7
      exact hK40 (some (vR (cc 2 i0))) (some (vI x1)) s h
    · have h := it_neg h p7
      refine r_aload_n hX (p2 := 14) rfl rfl rfl ⟨_, Or.inl rfl⟩ ?_
      refine r_gf hX (p2 := 17) (v := vR (ca 203 i0)) rfl rfl (hc2 i0 hi0) rfl rfl rfl ?_
      refine r_iload_n hX (p2 := 18) rfl rfl rfl ?_
      refine r_aload_n hX (p2 := 19) rfl rfl rfl ⟨_, Or.inl rfl⟩ ?_
      refine r_gf hX (p2 := 22) (v := vR (ca 203 i0)) rfl rfl (hc2 i0 hi0) rfl rfl rfl ?_
      refine r_iload_n hX (p2 := 23) rfl rfl rfl ?_
      obtain ⟨c1, h⟩ := ck_some h
      refine r_faload hX (p2 := 24) (j := x1.toNat) rfl rfl (ha203 i0 hi0) rfl rfl c1 rfl ?_
      refine r_aload_n hX (p2 := 25) rfl rfl rfl ⟨_, Or.inl rfl⟩ ?_
      refine r_gf hX (p2 := 28) (v := vR (ca 9 i0)) rfl rfl (hc2 i0 hi0) rfl rfl rfl ?_
      refine r_iload_n hX (p2 := 29) rfl rfl rfl ?_
      obtain ⟨c2, h⟩ := ck_some h
      refine r_faload hX (p2 := 30) (j := x1.toNat) rfl rfl (ha9 i0 hi0) rfl rfl c2 rfl ?_
      obtain ⟨q3, hq3, h⟩ := bd_some h
      refine r_calls4 hX (p2 := 33) (v := some (vF q3.1)) (as := [vF (sB s 203 i0 x1.toNat), vF (sB s 9 i0 x1.toNat)]) (r := [vI x1, vR (ca 203 i0)]) (st2 := [vF q3.1, vI x1, vR (ca 203 i0)]) rfl rfl rfl rfl rfl rfl (c_X5_greater xs e (sB s 203 i0 x1.toNat) (sB s 9 i0 x1.toNat) s q3 hq3) ?_
      obtain ⟨c4, h⟩ := ck_some h
      obtain ⟨s5, hs5, h⟩ := bs_some h
      refine r_fastore hX (p2 := 34) (j := x1.toNat) rfl rfl (ha203 i0 hi0) rfl rfl c4 rfl hs5 ?_
      obtain ⟨c6, h⟩ := ck_some h
      refine r_iinc hX (p2 := 37) (ls2 := [some (vR (cc 2 i0)), some (vI (x1 + 1))]) rfl rfl rfl rfl c6 rfl ?_
      refine r_goto hX (p2 := 2) rfl (by decide) ?_
      exact ih (x1 + 1) s5 h
noncomputable def f_X2_raiseLimits (i0 : Nat) (s : pS) : Option (pS) := f_X2_raiseLimits_2 i0 (fun s1 => some s1) 400 0 s
set_option maxRecDepth 10000 in
theorem c_X2_raiseLimits (xs : Nat → Int) (e : Nat) (i0 : Nat) (hi0 : i0 < 2) (s : pS) (q : pS) (h : f_X2_raiseLimits i0 s = some q) : pCall pm_tx 1001 xs pm_P (e + 1 + 1) 22 [vR (cc 2 i0)] (pW s) (.inl none) (pW q) := by
  refine pCall_of mX2_raiseLimits rfl rfl (fun X hX => ?_)
  show X [some (vR (cc 2 i0)), none] [] 0 (pW s)
  replace hX : pm_clo 1001 xs (pCall pm_tx 1001 xs pm_P (e + 1)) (e + 1) mX2_raiseLimits (eU q) X := hX
  unfold f_X2_raiseLimits at h
  refine r_iconst hX (p2 := 1) rfl rfl rfl ?_
  refine r_istore_n hX (p2 := 2) (ls2 := [some (vR (cc 2 i0)), some (vI 0)]) rfl rfl rfl rfl ?_
  refine t_X2_raiseLimits_2 xs e i0 hi0 q X hX _ (fun d0 d1 s1 h => ?_) 400 0 s h
  exact r_return hX rfl rfl (eU_ok h)
noncomputable def f_X2_beginSizes_63 (i0 : Nat) (K2 : Int → pS → Option (pS)) (K70 : pS → Option (pS)) (x1 : Int) (y1 : Int) (y2 : UInt32) (s : pS) : Option (pS) := ck (0 ≤ y1 ∧ y1 < 12) (bs (wB s 203 i0 (pm_up (sB s 203 i0) y1.toNat y2)) (fun s2 => ck (inR (x1 + 1)) (K2 (x1 + 1) s2)))
set_option maxRecDepth 10000 in
theorem t_X2_beginSizes_63 (xs : Nat → Int) (e : Nat) (i0 : Nat) (hi0 : i0 < 2) (q : pS) (X : List (Option pV) → List pV → Nat → pH → Prop) (hX : pm_clo 1001 xs (pCall pm_tx 1001 xs pm_P (e + 2)) (e + 2) mX2_beginSizes (eU q) X) (K2 : Int → pS → Option (pS)) (K70 : pS → Option (pS)) (hK2 : ∀ (x1 : Int) (s : pS), K2 x1 s = some q → X [some (vR (cc 2 i0)), some (vI x1)] [] 2 (pW s)) (hK70 : ∀ (d1 : Option pV) (s : pS), K70 s = some q → X [some (vR (cc 2 i0)), d1] [] 70 (pW s)) : ∀  (x1 : Int) (y1 : Int) (y2 : UInt32) (s : pS), f_X2_beginSizes_63 i0 K2 K70 x1 y1 y2 s = some q → X [some (vR (cc 2 i0)), some (vI x1)] [vF y2, vI y1, vR (ca 203 i0)] 63 (pW s) := by
  intro x1 y1 y2 s h
  unfold f_X2_beginSizes_63 at h
  obtain ⟨c1, h⟩ := ck_some h
  obtain ⟨s2, hs2, h⟩ := bs_some h
  refine r_fastore hX (p2 := 64) (j := y1.toNat) rfl rfl (ha203 i0 hi0) rfl rfl c1 rfl hs2 ?_
  obtain ⟨c3, h⟩ := ck_some h
  refine r_iinc hX (p2 := 67) (ls2 := [some (vR (cc 2 i0)), some (vI (x1 + 1))]) rfl rfl rfl rfl c3 rfl ?_
  refine r_goto hX (p2 := 2) rfl (by decide) ?_
  exact hK2 (x1 + 1) s2 h
noncomputable def f_X2_beginSizes_2 (i0 : Nat) (K70 : pS → Option (pS)) : Nat → Int → pS → Option (pS)
  | 0, _, _ => none
  | n + 1, x1, s => (if (sI s 8 i0) ≤ x1 then K70 s else ck (0 ≤ x1 ∧ x1 < 12) (ck (0 ≤ x1 ∧ x1 < 12) (bs (wB s 9 i0 (pm_up (sB s 9 i0) x1.toNat (sB s 301 i0 x1.toNat))) (fun s3 => ck (0 ≤ x1 ∧ x1 < 12) ((if (sA s3 302 i0 x1.toNat) ≠ 0 then ck (0 ≤ x1 ∧ x1 < 12) (f_X2_beginSizes_63 i0 (f_X2_beginSizes_2 i0 K70 n) K70 x1 x1 (sB s3 9 i0 x1.toNat) s3) else ck (0 ≤ x1 ∧ x1 < 12) (f_X2_beginSizes_63 i0 (f_X2_beginSizes_2 i0 K70 n) K70 x1 x1 (sB s3 303 i0 x1.toNat) s3)))))))
set_option maxRecDepth 10000 in
theorem t_X2_beginSizes_2 (xs : Nat → Int) (e : Nat) (i0 : Nat) (hi0 : i0 < 2) (q : pS) (X : List (Option pV) → List pV → Nat → pH → Prop) (hX : pm_clo 1001 xs (pCall pm_tx 1001 xs pm_P (e + 2)) (e + 2) mX2_beginSizes (eU q) X) (K70 : pS → Option (pS)) (hK70 : ∀ (d1 : Option pV) (s : pS), K70 s = some q → X [some (vR (cc 2 i0)), d1] [] 70 (pW s)) : ∀ (n : Nat) (x1 : Int) (s : pS), f_X2_beginSizes_2 i0 K70 n x1 s = some q → X [some (vR (cc 2 i0)), some (vI x1)] [] 2 (pW s) := by
  intro n
  induction n with
  | zero =>
    intro x1 s h
    rw [f_X2_beginSizes_2] at h
    cases h
  | succ n ih =>
    intro x1 s h
    rw [f_X2_beginSizes_2] at h
    refine r_iload_n hX (p2 := 3) rfl rfl rfl ?_
    refine r_aload_n hX (p2 := 4) rfl rfl rfl ⟨_, Or.inl rfl⟩ ?_
    refine r_gf hX (p2 := 7) (v := vR (cc 0 i0)) rfl rfl (hc2 i0 hi0) rfl rfl rfl ?_
    refine r_gf hX (p2 := 10) (v := vI (sI s 8 i0)) rfl rfl (hc0 i0 hi0) rfl rfl rfl ?_
    refine r_icmp hX (p2 := 70) (p3 := 13) (P := (sI s 8 i0) ≤ x1) rfl (by decide) rfl rfl (fun p8 => ?_) (fun p8 => ?_)
    · have h := it_pos h p8
      exact hK70 (some (vI x1)) s h
    · have h := it_neg h p8
      refine r_aload_n hX (p2 := 14) rfl rfl rfl ⟨_, Or.inl rfl⟩ ?_
      refine r_gf hX (p2 := 17) (v := vR (ca 9 i0)) rfl rfl (hc2 i0 hi0) rfl rfl rfl ?_
      refine r_iload_n hX (p2 := 18) rfl rfl rfl ?_
      refine r_aload_n hX (p2 := 19) rfl rfl rfl ⟨_, Or.inl rfl⟩ ?_
      refine r_gf hX (p2 := 22) (v := vR (cc 3 i0)) rfl rfl (hc2 i0 hi0) rfl rfl rfl ?_
      refine r_gf hX (p2 := 25) (v := vR (ca 301 i0)) rfl rfl (hc3 i0 (Nat.lt_succ_of_lt hi0)) rfl rfl rfl ?_
      refine r_iload_n hX (p2 := 26) rfl rfl rfl ?_
      obtain ⟨c1, h⟩ := ck_some h
      refine r_faload hX (p2 := 27) (j := x1.toNat) rfl rfl (ha301 i0 (Nat.lt_succ_of_lt hi0)) rfl rfl c1 rfl ?_
      obtain ⟨c2, h⟩ := ck_some h
      obtain ⟨s3, hs3, h⟩ := bs_some h
      refine r_fastore hX (p2 := 28) (j := x1.toNat) rfl rfl (ha9 i0 hi0) rfl rfl c2 rfl hs3 ?_
      refine r_aload_n hX (p2 := 29) rfl rfl rfl ⟨_, Or.inl rfl⟩ ?_
      refine r_gf hX (p2 := 32) (v := vR (ca 203 i0)) rfl rfl (hc2 i0 hi0) rfl rfl rfl ?_
      refine r_iload_n hX (p2 := 33) rfl rfl rfl ?_
      refine r_aload_n hX (p2 := 34) rfl rfl rfl ⟨_, Or.inl rfl⟩ ?_
      refine r_gf hX (p2 := 37) (v := vR (cc 3 i0)) rfl rfl (hc2 i0 hi0) rfl rfl rfl ?_
      refine r_gf hX (p2 := 40) (v := vR (ca 302 i0)) rfl rfl (hc3 i0 (Nat.lt_succ_of_lt hi0)) rfl rfl rfl ?_
      refine r_iload_n hX (p2 := 41) rfl rfl rfl ?_
      obtain ⟨c4, h⟩ := ck_some h
      refine r_iaload hX (p2 := 42) (j := x1.toNat) rfl rfl (ha302 i0 (Nat.lt_succ_of_lt hi0)) rfl rfl c4 rfl ?_
      refine r_if hX (p2 := 57) (p3 := 45) (P := (sA s3 302 i0 x1.toNat) ≠ 0) rfl (by decide) rfl rfl (fun p7 => ?_) (fun p7 => ?_)
      · have h := it_pos h p7
        refine r_aload_n hX (p2 := 58) rfl rfl rfl ⟨_, Or.inl rfl⟩ ?_
        refine r_gf hX (p2 := 61) (v := vR (ca 9 i0)) rfl rfl (hc2 i0 hi0) rfl rfl rfl ?_
        refine r_iload_n hX (p2 := 62) rfl rfl rfl ?_
        obtain ⟨c5, h⟩ := ck_some h
        refine r_faload hX (p2 := 63) (j := x1.toNat) rfl rfl (ha9 i0 hi0) rfl rfl c5 rfl ?_
        exact t_X2_beginSizes_63 xs e i0 hi0 q X hX _ _ ih hK70 x1 x1 (sB s3 9 i0 x1.toNat) s3 h
      · have h := it_neg h p7
        refine r_aload_n hX (p2 := 46) rfl rfl rfl ⟨_, Or.inl rfl⟩ ?_
        refine r_gf hX (p2 := 49) (v := vR (cc 3 i0)) rfl rfl (hc2 i0 hi0) rfl rfl rfl ?_
        refine r_gf hX (p2 := 52) (v := vR (ca 303 i0)) rfl rfl (hc3 i0 (Nat.lt_succ_of_lt hi0)) rfl rfl rfl ?_
        refine r_iload_n hX (p2 := 53) rfl rfl rfl ?_
        obtain ⟨c6, h⟩ := ck_some h
        refine r_faload hX (p2 := 54) (j := x1.toNat) rfl rfl (ha303 i0 (Nat.lt_succ_of_lt hi0)) rfl rfl c6 rfl ?_
        refine r_goto hX (p2 := 63) rfl (by decide) ?_
        exact t_X2_beginSizes_63 xs e i0 hi0 q X hX _ _ ih hK70 x1 x1 (sB s3 303 i0 x1.toNat) s3 h
noncomputable def f_X2_beginSizes (i0 : Nat) (s : pS) : Option (pS) := f_X2_beginSizes_2 i0 (fun s1 => (f_X2_raiseLimits i0 s1).bind (fun q2 => some q2)) 400 0 s
set_option maxRecDepth 10000 in
theorem c_X2_beginSizes (xs : Nat → Int) (e : Nat) (i0 : Nat) (hi0 : i0 < 2) (s : pS) (q : pS) (h : f_X2_beginSizes i0 s = some q) : pCall pm_tx 1001 xs pm_P (e + 2 + 1) 21 [vR (cc 2 i0)] (pW s) (.inl none) (pW q) := by
  refine pCall_of mX2_beginSizes rfl rfl (fun X hX => ?_)
  show X [some (vR (cc 2 i0)), none] [] 0 (pW s)
  replace hX : pm_clo 1001 xs (pCall pm_tx 1001 xs pm_P (e + 2)) (e + 2) mX2_beginSizes (eU q) X := hX
  unfold f_X2_beginSizes at h
  refine r_iconst hX (p2 := 1) rfl rfl rfl ?_
  refine r_istore_n hX (p2 := 2) (ls2 := [some (vR (cc 2 i0)), some (vI 0)]) rfl rfl rfl rfl ?_
  refine t_X2_beginSizes_2 xs e i0 hi0 q X hX _ (fun d1 s1 h => ?_) 400 0 s h
  refine r_aload_n hX (p2 := 71) rfl rfl rfl ⟨_, Or.inl rfl⟩ ?_
  obtain ⟨q2, hq2, h⟩ := bd_some h
  refine r_callv hX (p2 := 74) (v := none) (as := []) (r := []) (st2 := []) rfl rfl rfl rfl rfl (hc2 i0 hi0) rfl rfl (c_X2_raiseLimits xs e i0 hi0 s1 q2 hq2) ?_
  exact r_return hX rfl rfl (eU_ok h)
noncomputable def f_X2_meetLow_74 (i0 : Nat) (s : pS) : Option (pS) := some s
set_option maxRecDepth 10000 in
theorem t_X2_meetLow_74 (xs : Nat → Int) (e : Nat) (i0 : Nat) (hi0 : i0 < 2) (q : pS) (X : List (Option pV) → List pV → Nat → pH → Prop) (hX : pm_clo 1001 xs (pCall pm_tx 1001 xs pm_P (e + 1)) (e + 1) mX2_meetLow (eU q) X) : ∀  (d0 : Option pV) (d1 : Option pV) (d2 : Option pV) (d3 : Option pV) (s : pS), f_X2_meetLow_74 i0 s = some q → X [d0, d1, d2, d3] [] 74 (pW s) := by
  intro d0 d1 d2 d3 s h
  unfold f_X2_meetLow_74 at h
  exact r_return hX rfl rfl (eU_ok h)
noncomputable def f_X2_meetLow_26 (i0 : Nat) (x1 : Int) (x2 : UInt32) (s : pS) : Option (pS) := ck (0 ≤ x1 ∧ x1 < 12) ((f_X5_greater (sB s 9 i0 x1.toNat) x2 s).bind (fun q2 => ck (0 ≤ x1 ∧ x1 < 12) (bs (wB q2.2 9 i0 (pm_up (sB q2.2 9 i0) x1.toNat q2.1)) (fun s4 => f_X2_meetLow_74 i0 s4))))
set_option maxRecDepth 10000 in
theorem t_X2_meetLow_26 (xs : Nat → Int) (e : Nat) (i0 : Nat) (hi0 : i0 < 2) (q : pS) (X : List (Option pV) → List pV → Nat → pH → Prop) (hX : pm_clo 1001 xs (pCall pm_tx 1001 xs pm_P (e + 1)) (e + 1) mX2_meetLow (eU q) X) : ∀  (x1 : Int) (x2 : UInt32) (d3 : Option pV) (s : pS), f_X2_meetLow_26 i0 x1 x2 s = some q → X [some (vR (cc 2 i0)), some (vI x1), some (vF x2), d3] [] 26 (pW s) := by
  intro x1 x2 d3 s h
  unfold f_X2_meetLow_26 at h
  refine r_aload_n hX (p2 := 27) rfl rfl rfl ⟨_, Or.inl rfl⟩ ?_
  refine r_gf hX (p2 := 30) (v := vR (ca 9 i0)) rfl rfl (hc2 i0 hi0) rfl rfl rfl ?_
  refine r_iload_n hX (p2 := 31) rfl rfl rfl ?_
  refine r_aload_n hX (p2 := 32) rfl rfl rfl ⟨_, Or.inl rfl⟩ ?_
  refine r_gf hX (p2 := 35) (v := vR (ca 9 i0)) rfl rfl (hc2 i0 hi0) rfl rfl rfl ?_
  refine r_iload_n hX (p2 := 36) rfl rfl rfl ?_
  obtain ⟨c1, h⟩ := ck_some h
  refine r_faload hX (p2 := 37) (j := x1.toNat) rfl rfl (ha9 i0 hi0) rfl rfl c1 rfl ?_
  refine r_fload_n hX (p2 := 38) rfl rfl rfl ?_
  obtain ⟨q2, hq2, h⟩ := bd_some h
  refine r_calls4 hX (p2 := 41) (v := some (vF q2.1)) (as := [vF (sB s 9 i0 x1.toNat), vF x2]) (r := [vI x1, vR (ca 9 i0)]) (st2 := [vF q2.1, vI x1, vR (ca 9 i0)]) rfl rfl rfl rfl rfl rfl (c_X5_greater xs e (sB s 9 i0 x1.toNat) x2 s q2 hq2) ?_
  obtain ⟨c3, h⟩ := ck_some h
  obtain ⟨s4, hs4, h⟩ := bs_some h
  refine r_fastore hX (p2 := 42) (j := x1.toNat) rfl rfl (ha9 i0 hi0) rfl rfl c3 rfl hs4 ?_
  refine r_goto hX (p2 := 74) rfl (by decide) ?_
  exact t_X2_meetLow_74 xs e i0 hi0 q X hX (some (vR (cc 2 i0))) (some (vI x1)) (some (vF x2)) d3 s4 h
noncomputable def f_X2_meetLow (i0 : Nat) (a1 : Int) (a2 : UInt32) (a3 : UInt32) (s : pS) : Option (pS) := ck (0 ≤ a1 ∧ a1 < 12) ((if (sA s 300 i0 a1.toNat) = 1 then f_X2_meetLow_26 i0 a1 a2 s else ck (0 ≤ a1 ∧ a1 < 12) ((if (sA s 300 i0 a1.toNat) ≠ 3 then ck (0 ≤ a1 ∧ a1 < 12) ((if (sA s 300 i0 a1.toNat) ≠ 2 then f_X2_meetLow_74 i0 s else ck (0 ≤ a1 ∧ a1 < 12) ((f_X5_greater (sB s 9 i0 a1.toNat) a3 s).bind (fun q5 => ck (0 ≤ a1 ∧ a1 < 12) (bs (wB q5.2 9 i0 (pm_up (sB q5.2 9 i0) a1.toNat q5.1)) (fun s7 => f_X2_meetLow_74 i0 s7)))))) else f_X2_meetLow_26 i0 a1 a2 s))))
set_option maxRecDepth 10000 in
theorem c_X2_meetLow (xs : Nat → Int) (e : Nat) (i0 : Nat) (a1 : Int) (a2 : UInt32) (a3 : UInt32) (hi0 : i0 < 2) (s : pS) (q : pS) (h : f_X2_meetLow i0 a1 a2 a3 s = some q) : pCall pm_tx 1001 xs pm_P (e + 1 + 1) 24 [vR (cc 2 i0), vI a1, vF a2, vF a3] (pW s) (.inl none) (pW q) := by
  refine pCall_of mX2_meetLow rfl rfl (fun X hX => ?_)
  show X [some (vR (cc 2 i0)), some (vI a1), some (vF a2), some (vF a3)] [] 0 (pW s)
  replace hX : pm_clo 1001 xs (pCall pm_tx 1001 xs pm_P (e + 1)) (e + 1) mX2_meetLow (eU q) X := hX
  unfold f_X2_meetLow at h
  refine r_aload_n hX (p2 := 1) rfl rfl rfl ⟨_, Or.inl rfl⟩ ?_
  refine r_gf hX (p2 := 4) (v := vR (cc 3 i0)) rfl rfl (hc2 i0 hi0) rfl rfl rfl ?_
  refine r_gf hX (p2 := 7) (v := vR (ca 300 i0)) rfl rfl (hc3 i0 (Nat.lt_succ_of_lt hi0)) rfl rfl rfl ?_
  refine r_iload_n hX (p2 := 8) rfl rfl rfl ?_
  obtain ⟨c1, h⟩ := ck_some h
  refine r_iaload hX (p2 := 9) (j := a1.toNat) rfl rfl (ha300 i0 (Nat.lt_succ_of_lt hi0)) rfl rfl c1 rfl ?_
  refine r_iconst hX (p2 := 10) rfl rfl rfl ?_
  refine r_icmp hX (p2 := 26) (p3 := 13) (P := (sA s 300 i0 a1.toNat) = 1) rfl (by decide) rfl rfl (fun p10 => ?_) (fun p10 => ?_)
  · have h := it_pos h p10
    exact t_X2_meetLow_26 xs e i0 hi0 q X hX a1 a2 (some (vF a3)) s h
  · have h := it_neg h p10
    refine r_aload_n hX (p2 := 14) rfl rfl rfl ⟨_, Or.inl rfl⟩ ?_
    refine r_gf hX (p2 := 17) (v := vR (cc 3 i0)) rfl rfl (hc2 i0 hi0) rfl rfl rfl ?_
    refine r_gf hX (p2 := 20) (v := vR (ca 300 i0)) rfl rfl (hc3 i0 (Nat.lt_succ_of_lt hi0)) rfl rfl rfl ?_
    refine r_iload_n hX (p2 := 21) rfl rfl rfl ?_
    obtain ⟨c2, h⟩ := ck_some h
    refine r_iaload hX (p2 := 22) (j := a1.toNat) rfl rfl (ha300 i0 (Nat.lt_succ_of_lt hi0)) rfl rfl c2 rfl ?_
    refine r_iconst hX (p2 := 23) rfl rfl rfl ?_
    refine r_icmp hX (p2 := 45) (p3 := 26) (P := (sA s 300 i0 a1.toNat) ≠ 3) rfl (by decide) rfl rfl (fun p9 => ?_) (fun p9 => ?_)
    · have h := it_pos h p9
      refine r_aload_n hX (p2 := 46) rfl rfl rfl ⟨_, Or.inl rfl⟩ ?_
      refine r_gf hX (p2 := 49) (v := vR (cc 3 i0)) rfl rfl (hc2 i0 hi0) rfl rfl rfl ?_
      refine r_gf hX (p2 := 52) (v := vR (ca 300 i0)) rfl rfl (hc3 i0 (Nat.lt_succ_of_lt hi0)) rfl rfl rfl ?_
      refine r_iload_n hX (p2 := 53) rfl rfl rfl ?_
      obtain ⟨c3, h⟩ := ck_some h
      refine r_iaload hX (p2 := 54) (j := a1.toNat) rfl rfl (ha300 i0 (Nat.lt_succ_of_lt hi0)) rfl rfl c3 rfl ?_
      refine r_iconst hX (p2 := 55) rfl rfl rfl ?_
      refine r_icmp hX (p2 := 74) (p3 := 58) (P := (sA s 300 i0 a1.toNat) ≠ 2) rfl (by decide) rfl rfl (fun p8 => ?_) (fun p8 => ?_)
      · have h := it_pos h p8
        exact t_X2_meetLow_74 xs e i0 hi0 q X hX (some (vR (cc 2 i0))) (some (vI a1)) (some (vF a2)) (some (vF a3)) s h
      · have h := it_neg h p8
        refine r_aload_n hX (p2 := 59) rfl rfl rfl ⟨_, Or.inl rfl⟩ ?_
        refine r_gf hX (p2 := 62) (v := vR (ca 9 i0)) rfl rfl (hc2 i0 hi0) rfl rfl rfl ?_
        refine r_iload_n hX (p2 := 63) rfl rfl rfl ?_
        refine r_aload_n hX (p2 := 64) rfl rfl rfl ⟨_, Or.inl rfl⟩ ?_
        refine r_gf hX (p2 := 67) (v := vR (ca 9 i0)) rfl rfl (hc2 i0 hi0) rfl rfl rfl ?_
        refine r_iload_n hX (p2 := 68) rfl rfl rfl ?_
        obtain ⟨c4, h⟩ := ck_some h
        refine r_faload hX (p2 := 69) (j := a1.toNat) rfl rfl (ha9 i0 hi0) rfl rfl c4 rfl ?_
        refine r_fload_n hX (p2 := 70) rfl rfl rfl ?_
        obtain ⟨q5, hq5, h⟩ := bd_some h
        refine r_calls4 hX (p2 := 73) (v := some (vF q5.1)) (as := [vF (sB s 9 i0 a1.toNat), vF a3]) (r := [vI a1, vR (ca 9 i0)]) (st2 := [vF q5.1, vI a1, vR (ca 9 i0)]) rfl rfl rfl rfl rfl rfl (c_X5_greater xs e (sB s 9 i0 a1.toNat) a3 s q5 hq5) ?_
        obtain ⟨c6, h⟩ := ck_some h
        obtain ⟨s7, hs7, h⟩ := bs_some h
        refine r_fastore hX (p2 := 74) (j := a1.toNat) rfl rfl (ha9 i0 hi0) rfl rfl c6 rfl hs7 ?_
        exact t_X2_meetLow_74 xs e i0 hi0 q X hX (some (vR (cc 2 i0))) (some (vI a1)) (some (vF a2)) (some (vF a3)) s7 h
    · have h := it_neg h p9
      exact t_X2_meetLow_26 xs e i0 hi0 q X hX a1 a2 (some (vF a3)) s h
noncomputable def f_X5_lesser_11 (y0 : UInt32) (s : pS) : Option (UInt32 × pS) := some (y0, s)
set_option maxRecDepth 10000 in
theorem t_X5_lesser_11 (xs : Nat → Int) (e : Nat) (q : UInt32 × pS) (X : List (Option pV) → List pV → Nat → pH → Prop) (hX : pm_clo 1001 xs (pCall pm_tx 1001 xs pm_P e) e mX5_lesser (eF q) X) : ∀  (y0 : UInt32) (d0 : Option pV) (d1 : Option pV) (s : pS), f_X5_lesser_11 y0 s = some q → X [d0, d1] [vF y0] 11 (pW s) := by
  intro y0 d0 d1 s h
  unfold f_X5_lesser_11 at h
  exact r_freturn hX rfl rfl (eF_ok h)
noncomputable def f_X5_lesser (a0 : UInt32) (a1 : UInt32) (s : pS) : Option (UInt32 × pS) := (if 0 < (pm_fc .g a0 a1) then f_X5_lesser_11 a1 s else f_X5_lesser_11 a0 s)
set_option maxRecDepth 10000 in
theorem c_X5_lesser (xs : Nat → Int) (e : Nat) (a0 : UInt32) (a1 : UInt32) (s : pS) (q : UInt32 × pS) (h : f_X5_lesser a0 a1 s = some q) : pCall pm_tx 1001 xs pm_P (e + 1) 97 [vF a0, vF a1] (pW s) (.inl (some (vF q.1))) (pW q.2) := by
  refine pCall_of mX5_lesser rfl rfl (fun X hX => ?_)
  show X [some (vF a0), some (vF a1)] [] 0 (pW s)
  replace hX : pm_clo 1001 xs (pCall pm_tx 1001 xs pm_P e) e mX5_lesser (eF q) X := hX
  unfold f_X5_lesser at h
  refine r_fload_n hX (p2 := 1) rfl rfl rfl ?_
  refine r_fload_n hX (p2 := 2) rfl rfl rfl ?_
  refine r_fcmp hX (p2 := 3) rfl rfl ?_
  refine r_if hX (p2 := 10) (p3 := 6) (P := 0 < (pm_fc .g a0 a1)) rfl (by decide) rfl rfl (fun p1 => ?_) (fun p1 => ?_)
  · have h := it_pos h p1
    refine r_fload_n hX (p2 := 11) rfl rfl rfl ?_
    exact t_X5_lesser_11 xs e q X hX a1 (some (vF a0)) (some (vF a1)) s h
  · have h := it_neg h p1
    refine r_fload_n hX (p2 := 7) rfl rfl rfl ?_
    refine r_goto hX (p2 := 11) rfl (by decide) ?_
    exact t_X5_lesser_11 xs e q X hX a0 (some (vF a0)) (some (vF a1)) s h
noncomputable def f_X2_meetHigh_118 (i0 : Nat) (s : pS) : Option (pS) := some s
set_option maxRecDepth 10000 in
theorem t_X2_meetHigh_118 (xs : Nat → Int) (e : Nat) (i0 : Nat) (hi0 : i0 < 2) (q : pS) (X : List (Option pV) → List pV → Nat → pH → Prop) (hX : pm_clo 1001 xs (pCall pm_tx 1001 xs pm_P (e + 1)) (e + 1) mX2_meetHigh (eU q) X) : ∀  (d0 : Option pV) (d1 : Option pV) (d2 : Option pV) (d3 : Option pV) (s : pS), f_X2_meetHigh_118 i0 s = some q → X [d0, d1, d2, d3] [] 118 (pW s) := by
  intro d0 d1 d2 d3 s h
  unfold f_X2_meetHigh_118 at h
  exact r_return hX rfl rfl (eU_ok h)
noncomputable def f_X2_meetHigh_58 (i0 : Nat) (x1 : Int) (x3 : UInt32) (s : pS) : Option (pS) := ck (0 ≤ x1 ∧ x1 < 12) ((f_X5_greater (sB s 203 i0 x1.toNat) x3 s).bind (fun q2 => ck (0 ≤ x1 ∧ x1 < 12) (bs (wB q2.2 203 i0 (pm_up (sB q2.2 203 i0) x1.toNat q2.1)) (fun s4 => f_X2_meetHigh_118 i0 s4))))
set_option maxRecDepth 10000 in
theorem t_X2_meetHigh_58 (xs : Nat → Int) (e : Nat) (i0 : Nat) (hi0 : i0 < 2) (q : pS) (X : List (Option pV) → List pV → Nat → pH → Prop) (hX : pm_clo 1001 xs (pCall pm_tx 1001 xs pm_P (e + 1)) (e + 1) mX2_meetHigh (eU q) X) : ∀  (x1 : Int) (x3 : UInt32) (d2 : Option pV) (s : pS), f_X2_meetHigh_58 i0 x1 x3 s = some q → X [some (vR (cc 2 i0)), some (vI x1), d2, some (vF x3)] [] 58 (pW s) := by
  intro x1 x3 d2 s h
  unfold f_X2_meetHigh_58 at h
  refine r_aload_n hX (p2 := 59) rfl rfl rfl ⟨_, Or.inl rfl⟩ ?_
  refine r_gf hX (p2 := 62) (v := vR (ca 203 i0)) rfl rfl (hc2 i0 hi0) rfl rfl rfl ?_
  refine r_iload_n hX (p2 := 63) rfl rfl rfl ?_
  refine r_aload_n hX (p2 := 64) rfl rfl rfl ⟨_, Or.inl rfl⟩ ?_
  refine r_gf hX (p2 := 67) (v := vR (ca 203 i0)) rfl rfl (hc2 i0 hi0) rfl rfl rfl ?_
  refine r_iload_n hX (p2 := 68) rfl rfl rfl ?_
  obtain ⟨c1, h⟩ := ck_some h
  refine r_faload hX (p2 := 69) (j := x1.toNat) rfl rfl (ha203 i0 hi0) rfl rfl c1 rfl ?_
  refine r_fload_n hX (p2 := 70) rfl rfl rfl ?_
  obtain ⟨q2, hq2, h⟩ := bd_some h
  refine r_calls4 hX (p2 := 73) (v := some (vF q2.1)) (as := [vF (sB s 203 i0 x1.toNat), vF x3]) (r := [vI x1, vR (ca 203 i0)]) (st2 := [vF q2.1, vI x1, vR (ca 203 i0)]) rfl rfl rfl rfl rfl rfl (c_X5_greater xs e (sB s 203 i0 x1.toNat) x3 s q2 hq2) ?_
  obtain ⟨c3, h⟩ := ck_some h
  obtain ⟨s4, hs4, h⟩ := bs_some h
  refine r_fastore hX (p2 := 74) (j := x1.toNat) rfl rfl (ha203 i0 hi0) rfl rfl c3 rfl hs4 ?_
  refine r_goto hX (p2 := 118) rfl (by decide) ?_
  exact t_X2_meetHigh_118 xs e i0 hi0 q X hX (some (vR (cc 2 i0))) (some (vI x1)) d2 (some (vF x3)) s4 h
noncomputable def f_X2_meetHigh (i0 : Nat) (a1 : Int) (a2 : UInt32) (a3 : UInt32) (s : pS) : Option (pS) := ck (0 ≤ a1 ∧ a1 < 12) ((if (sA s 302 i0 a1.toNat) ≠ 1 then ck (0 ≤ a1 ∧ a1 < 12) ((if (sA s 302 i0 a1.toNat) = 2 then f_X2_meetHigh_58 i0 a1 a3 s else ck (0 ≤ a1 ∧ a1 < 12) ((if (sA s 302 i0 a1.toNat) ≠ 3 then ck (0 ≤ a1 ∧ a1 < 12) ((if (sA s 302 i0 a1.toNat) ≠ 5 then f_X2_meetHigh_118 i0 s else ck (0 ≤ a1 ∧ a1 < 12) (ck (0 ≤ a1 ∧ a1 < 12) ((f_X5_lesser a3 (sB s 303 i0 a1.toNat) s).bind (fun q7 => (f_X5_greater (sB s 203 i0 a1.toNat) q7.1 q7.2).bind (fun q8 => ck (0 ≤ a1 ∧ a1 < 12) (bs (wB q8.2 203 i0 (pm_up (sB q8.2 203 i0) a1.toNat q8.1)) (fun s10 => f_X2_meetHigh_118 i0 s10)))))))) else f_X2_meetHigh_58 i0 a1 a3 s)))) else ck (0 ≤ a1 ∧ a1 < 12) ((f_X5_greater (sB s 203 i0 a1.toNat) a2 s).bind (fun q15 => ck (0 ≤ a1 ∧ a1 < 12) (bs (wB q15.2 203 i0 (pm_up (sB q15.2 203 i0) a1.toNat q15.1)) (fun s17 => f_X2_meetHigh_118 i0 s17))))))
set_option maxRecDepth 10000 in
theorem c_X2_meetHigh (xs : Nat → Int) (e : Nat) (i0 : Nat) (a1 : Int) (a2 : UInt32) (a3 : UInt32) (hi0 : i0 < 2) (s : pS) (q : pS) (h : f_X2_meetHigh i0 a1 a2 a3 s = some q) : pCall pm_tx 1001 xs pm_P (e + 1 + 1) 25 [vR (cc 2 i0), vI a1, vF a2, vF a3] (pW s) (.inl none) (pW q) := by
  refine pCall_of mX2_meetHigh rfl rfl (fun X hX => ?_)
  show X [some (vR (cc 2 i0)), some (vI a1), some (vF a2), some (vF a3)] [] 0 (pW s)
  replace hX : pm_clo 1001 xs (pCall pm_tx 1001 xs pm_P (e + 1)) (e + 1) mX2_meetHigh (eU q) X := hX
  unfold f_X2_meetHigh at h
  refine r_aload_n hX (p2 := 1) rfl rfl rfl ⟨_, Or.inl rfl⟩ ?_
  refine r_gf hX (p2 := 4) (v := vR (cc 3 i0)) rfl rfl (hc2 i0 hi0) rfl rfl rfl ?_
  refine r_gf hX (p2 := 7) (v := vR (ca 302 i0)) rfl rfl (hc3 i0 (Nat.lt_succ_of_lt hi0)) rfl rfl rfl ?_
  refine r_iload_n hX (p2 := 8) rfl rfl rfl ?_
  obtain ⟨c1, h⟩ := ck_some h
  refine r_iaload hX (p2 := 9) (j := a1.toNat) rfl rfl (ha302 i0 (Nat.lt_succ_of_lt hi0)) rfl rfl c1 rfl ?_
  refine r_iconst hX (p2 := 10) rfl rfl rfl ?_
  refine r_icmp hX (p2 := 32) (p3 := 13) (P := (sA s 302 i0 a1.toNat) ≠ 1) rfl (by decide) rfl rfl (fun p18 => ?_) (fun p18 => ?_)
  · have h := it_pos h p18
    refine r_aload_n hX (p2 := 33) rfl rfl rfl ⟨_, Or.inl rfl⟩ ?_
    refine r_gf hX (p2 := 36) (v := vR (cc 3 i0)) rfl rfl (hc2 i0 hi0) rfl rfl rfl ?_
    refine r_gf hX (p2 := 39) (v := vR (ca 302 i0)) rfl rfl (hc3 i0 (Nat.lt_succ_of_lt hi0)) rfl rfl rfl ?_
    refine r_iload_n hX (p2 := 40) rfl rfl rfl ?_
    obtain ⟨c2, h⟩ := ck_some h
    refine r_iaload hX (p2 := 41) (j := a1.toNat) rfl rfl (ha302 i0 (Nat.lt_succ_of_lt hi0)) rfl rfl c2 rfl ?_
    refine r_iconst hX (p2 := 42) rfl rfl rfl ?_
    refine r_icmp hX (p2 := 58) (p3 := 45) (P := (sA s 302 i0 a1.toNat) = 2) rfl (by decide) rfl rfl (fun p13 => ?_) (fun p13 => ?_)
    · have h := it_pos h p13
      exact t_X2_meetHigh_58 xs e i0 hi0 q X hX a1 a3 (some (vF a2)) s h
    · have h := it_neg h p13
      refine r_aload_n hX (p2 := 46) rfl rfl rfl ⟨_, Or.inl rfl⟩ ?_
      refine r_gf hX (p2 := 49) (v := vR (cc 3 i0)) rfl rfl (hc2 i0 hi0) rfl rfl rfl ?_
      refine r_gf hX (p2 := 52) (v := vR (ca 302 i0)) rfl rfl (hc3 i0 (Nat.lt_succ_of_lt hi0)) rfl rfl rfl ?_
      refine r_iload_n hX (p2 := 53) rfl rfl rfl ?_
      obtain ⟨c3, h⟩ := ck_some h
      refine r_iaload hX (p2 := 54) (j := a1.toNat) rfl rfl (ha302 i0 (Nat.lt_succ_of_lt hi0)) rfl rfl c3 rfl ?_
      refine r_iconst hX (p2 := 55) rfl rfl rfl ?_
      refine r_icmp hX (p2 := 77) (p3 := 58) (P := (sA s 302 i0 a1.toNat) ≠ 3) rfl (by decide) rfl rfl (fun p12 => ?_) (fun p12 => ?_)
      · have h := it_pos h p12
        refine r_aload_n hX (p2 := 78) rfl rfl rfl ⟨_, Or.inl rfl⟩ ?_
        refine r_gf hX (p2 := 81) (v := vR (cc 3 i0)) rfl rfl (hc2 i0 hi0) rfl rfl rfl ?_
        refine r_gf hX (p2 := 84) (v := vR (ca 302 i0)) rfl rfl (hc3 i0 (Nat.lt_succ_of_lt hi0)) rfl rfl rfl ?_
        refine r_iload_n hX (p2 := 85) rfl rfl rfl ?_
        obtain ⟨c4, h⟩ := ck_some h
        refine r_iaload hX (p2 := 86) (j := a1.toNat) rfl rfl (ha302 i0 (Nat.lt_succ_of_lt hi0)) rfl rfl c4 rfl ?_
        refine r_iconst hX (p2 := 87) rfl rfl rfl ?_
        refine r_icmp hX (p2 := 118) (p3 := 90) (P := (sA s 302 i0 a1.toNat) ≠ 5) rfl (by decide) rfl rfl (fun p11 => ?_) (fun p11 => ?_)
        · have h := it_pos h p11
          exact t_X2_meetHigh_118 xs e i0 hi0 q X hX (some (vR (cc 2 i0))) (some (vI a1)) (some (vF a2)) (some (vF a3)) s h
        · have h := it_neg h p11
          refine r_aload_n hX (p2 := 91) rfl rfl rfl ⟨_, Or.inl rfl⟩ ?_
          refine r_gf hX (p2 := 94) (v := vR (ca 203 i0)) rfl rfl (hc2 i0 hi0) rfl rfl rfl ?_
          refine r_iload_n hX (p2 := 95) rfl rfl rfl ?_
          refine r_aload_n hX (p2 := 96) rfl rfl rfl ⟨_, Or.inl rfl⟩ ?_
          refine r_gf hX (p2 := 99) (v := vR (ca 203 i0)) rfl rfl (hc2 i0 hi0) rfl rfl rfl ?_
          refine r_iload_n hX (p2 := 100) rfl rfl rfl ?_
          obtain ⟨c5, h⟩ := ck_some h
          refine r_faload hX (p2 := 101) (j := a1.toNat) rfl rfl (ha203 i0 hi0) rfl rfl c5 rfl ?_
          refine r_fload_n hX (p2 := 102) rfl rfl rfl ?_
          refine r_aload_n hX (p2 := 103) rfl rfl rfl ⟨_, Or.inl rfl⟩ ?_
          refine r_gf hX (p2 := 106) (v := vR (cc 3 i0)) rfl rfl (hc2 i0 hi0) rfl rfl rfl ?_
          refine r_gf hX (p2 := 109) (v := vR (ca 303 i0)) rfl rfl (hc3 i0 (Nat.lt_succ_of_lt hi0)) rfl rfl rfl ?_
          refine r_iload_n hX (p2 := 110) rfl rfl rfl ?_
          obtain ⟨c6, h⟩ := ck_some h
          refine r_faload hX (p2 := 111) (j := a1.toNat) rfl rfl (ha303 i0 (Nat.lt_succ_of_lt hi0)) rfl rfl c6 rfl ?_
          obtain ⟨q7, hq7, h⟩ := bd_some h
          refine r_calls4 hX (p2 := 114) (v := some (vF q7.1)) (as := [vF a3, vF (sB s 303 i0 a1.toNat)]) (r := [vF (sB s 203 i0 a1.toNat), vI a1, vR (ca 203 i0)]) (st2 := [vF q7.1, vF (sB s 203 i0 a1.toNat), vI a1, vR (ca 203 i0)]) rfl rfl rfl rfl rfl rfl (c_X5_lesser xs e a3 (sB s 303 i0 a1.toNat) s q7 hq7) ?_
          obtain ⟨q8, hq8, h⟩ := bd_some h
          refine r_calls4 hX (p2 := 117) (v := some (vF q8.1)) (as := [vF (sB s 203 i0 a1.toNat), vF q7.1]) (r := [vI a1, vR (ca 203 i0)]) (st2 := [vF q8.1, vI a1, vR (ca 203 i0)]) rfl rfl rfl rfl rfl rfl (c_X5_greater xs e (sB s 203 i0 a1.toNat) q7.1 q7.2 q8 hq8) ?_
          obtain ⟨c9, h⟩ := ck_some h
          obtain ⟨s10, hs10, h⟩ := bs_some h
          refine r_fastore hX (p2 := 118) (j := a1.toNat) rfl rfl (ha203 i0 hi0) rfl rfl c9 rfl hs10 ?_
          exact t_X2_meetHigh_118 xs e i0 hi0 q X hX (some (vR (cc 2 i0))) (some (vI a1)) (some (vF a2)) (some (vF a3)) s10 h
      · have h := it_neg h p12
        exact t_X2_meetHigh_58 xs e i0 hi0 q X hX a1 a3 (some (vF a2)) s h
  · have h := it_neg h p18
    refine r_aload_n hX (p2 := 14) rfl rfl rfl ⟨_, Or.inl rfl⟩ ?_
    refine r_gf hX (p2 := 17) (v := vR (ca 203 i0)) rfl rfl (hc2 i0 hi0) rfl rfl rfl ?_
    refine r_iload_n hX (p2 := 18) rfl rfl rfl ?_
    refine r_aload_n hX (p2 := 19) rfl rfl rfl ⟨_, Or.inl rfl⟩ ?_
    refine r_gf hX (p2 := 22) (v := vR (ca 203 i0)) rfl rfl (hc2 i0 hi0) rfl rfl rfl ?_
    refine r_iload_n hX (p2 := 23) rfl rfl rfl ?_
    obtain ⟨c14, h⟩ := ck_some h
    refine r_faload hX (p2 := 24) (j := a1.toNat) rfl rfl (ha203 i0 hi0) rfl rfl c14 rfl ?_
    refine r_fload_n hX (p2 := 25) rfl rfl rfl ?_
    obtain ⟨q15, hq15, h⟩ := bd_some h
    refine r_calls4 hX (p2 := 28) (v := some (vF q15.1)) (as := [vF (sB s 203 i0 a1.toNat), vF a2]) (r := [vI a1, vR (ca 203 i0)]) (st2 := [vF q15.1, vI a1, vR (ca 203 i0)]) rfl rfl rfl rfl rfl rfl (c_X5_greater xs e (sB s 203 i0 a1.toNat) a2 s q15 hq15) ?_
    obtain ⟨c16, h⟩ := ck_some h
    obtain ⟨s17, hs17, h⟩ := bs_some h
    refine r_fastore hX (p2 := 29) (j := a1.toNat) rfl rfl (ha203 i0 hi0) rfl rfl c16 rfl hs17 ?_
    refine r_goto hX (p2 := 118) rfl (by decide) ?_
    exact t_X2_meetHigh_118 xs e i0 hi0 q X hX (some (vR (cc 2 i0))) (some (vI a1)) (some (vF a2)) (some (vF a3)) s17 h
noncomputable def f_X2_meetSingles_93 (i0 : Nat) (K2 : Int → pS → Option (pS)) (K99 : pS → Option (pS)) (x1 : Int) (s : pS) : Option (pS) := ck (inR (x1 + 1)) (K2 (x1 + 1) s)
set_option maxRecDepth 10000 in
theorem t_X2_meetSingles_93 (xs : Nat → Int) (e : Nat) (i0 : Nat) (hi0 : i0 < 2) (q : pS) (X : List (Option pV) → List pV → Nat → pH → Prop) (hX : pm_clo 1001 xs (pCall pm_tx 1001 xs pm_P (e + 2)) (e + 2) mX2_meetSingles (eU q) X) (K2 : Int → pS → Option (pS)) (K99 : pS → Option (pS)) (hK2 : ∀ (x1 : Int) (d2 : Option pV) (s : pS), K2 x1 s = some q → X [some (vR (cc 2 i0)), some (vI x1), d2] [] 2 (pW s)) (hK99 : ∀ (d1 : Option pV) (d2 : Option pV) (s : pS), K99 s = some q → X [some (vR (cc 2 i0)), d1, d2] [] 99 (pW s)) : ∀  (x1 : Int) (d2 : Option pV) (s : pS), f_X2_meetSingles_93 i0 K2 K99 x1 s = some q → X [some (vR (cc 2 i0)), some (vI x1), d2] [] 93 (pW s) := by
  intro x1 d2 s h
  unfold f_X2_meetSingles_93 at h
  obtain ⟨c1, h⟩ := ck_some h
  refine r_iinc hX (p2 := 96) (ls2 := [some (vR (cc 2 i0)), some (vI (x1 + 1)), d2]) rfl rfl rfl rfl c1 rfl ?_
  refine r_goto hX (p2 := 2) rfl (by decide) ?_
  exact hK2 (x1 + 1) d2 s h
noncomputable def f_X2_meetSingles_2 (i0 : Nat) (K99 : pS → Option (pS)) : Nat → Int → pS → Option (pS)
  | 0, _, _ => none
  | n + 1, x1, s => (if (sI s 205 i0) ≤ x1 then K99 s else ck (0 ≤ x1 ∧ x1 < 10) ((if (sA s 11 i0 x1.toNat) = 0 then f_X2_meetSingles_93 i0 (f_X2_meetSingles_2 i0 K99 n) K99 x1 s else ck (0 ≤ x1 ∧ x1 < 10) ((if (sA s 5 i0 x1.toNat) ≠ 1 then f_X2_meetSingles_93 i0 (f_X2_meetSingles_2 i0 K99 n) K99 x1 s else ck (0 ≤ x1 ∧ x1 < 10) (ck (inR ((sA s 11 i0 x1.toNat) - 1)) (bs (((sA s 11 i0 x1.toNat) - 1)) (fun v5 => ck (0 ≤ x1 ∧ x1 < 10) (ck (0 ≤ x1 ∧ x1 < 10) ((f_X2_meetLow i0 v5 (sB s 6 i0 x1.toNat) (sB s 7 i0 x1.toNat) s).bind (fun q8 => ck (0 ≤ x1 ∧ x1 < 10) (ck (0 ≤ x1 ∧ x1 < 10) ((f_X2_meetHigh i0 v5 (sB q8 6 i0 x1.toNat) (sB q8 7 i0 x1.toNat) q8).bind (fun q11 => f_X2_meetSingles_93 i0 (f_X2_meetSingles_2 i0 K99 n) K99 x1 q11))))))))))))))
set_option maxRecDepth 10000 in
theorem t_X2_meetSingles_2 (xs : Nat → Int) (e : Nat) (i0 : Nat) (hi0 : i0 < 2) (q : pS) (X : List (Option pV) → List pV → Nat → pH → Prop) (hX : pm_clo 1001 xs (pCall pm_tx 1001 xs pm_P (e + 2)) (e + 2) mX2_meetSingles (eU q) X) (K99 : pS → Option (pS)) (hK99 : ∀ (d1 : Option pV) (d2 : Option pV) (s : pS), K99 s = some q → X [some (vR (cc 2 i0)), d1, d2] [] 99 (pW s)) : ∀ (n : Nat) (x1 : Int) (d2 : Option pV) (s : pS), f_X2_meetSingles_2 i0 K99 n x1 s = some q → X [some (vR (cc 2 i0)), some (vI x1), d2] [] 2 (pW s) := by
  intro n
  induction n with
  | zero =>
    intro x1 d2 s h
    rw [f_X2_meetSingles_2] at h
    cases h
  | succ n ih =>
    intro x1 d2 s h
    rw [f_X2_meetSingles_2] at h
    refine r_iload_n hX (p2 := 3) rfl rfl rfl ?_
    refine r_aload_n hX (p2 := 4) rfl rfl rfl ⟨_, Or.inl rfl⟩ ?_
    refine r_gf hX (p2 := 7) (v := vI (sI s 205 i0)) rfl rfl (hc2 i0 hi0) rfl rfl rfl ?_
    refine r_icmp hX (p2 := 99) (p3 := 10) (P := (sI s 205 i0) ≤ x1) rfl (by decide) rfl rfl (fun p14 => ?_) (fun p14 => ?_)
    · have h := it_pos h p14
      exact hK99 (some (vI x1)) d2 s h
    · have h := it_neg h p14
      refine r_aload_n hX (p2 := 11) rfl rfl rfl ⟨_, Or.inl rfl⟩ ?_
      refine r_gf hX (p2 := 14) (v := vR (cc 0 i0)) rfl rfl (hc2 i0 hi0) rfl rfl rfl ?_
      refine r_gf hX (p2 := 17) (v := vR (ca 11 i0)) rfl rfl (hc0 i0 hi0) rfl rfl rfl ?_
      refine r_iload_n hX (p2 := 18) rfl rfl rfl ?_
      obtain ⟨c1, h⟩ := ck_some h
      refine r_iaload hX (p2 := 19) (j := x1.toNat) rfl rfl (ha11 i0 hi0) rfl rfl c1 rfl ?_
      refine r_if hX (p2 := 93) (p3 := 22) (P := (sA s 11 i0 x1.toNat) = 0) rfl (by decide) rfl rfl (fun p13 => ?_) (fun p13 => ?_)
      · have h := it_pos h p13
        exact t_X2_meetSingles_93 xs e i0 hi0 q X hX _ _ ih hK99 x1 d2 s h
      · have h := it_neg h p13
        refine r_aload_n hX (p2 := 23) rfl rfl rfl ⟨_, Or.inl rfl⟩ ?_
        refine r_gf hX (p2 := 26) (v := vR (cc 0 i0)) rfl rfl (hc2 i0 hi0) rfl rfl rfl ?_
        refine r_gf hX (p2 := 29) (v := vR (ca 5 i0)) rfl rfl (hc0 i0 hi0) rfl rfl rfl ?_
        refine r_iload_n hX (p2 := 30) rfl rfl rfl ?_
        obtain ⟨c2, h⟩ := ck_some h
        refine r_iaload hX (p2 := 31) (j := x1.toNat) rfl rfl (ha5 i0 hi0) rfl rfl c2 rfl ?_
        refine r_iconst hX (p2 := 32) rfl rfl rfl ?_
        refine r_icmp hX (p2 := 93) (p3 := 35) (P := (sA s 5 i0 x1.toNat) ≠ 1) rfl (by decide) rfl rfl (fun p12 => ?_) (fun p12 => ?_)
        · have h := it_pos h p12
          exact t_X2_meetSingles_93 xs e i0 hi0 q X hX _ _ ih hK99 x1 d2 s h
        · have h := it_neg h p12
          refine r_aload_n hX (p2 := 36) rfl rfl rfl ⟨_, Or.inl rfl⟩ ?_
          refine r_gf hX (p2 := 39) (v := vR (cc 0 i0)) rfl rfl (hc2 i0 hi0) rfl rfl rfl ?_
          refine r_gf hX (p2 := 42) (v := vR (ca 11 i0)) rfl rfl (hc0 i0 hi0) rfl rfl rfl ?_
          refine r_iload_n hX (p2 := 43) rfl rfl rfl ?_
          obtain ⟨c3, h⟩ := ck_some h
          refine r_iaload hX (p2 := 44) (j := x1.toNat) rfl rfl (ha11 i0 hi0) rfl rfl c3 rfl ?_
          refine r_iconst hX (p2 := 45) rfl rfl rfl ?_
          obtain ⟨c4, h⟩ := ck_some h
          refine r_isub hX (p2 := 46) rfl rfl c4 ?_
          obtain ⟨v5, hv5, h⟩ := bs_some h
          refine r_istoreE_n hX (p2 := 47) (ls2 := [some (vR (cc 2 i0)), some (vI x1), some (vI v5)]) rfl rfl hv5 rfl rfl ?_
          refine r_aload_n hX (p2 := 48) rfl rfl rfl ⟨_, Or.inl rfl⟩ ?_
          refine r_iload_n hX (p2 := 49) rfl rfl rfl ?_
          refine r_aload_n hX (p2 := 50) rfl rfl rfl ⟨_, Or.inl rfl⟩ ?_
          refine r_gf hX (p2 := 53) (v := vR (cc 0 i0)) rfl rfl (hc2 i0 hi0) rfl rfl rfl ?_
          refine r_gf hX (p2 := 56) (v := vR (ca 6 i0)) rfl rfl (hc0 i0 hi0) rfl rfl rfl ?_
          refine r_iload_n hX (p2 := 57) rfl rfl rfl ?_
          obtain ⟨c6, h⟩ := ck_some h
          refine r_faload hX (p2 := 58) (j := x1.toNat) rfl rfl (ha6 i0 hi0) rfl rfl c6 rfl ?_
          refine r_aload_n hX (p2 := 59) rfl rfl rfl ⟨_, Or.inl rfl⟩ ?_
          refine r_gf hX (p2 := 62) (v := vR (cc 0 i0)) rfl rfl (hc2 i0 hi0) rfl rfl rfl ?_
          refine r_gf hX (p2 := 65) (v := vR (ca 7 i0)) rfl rfl (hc0 i0 hi0) rfl rfl rfl ?_
          refine r_iload_n hX (p2 := 66) rfl rfl rfl ?_
          obtain ⟨c7, h⟩ := ck_some h
          refine r_faload hX (p2 := 67) (j := x1.toNat) rfl rfl (ha7 i0 hi0) rfl rfl c7 rfl ?_
          obtain ⟨q8, hq8, h⟩ := bd_some h
          refine r_callv hX (p2 := 70) (v := none) (as := [vI v5, vF (sB s 6 i0 x1.toNat), vF (sB s 7 i0 x1.toNat)]) (r := []) (st2 := []) rfl rfl rfl rfl rfl (hc2 i0 hi0) rfl rfl (c_X2_meetLow xs e i0 v5 (sB s 6 i0 x1.toNat) (sB s 7 i0 x1.toNat) hi0 s q8 hq8) ?_
          refine r_aload_n hX (p2 := 71) rfl rfl rfl ⟨_, Or.inl rfl⟩ ?_
          refine r_iload_n hX (p2 := 72) rfl rfl rfl ?_
          refine r_aload_n hX (p2 := 73) rfl rfl rfl ⟨_, Or.inl rfl⟩ ?_
          refine r_gf hX (p2 := 76) (v := vR (cc 0 i0)) rfl rfl (hc2 i0 hi0) rfl rfl rfl ?_
          refine r_gf hX (p2 := 79) (v := vR (ca 6 i0)) rfl rfl (hc0 i0 hi0) rfl rfl rfl ?_
          refine r_iload_n hX (p2 := 80) rfl rfl rfl ?_
          obtain ⟨c9, h⟩ := ck_some h
          refine r_faload hX (p2 := 81) (j := x1.toNat) rfl rfl (ha6 i0 hi0) rfl rfl c9 rfl ?_
          refine r_aload_n hX (p2 := 82) rfl rfl rfl ⟨_, Or.inl rfl⟩ ?_
          refine r_gf hX (p2 := 85) (v := vR (cc 0 i0)) rfl rfl (hc2 i0 hi0) rfl rfl rfl ?_
          refine r_gf hX (p2 := 88) (v := vR (ca 7 i0)) rfl rfl (hc0 i0 hi0) rfl rfl rfl ?_
          refine r_iload_n hX (p2 := 89) rfl rfl rfl ?_
          obtain ⟨c10, h⟩ := ck_some h
          refine r_faload hX (p2 := 90) (j := x1.toNat) rfl rfl (ha7 i0 hi0) rfl rfl c10 rfl ?_
          obtain ⟨q11, hq11, h⟩ := bd_some h
          refine r_callv hX (p2 := 93) (v := none) (as := [vI v5, vF (sB q8 6 i0 x1.toNat), vF (sB q8 7 i0 x1.toNat)]) (r := []) (st2 := []) rfl rfl rfl rfl rfl (hc2 i0 hi0) rfl rfl (c_X2_meetHigh xs e i0 v5 (sB q8 6 i0 x1.toNat) (sB q8 7 i0 x1.toNat) hi0 q8 q11 hq11) ?_
          exact t_X2_meetSingles_93 xs e i0 hi0 q X hX _ _ ih hK99 x1 (some (vI v5)) q11 h
noncomputable def f_X2_meetSingles (i0 : Nat) (s : pS) : Option (pS) := f_X2_meetSingles_2 i0 (fun s1 => (f_X2_raiseLimits i0 s1).bind (fun q2 => some q2)) 400 0 s
set_option maxRecDepth 10000 in
theorem c_X2_meetSingles (xs : Nat → Int) (e : Nat) (i0 : Nat) (hi0 : i0 < 2) (s : pS) (q : pS) (h : f_X2_meetSingles i0 s = some q) : pCall pm_tx 1001 xs pm_P (e + 2 + 1) 23 [vR (cc 2 i0)] (pW s) (.inl none) (pW q) := by
  refine pCall_of mX2_meetSingles rfl rfl (fun X hX => ?_)
  show X [some (vR (cc 2 i0)), none, none] [] 0 (pW s)
  replace hX : pm_clo 1001 xs (pCall pm_tx 1001 xs pm_P (e + 2)) (e + 2) mX2_meetSingles (eU q) X := hX
  unfold f_X2_meetSingles at h
  refine r_iconst hX (p2 := 1) rfl rfl rfl ?_
  refine r_istore_n hX (p2 := 2) (ls2 := [some (vR (cc 2 i0)), some (vI 0), none]) rfl rfl rfl rfl ?_
  refine t_X2_meetSingles_2 xs e i0 hi0 q X hX _ (fun d1 d2 s1 h => ?_) 400 0 none s h
  refine r_aload_n hX (p2 := 100) rfl rfl rfl ⟨_, Or.inl rfl⟩ ?_
  obtain ⟨q2, hq2, h⟩ := bd_some h
  refine r_callv hX (p2 := 103) (v := none) (as := []) (r := []) (st2 := []) rfl rfl rfl rfl rfl (hc2 i0 hi0) rfl rfl (c_X2_raiseLimits xs e i0 hi0 s1 q2 hq2) ?_
  exact r_return hX rfl rfl (eU_ok h)
noncomputable def f_X2_firstOf (i0 : Nat) (a1 : Int) (s : pS) : Option (Int × pS) := ck (0 ≤ a1 ∧ a1 < 10) (ck (inR ((sA s 11 i0 a1.toNat) - 1)) (some (((sA s 11 i0 a1.toNat) - 1), s)))
set_option maxRecDepth 10000 in
theorem c_X2_firstOf (xs : Nat → Int) (e : Nat) (i0 : Nat) (a1 : Int) (hi0 : i0 < 2) (s : pS) (q : Int × pS) (h : f_X2_firstOf i0 a1 s = some q) : pCall pm_tx 1001 xs pm_P (e + 1) 49 [vR (cc 2 i0), vI a1] (pW s) (.inl (some (vI q.1))) (pW q.2) := by
  refine pCall_of mX2_firstOf rfl rfl (fun X hX => ?_)
  show X [some (vR (cc 2 i0)), some (vI a1)] [] 0 (pW s)
  replace hX : pm_clo 1001 xs (pCall pm_tx 1001 xs pm_P e) e mX2_firstOf (eI q) X := hX
  unfold f_X2_firstOf at h
  refine r_aload_n hX (p2 := 1) rfl rfl rfl ⟨_, Or.inl rfl⟩ ?_
  refine r_gf hX (p2 := 4) (v := vR (cc 0 i0)) rfl rfl (hc2 i0 hi0) rfl rfl rfl ?_
  refine r_gf hX (p2 := 7) (v := vR (ca 11 i0)) rfl rfl (hc0 i0 hi0) rfl rfl rfl ?_
  refine r_iload_n hX (p2 := 8) rfl rfl rfl ?_
  obtain ⟨c1, h⟩ := ck_some h
  refine r_iaload hX (p2 := 9) (j := a1.toNat) rfl rfl (ha11 i0 hi0) rfl rfl c1 rfl ?_
  refine r_iconst hX (p2 := 10) rfl rfl rfl ?_
  obtain ⟨c2, h⟩ := ck_some h
  refine r_isub hX (p2 := 11) rfl rfl c2 ?_
  exact r_iretI hX rfl rfl (eI_ok h)
noncomputable def f_X2_endOf (i0 : Nat) (a1 : Int) (s : pS) : Option (Int × pS) := ck (0 ≤ a1 ∧ a1 < 10) (ck (inR ((sA s 11 i0 a1.toNat) - 1)) (ck (0 ≤ a1 ∧ a1 < 10) (ck (inR (((sA s 11 i0 a1.toNat) - 1) + (sA s 5 i0 a1.toNat))) (some ((((sA s 11 i0 a1.toNat) - 1) + (sA s 5 i0 a1.toNat)), s)))))
set_option maxRecDepth 10000 in
theorem c_X2_endOf (xs : Nat → Int) (e : Nat) (i0 : Nat) (a1 : Int) (hi0 : i0 < 2) (s : pS) (q : Int × pS) (h : f_X2_endOf i0 a1 s = some q) : pCall pm_tx 1001 xs pm_P (e + 1) 50 [vR (cc 2 i0), vI a1] (pW s) (.inl (some (vI q.1))) (pW q.2) := by
  refine pCall_of mX2_endOf rfl rfl (fun X hX => ?_)
  show X [some (vR (cc 2 i0)), some (vI a1)] [] 0 (pW s)
  replace hX : pm_clo 1001 xs (pCall pm_tx 1001 xs pm_P e) e mX2_endOf (eI q) X := hX
  unfold f_X2_endOf at h
  refine r_aload_n hX (p2 := 1) rfl rfl rfl ⟨_, Or.inl rfl⟩ ?_
  refine r_gf hX (p2 := 4) (v := vR (cc 0 i0)) rfl rfl (hc2 i0 hi0) rfl rfl rfl ?_
  refine r_gf hX (p2 := 7) (v := vR (ca 11 i0)) rfl rfl (hc0 i0 hi0) rfl rfl rfl ?_
  refine r_iload_n hX (p2 := 8) rfl rfl rfl ?_
  obtain ⟨c1, h⟩ := ck_some h
  refine r_iaload hX (p2 := 9) (j := a1.toNat) rfl rfl (ha11 i0 hi0) rfl rfl c1 rfl ?_
  refine r_iconst hX (p2 := 10) rfl rfl rfl ?_
  obtain ⟨c2, h⟩ := ck_some h
  refine r_isub hX (p2 := 11) rfl rfl c2 ?_
  refine r_aload_n hX (p2 := 12) rfl rfl rfl ⟨_, Or.inl rfl⟩ ?_
  refine r_gf hX (p2 := 15) (v := vR (cc 0 i0)) rfl rfl (hc2 i0 hi0) rfl rfl rfl ?_
  refine r_gf hX (p2 := 18) (v := vR (ca 5 i0)) rfl rfl (hc0 i0 hi0) rfl rfl rfl ?_
  refine r_iload_n hX (p2 := 19) rfl rfl rfl ?_
  obtain ⟨c3, h⟩ := ck_some h
  refine r_iaload hX (p2 := 20) (j := a1.toNat) rfl rfl (ha5 i0 hi0) rfl rfl c3 rfl ?_
  obtain ⟨c4, h⟩ := ck_some h
  refine r_iadd hX (p2 := 21) rfl rfl c4 ?_
  exact r_iretI hX rfl rfl (eI_ok h)
noncomputable def f_X2_chooseNeedy_68 (i0 : Nat) (K8 : Int → Int → Int → pS → Option (Int × pS)) (K76 : Int → pS → Option (Int × pS)) (x1 : Int) (x3 : Int) (y0 : Int) (y1 : Int) (s : pS) : Option (Int × pS) := ck (inR (y0 + y1)) (bs ((y0 + y1)) (fun v2 => ck (inR (x3 + 1)) (K8 x1 v2 (x3 + 1) s)))
set_option maxRecDepth 10000 in
theorem t_X2_chooseNeedy_68 (xs : Nat → Int) (e : Nat) (i0 : Nat) (hi0 : i0 < 2) (q : Int × pS) (X : List (Option pV) → List pV → Nat → pH → Prop) (hX : pm_clo 1001 xs (pCall pm_tx 1001 xs pm_P (e + 1)) (e + 1) mX2_chooseNeedy (eI q) X) (K8 : Int → Int → Int → pS → Option (Int × pS)) (K76 : Int → pS → Option (Int × pS)) (hK8 : ∀ (x1 : Int) (x2 : Int) (x3 : Int) (s : pS), K8 x1 x2 x3 s = some q → X [some (vR (cc 2 i0)), some (vI x1), some (vI x2), some (vI x3)] [] 8 (pW s)) (hK76 : ∀ (x2 : Int) (d0 : Option pV) (d1 : Option pV) (d3 : Option pV) (s : pS), K76 x2 s = some q → X [d0, d1, some (vI x2), d3] [] 76 (pW s)) : ∀  (x1 : Int) (x3 : Int) (y0 : Int) (y1 : Int) (d2 : Option pV) (s : pS), f_X2_chooseNeedy_68 i0 K8 K76 x1 x3 y0 y1 s = some q → X [some (vR (cc 2 i0)), some (vI x1), d2, some (vI x3)] [vI y1, vI y0] 68 (pW s) := by
  intro x1 x3 y0 y1 d2 s h
  unfold f_X2_chooseNeedy_68 at h
  obtain ⟨c1, h⟩ := ck_some h
  refine r_iadd hX (p2 := 69) rfl rfl c1 ?_
  obtain ⟨v2, hv2, h⟩ := bs_some h
  refine r_istoreE_n hX (p2 := 70) (ls2 := [some (vR (cc 2 i0)), some (vI x1), some (vI v2), some (vI x3)]) rfl rfl hv2 rfl rfl ?_
  obtain ⟨c3, h⟩ := ck_some h
  refine r_iinc hX (p2 := 73) (ls2 := [some (vR (cc 2 i0)), some (vI x1), some (vI v2), some (vI (x3 + 1))]) rfl rfl rfl rfl c3 rfl ?_
  refine r_goto hX (p2 := 8) rfl (by decide) ?_
  exact hK8 x1 v2 (x3 + 1) s h
noncomputable def f_X2_chooseNeedy_52 (i0 : Nat) (K8 : Int → Int → Int → pS → Option (Int × pS)) (K76 : Int → pS → Option (Int × pS)) (x1 : Int) (x2 : Int) (x3 : Int) (y1 : Int) (y2 : Int) (s : pS) : Option (Int × pS) := ck (0 ≤ y1 ∧ y1 < 12) (ck (y2 = 0 ∨ y2 = 1) (bs (wA s 204 i0 (pm_up (sA s 204 i0) y1.toNat y2)) (fun s3 => ck (0 ≤ x3 ∧ x3 < 12) ((if (sA s3 204 i0 x3.toNat) = 0 then f_X2_chooseNeedy_68 i0 K8 K76 x1 x3 x2 0 s3 else f_X2_chooseNeedy_68 i0 K8 K76 x1 x3 x2 1 s3)))))
set_option maxRecDepth 10000 in
theorem t_X2_chooseNeedy_52 (xs : Nat → Int) (e : Nat) (i0 : Nat) (hi0 : i0 < 2) (q : Int × pS) (X : List (Option pV) → List pV → Nat → pH → Prop) (hX : pm_clo 1001 xs (pCall pm_tx 1001 xs pm_P (e + 1)) (e + 1) mX2_chooseNeedy (eI q) X) (K8 : Int → Int → Int → pS → Option (Int × pS)) (K76 : Int → pS → Option (Int × pS)) (hK8 : ∀ (x1 : Int) (x2 : Int) (x3 : Int) (s : pS), K8 x1 x2 x3 s = some q → X [some (vR (cc 2 i0)), some (vI x1), some (vI x2), some (vI x3)] [] 8 (pW s)) (hK76 : ∀ (x2 : Int) (d0 : Option pV) (d1 : Option pV) (d3 : Option pV) (s : pS), K76 x2 s = some q → X [d0, d1, some (vI x2), d3] [] 76 (pW s)) : ∀  (x1 : Int) (x2 : Int) (x3 : Int) (y1 : Int) (y2 : Int) (s : pS), f_X2_chooseNeedy_52 i0 K8 K76 x1 x2 x3 y1 y2 s = some q → X [some (vR (cc 2 i0)), some (vI x1), some (vI x2), some (vI x3)] [vI y2, vI y1, vR (ca 204 i0)] 52 (pW s) := by
  intro x1 x2 x3 y1 y2 s h
  unfold f_X2_chooseNeedy_52 at h
  obtain ⟨c1, h⟩ := ck_some h
  obtain ⟨c2, h⟩ := ck_some h
  obtain ⟨s3, hs3, h⟩ := bs_some h
  refine r_bastore hX (p2 := 53) (j := y1.toNat) rfl rfl (ha204 i0 hi0) rfl rfl c1 rfl c2 hs3 ?_
  refine r_iload_n hX (p2 := 54) rfl rfl rfl ?_
  refine r_aload_n hX (p2 := 55) rfl rfl rfl ⟨_, Or.inl rfl⟩ ?_
  refine r_gf hX (p2 := 58) (v := vR (ca 204 i0)) rfl rfl (hc2 i0 hi0) rfl rfl rfl ?_
  refine r_iload_n hX (p2 := 59) rfl rfl rfl ?_
  obtain ⟨c4, h⟩ := ck_some h
  refine r_baload hX (p2 := 60) (j := x3.toNat) rfl rfl (ha204 i0 hi0) rfl rfl c4 rfl ?_
  refine r_if hX (p2 := 67) (p3 := 63) (P := (sA s3 204 i0 x3.toNat) = 0) rfl (by decide) rfl rfl (fun p5 => ?_) (fun p5 => ?_)
  · have h := it_pos h p5
    refine r_iconst hX (p2 := 68) rfl rfl rfl ?_
    exact t_X2_chooseNeedy_68 xs e i0 hi0 q X hX _ _ hK8 hK76 x1 x3 x2 0 (some (vI x2)) s3 h
  · have h := it_neg h p5
    refine r_iconst hX (p2 := 64) rfl rfl rfl ?_
    refine r_goto hX (p2 := 68) rfl (by decide) ?_
    exact t_X2_chooseNeedy_68 xs e i0 hi0 q X hX _ _ hK8 hK76 x1 x3 x2 1 (some (vI x2)) s3 h
noncomputable def f_X2_chooseNeedy_51 (i0 : Nat) (K8 : Int → Int → Int → pS → Option (Int × pS)) (K76 : Int → pS → Option (Int × pS)) (x1 : Int) (x2 : Int) (x3 : Int) (y1 : Int) (s : pS) : Option (Int × pS) := f_X2_chooseNeedy_52 i0 K8 K76 x1 x2 x3 y1 0 s
set_option maxRecDepth 10000 in
theorem t_X2_chooseNeedy_51 (xs : Nat → Int) (e : Nat) (i0 : Nat) (hi0 : i0 < 2) (q : Int × pS) (X : List (Option pV) → List pV → Nat → pH → Prop) (hX : pm_clo 1001 xs (pCall pm_tx 1001 xs pm_P (e + 1)) (e + 1) mX2_chooseNeedy (eI q) X) (K8 : Int → Int → Int → pS → Option (Int × pS)) (K76 : Int → pS → Option (Int × pS)) (hK8 : ∀ (x1 : Int) (x2 : Int) (x3 : Int) (s : pS), K8 x1 x2 x3 s = some q → X [some (vR (cc 2 i0)), some (vI x1), some (vI x2), some (vI x3)] [] 8 (pW s)) (hK76 : ∀ (x2 : Int) (d0 : Option pV) (d1 : Option pV) (d3 : Option pV) (s : pS), K76 x2 s = some q → X [d0, d1, some (vI x2), d3] [] 76 (pW s)) : ∀  (x1 : Int) (x2 : Int) (x3 : Int) (y1 : Int) (s : pS), f_X2_chooseNeedy_51 i0 K8 K76 x1 x2 x3 y1 s = some q → X [some (vR (cc 2 i0)), some (vI x1), some (vI x2), some (vI x3)] [vI y1, vR (ca 204 i0)] 51 (pW s) := by
  intro x1 x2 x3 y1 s h
  unfold f_X2_chooseNeedy_51 at h
  refine r_iconst hX (p2 := 52) rfl rfl rfl ?_
  exact t_X2_chooseNeedy_52 xs e i0 hi0 q X hX _ _ hK8 hK76 x1 x2 x3 y1 0 s h
noncomputable def f_X2_chooseNeedy_8 (i0 : Nat) (K76 : Int → pS → Option (Int × pS)) : Nat → Int → Int → Int → pS → Option (Int × pS)
  | 0, _, _, _, _ => none
  | n + 1, x1, x2, x3, s => (f_X2_endOf i0 x1 s).bind (fun q1 => (if q1.1 ≤ x3 then K76 x2 q1.2 else ck (0 ≤ x3 ∧ x3 < 12) ((if (sA q1.2 300 i0 x3.toNat) = 0 then f_X2_chooseNeedy_51 i0 (f_X2_chooseNeedy_8 i0 K76 n) K76 x1 x2 x3 x3 q1.2 else ck (0 ≤ x3 ∧ x3 < 12) ((if (sA q1.2 302 i0 x3.toNat) = 4 then f_X2_chooseNeedy_51 i0 (f_X2_chooseNeedy_8 i0 K76 n) K76 x1 x2 x3 x3 q1.2 else f_X2_chooseNeedy_52 i0 (f_X2_chooseNeedy_8 i0 K76 n) K76 x1 x2 x3 x3 1 q1.2))))))
set_option maxRecDepth 10000 in
theorem t_X2_chooseNeedy_8 (xs : Nat → Int) (e : Nat) (i0 : Nat) (hi0 : i0 < 2) (q : Int × pS) (X : List (Option pV) → List pV → Nat → pH → Prop) (hX : pm_clo 1001 xs (pCall pm_tx 1001 xs pm_P (e + 1)) (e + 1) mX2_chooseNeedy (eI q) X) (K76 : Int → pS → Option (Int × pS)) (hK76 : ∀ (x2 : Int) (d0 : Option pV) (d1 : Option pV) (d3 : Option pV) (s : pS), K76 x2 s = some q → X [d0, d1, some (vI x2), d3] [] 76 (pW s)) : ∀ (n : Nat) (x1 : Int) (x2 : Int) (x3 : Int) (s : pS), f_X2_chooseNeedy_8 i0 K76 n x1 x2 x3 s = some q → X [some (vR (cc 2 i0)), some (vI x1), some (vI x2), some (vI x3)] [] 8 (pW s) := by
  intro n
  induction n with
  | zero =>
    intro x1 x2 x3 s h
    rw [f_X2_chooseNeedy_8] at h
    cases h
  | succ n ih =>
    intro x1 x2 x3 s h
    rw [f_X2_chooseNeedy_8] at h
    refine r_iload_n hX (p2 := 9) rfl rfl rfl ?_
    refine r_aload_n hX (p2 := 10) rfl rfl rfl ⟨_, Or.inl rfl⟩ ?_
    refine r_iload_n hX (p2 := 11) rfl rfl rfl ?_
    obtain ⟨q1, hq1, h⟩ := bd_some h
    refine r_callv hX (p2 := 14) (v := some (vI q1.1)) (as := [vI x1]) (r := [vI x3]) (st2 := [vI q1.1, vI x3]) rfl rfl rfl rfl rfl (hc2 i0 hi0) rfl rfl (c_X2_endOf xs e i0 x1 hi0 s q1 hq1) ?_
    refine r_icmp hX (p2 := 76) (p3 := 17) (P := q1.1 ≤ x3) rfl (by decide) rfl rfl (fun p6 => ?_) (fun p6 => ?_)
    · have h := it_pos h p6
      exact hK76 x2 (some (vR (cc 2 i0))) (some (vI x1)) (some (vI x3)) q1.2 h
    · have h := it_neg h p6
      refine r_aload_n hX (p2 := 18) rfl rfl rfl ⟨_, Or.inl rfl⟩ ?_
      refine r_gf hX (p2 := 21) (v := vR (ca 204 i0)) rfl rfl (hc2 i0 hi0) rfl rfl rfl ?_
      refine r_iload_n hX (p2 := 22) rfl rfl rfl ?_
      refine r_aload_n hX (p2 := 23) rfl rfl rfl ⟨_, Or.inl rfl⟩ ?_
      refine r_gf hX (p2 := 26) (v := vR (cc 3 i0)) rfl rfl (hc2 i0 hi0) rfl rfl rfl ?_
      refine r_gf hX (p2 := 29) (v := vR (ca 300 i0)) rfl rfl (hc3 i0 (Nat.lt_succ_of_lt hi0)) rfl rfl rfl ?_
      refine r_iload_n hX (p2 := 30) rfl rfl rfl ?_
      obtain ⟨c2, h⟩ := ck_some h
      refine r_iaload hX (p2 := 31) (j := x3.toNat) rfl rfl (ha300 i0 (Nat.lt_succ_of_lt hi0)) rfl rfl c2 rfl ?_
      refine r_if hX (p2 := 51) (p3 := 34) (P := (sA q1.2 300 i0 x3.toNat) = 0) rfl (by decide) rfl rfl (fun p5 => ?_) (fun p5 => ?_)
      · have h := it_pos h p5
        exact t_X2_chooseNeedy_51 xs e i0 hi0 q X hX _ _ ih hK76 x1 x2 x3 x3 q1.2 h
      · have h := it_neg h p5
        refine r_aload_n hX (p2 := 35) rfl rfl rfl ⟨_, Or.inl rfl⟩ ?_
        refine r_gf hX (p2 := 38) (v := vR (cc 3 i0)) rfl rfl (hc2 i0 hi0) rfl rfl rfl ?_
        refine r_gf hX (p2 := 41) (v := vR (ca 302 i0)) rfl rfl (hc3 i0 (Nat.lt_succ_of_lt hi0)) rfl rfl rfl ?_
        refine r_iload_n hX (p2 := 42) rfl rfl rfl ?_
        obtain ⟨c3, h⟩ := ck_some h
        refine r_iaload hX (p2 := 43) (j := x3.toNat) rfl rfl (ha302 i0 (Nat.lt_succ_of_lt hi0)) rfl rfl c3 rfl ?_
        refine r_iconst hX (p2 := 44) rfl rfl rfl ?_
        refine r_icmp hX (p2 := 51) (p3 := 47) (P := (sA q1.2 302 i0 x3.toNat) = 4) rfl (by decide) rfl rfl (fun p4 => ?_) (fun p4 => ?_)
        · have h := it_pos h p4
          exact t_X2_chooseNeedy_51 xs e i0 hi0 q X hX _ _ ih hK76 x1 x2 x3 x3 q1.2 h
        · have h := it_neg h p4
          refine r_iconst hX (p2 := 48) rfl rfl rfl ?_
          refine r_goto hX (p2 := 52) rfl (by decide) ?_
          exact t_X2_chooseNeedy_52 xs e i0 hi0 q X hX _ _ ih hK76 x1 x2 x3 x3 1 q1.2 h
noncomputable def f_X2_chooseNeedy (i0 : Nat) (a1 : Int) (s : pS) : Option (Int × pS) := (f_X2_firstOf i0 a1 s).bind (fun q1 => f_X2_chooseNeedy_8 i0 (fun x2 s2 => some (x2, s2)) 400 a1 0 q1.1 q1.2)
set_option maxRecDepth 10000 in
theorem c_X2_chooseNeedy (xs : Nat → Int) (e : Nat) (i0 : Nat) (a1 : Int) (hi0 : i0 < 2) (s : pS) (q : Int × pS) (h : f_X2_chooseNeedy i0 a1 s = some q) : pCall pm_tx 1001 xs pm_P (e + 1 + 1) 27 [vR (cc 2 i0), vI a1] (pW s) (.inl (some (vI q.1))) (pW q.2) := by
  refine pCall_of mX2_chooseNeedy rfl rfl (fun X hX => ?_)
  show X [some (vR (cc 2 i0)), some (vI a1), none, none] [] 0 (pW s)
  replace hX : pm_clo 1001 xs (pCall pm_tx 1001 xs pm_P (e + 1)) (e + 1) mX2_chooseNeedy (eI q) X := hX
  unfold f_X2_chooseNeedy at h
  refine r_iconst hX (p2 := 1) rfl rfl rfl ?_
  refine r_istore_n hX (p2 := 2) (ls2 := [some (vR (cc 2 i0)), some (vI a1), some (vI 0), none]) rfl rfl rfl rfl ?_
  refine r_aload_n hX (p2 := 3) rfl rfl rfl ⟨_, Or.inl rfl⟩ ?_
  refine r_iload_n hX (p2 := 4) rfl rfl rfl ?_
  obtain ⟨q1, hq1, h⟩ := bd_some h
  refine r_callv hX (p2 := 7) (v := some (vI q1.1)) (as := [vI a1]) (r := []) (st2 := [vI q1.1]) rfl rfl rfl rfl rfl (hc2 i0 hi0) rfl rfl (c_X2_firstOf xs e i0 a1 hi0 s q1 hq1) ?_
  refine r_istore_n hX (p2 := 8) (ls2 := [some (vR (cc 2 i0)), some (vI a1), some (vI 0), some (vI q1.1)]) rfl rfl rfl rfl ?_
  refine t_X2_chooseNeedy_8 xs e i0 hi0 q X hX _ (fun x2 d0 d1 d3 s2 h => ?_) 400 a1 0 q1.1 q1.2 h
  refine r_iload_n hX (p2 := 77) rfl rfl rfl ?_
  exact r_iretI hX rfl rfl (eI_ok h)
noncomputable def f_X2_lessSizes_9_10 (i0 : Nat) (i2 : Nat) (K35 : UInt32 → pS → Option (UInt32 × pS)) : Nat → Int → UInt32 → Int → pS → Option (UInt32 × pS)
  | 0, _, _, _, _ => none
  | n + 1, x3, x4, x5, s => (f_X2_endOf i0 x3 s).bind (fun q1 => (if q1.1 ≤ x5 then K35 x4 q1.2 else ck (0 ≤ x5 ∧ x5 < 12) (ck (vf_n32 (FP.fsub x4 (sB q1.2 9 i2 x5.toNat))) (bs ((FP.fsub x4 (sB q1.2 9 i2 x5.toNat))) (fun v4 => ck (inR (x5 + 1)) (f_X2_lessSizes_9_10 i0 i2 K35 n x3 v4 (x5 + 1) q1.2))))))
set_option maxRecDepth 10000 in
theorem t_X2_lessSizes_9_10 (xs : Nat → Int) (e : Nat) (i0 : Nat) (i2 : Nat) (hi0 : i0 < 2) (hi2 : i2 < 2) (q : UInt32 × pS) (X : List (Option pV) → List pV → Nat → pH → Prop) (hX : pm_clo 1001 xs (pCall pm_tx 1001 xs pm_P (e + 1)) (e + 1) mX2_lessSizes (eF q) X) (K35 : UInt32 → pS → Option (UInt32 × pS)) (hK35 : ∀ (x4 : UInt32) (d0 : Option pV) (d1 : Option pV) (d2 : Option pV) (d3 : Option pV) (d5 : Option pV) (s : pS), K35 x4 s = some q → X [d0, d1, d2, d3, some (vF x4), d5] [] 35 (pW s)) : ∀ (n : Nat) (x3 : Int) (x4 : UInt32) (x5 : Int) (d1 : Option pV) (s : pS), f_X2_lessSizes_9_10 i0 i2 K35 n x3 x4 x5 s = some q → X [some (vR (cc 2 i0)), d1, some (vR (ca 9 i2)), some (vI x3), some (vF x4), some (vI x5)] [] 10 (pW s) := by
  intro n
  induction n with
  | zero =>
    intro x3 x4 x5 d1 s h
    rw [f_X2_lessSizes_9_10] at h
    cases h
  | succ n ih =>
    intro x3 x4 x5 d1 s h
    rw [f_X2_lessSizes_9_10] at h
    refine r_iload hX (p2 := 12) rfl rfl rfl ?_
    refine r_aload_n hX (p2 := 13) rfl rfl rfl ⟨_, Or.inl rfl⟩ ?_
    refine r_iload_n hX (p2 := 14) rfl rfl rfl ?_
    obtain ⟨q1, hq1, h⟩ := bd_some h
    refine r_callv hX (p2 := 17) (v := some (vI q1.1)) (as := [vI x3]) (r := [vI x5]) (st2 := [vI q1.1, vI x5]) rfl rfl rfl rfl rfl (hc2 i0 hi0) rfl rfl (c_X2_endOf xs e i0 x3 hi0 s q1 hq1) ?_
    refine r_icmp hX (p2 := 35) (p3 := 20) (P := q1.1 ≤ x5) rfl (by decide) rfl rfl (fun p6 => ?_) (fun p6 => ?_)
    · have h := it_pos h p6
      exact hK35 x4 (some (vR (cc 2 i0))) d1 (some (vR (ca 9 i2))) (some (vI x3)) (some (vI x5)) q1.2 h
    · have h := it_neg h p6
      refine r_fload hX (p2 := 22) rfl rfl rfl ?_
      refine r_aload_n hX (p2 := 23) rfl rfl rfl ⟨_, Or.inl rfl⟩ ?_
      refine r_iload hX (p2 := 25) rfl rfl rfl ?_
      obtain ⟨c2, h⟩ := ck_some h
      refine r_faload hX (p2 := 26) (j := x5.toNat) rfl rfl (ha9 i2 hi2) rfl rfl c2 rfl ?_
      obtain ⟨c3, h⟩ := ck_some h
      refine r_fsub hX (p2 := 27) rfl rfl c3 ?_
      obtain ⟨v4, hv4, h⟩ := bs_some h
      refine r_fstoreE hX (p2 := 29) (ls2 := [some (vR (cc 2 i0)), d1, some (vR (ca 9 i2)), some (vI x3), some (vF v4), some (vI x5)]) rfl rfl hv4 rfl rfl ?_
      obtain ⟨c5, h⟩ := ck_some h
      refine r_iinc hX (p2 := 32) (ls2 := [some (vR (cc 2 i0)), d1, some (vR (ca 9 i2)), some (vI x3), some (vF v4), some (vI (x5 + 1))]) rfl rfl rfl rfl c5 rfl ?_
      refine r_goto hX (p2 := 10) rfl (by decide) ?_
      exact ih x3 v4 (x5 + 1) d1 q1.2 h
noncomputable def f_X2_lessSizes_9 (i0 : Nat) (a1 : UInt32) (i2 : Nat) (a3 : Int) (s : pS) : Option (UInt32 × pS) := (f_X2_firstOf i0 a3 s).bind (fun q1 => f_X2_lessSizes_9_10 i0 i2 (fun x4 s2 => some (x4, s2)) 400 a3 a1 q1.1 q1.2)
set_option maxRecDepth 10000 in
theorem c_X2_lessSizes_9 (xs : Nat → Int) (e : Nat) (i0 : Nat) (a1 : UInt32) (i2 : Nat) (a3 : Int) (hi0 : i0 < 2) (hi2 : i2 < 2) (s : pS) (q : UInt32 × pS) (h : f_X2_lessSizes_9 i0 a1 i2 a3 s = some q) : pCall pm_tx 1001 xs pm_P (e + 1 + 1) 31 [vR (cc 2 i0), vF a1, vR (ca 9 i2), vI a3] (pW s) (.inl (some (vF q.1))) (pW q.2) := by
  refine pCall_of mX2_lessSizes rfl rfl (fun X hX => ?_)
  show X [some (vR (cc 2 i0)), some (vF a1), some (vR (ca 9 i2)), some (vI a3), none, none] [] 0 (pW s)
  replace hX : pm_clo 1001 xs (pCall pm_tx 1001 xs pm_P (e + 1)) (e + 1) mX2_lessSizes (eF q) X := hX
  unfold f_X2_lessSizes_9 at h
  refine r_fload_n hX (p2 := 1) rfl rfl rfl ?_
  refine r_fstore hX (p2 := 3) (ls2 := [some (vR (cc 2 i0)), some (vF a1), some (vR (ca 9 i2)), some (vI a3), some (vF a1), none]) rfl rfl rfl rfl ?_
  refine r_aload_n hX (p2 := 4) rfl rfl rfl ⟨_, Or.inl rfl⟩ ?_
  refine r_iload_n hX (p2 := 5) rfl rfl rfl ?_
  obtain ⟨q1, hq1, h⟩ := bd_some h
  refine r_callv hX (p2 := 8) (v := some (vI q1.1)) (as := [vI a3]) (r := []) (st2 := [vI q1.1]) rfl rfl rfl rfl rfl (hc2 i0 hi0) rfl rfl (c_X2_firstOf xs e i0 a3 hi0 s q1 hq1) ?_
  refine r_istore hX (p2 := 10) (ls2 := [some (vR (cc 2 i0)), some (vF a1), some (vR (ca 9 i2)), some (vI a3), some (vF a1), some (vI q1.1)]) rfl rfl rfl rfl ?_
  refine t_X2_lessSizes_9_10 xs e i0 i2 hi0 hi2 q X hX _ (fun x4 d0 d1 d2 d3 d5 s2 h => ?_) 400 a3 a1 q1.1 (some (vF a1)) q1.2 h
  refine r_fload hX (p2 := 37) rfl rfl rfl ?_
  exact r_freturn hX rfl rfl (eF_ok h)
noncomputable def f_X2_lessGaps_5 (i0 : Nat) (K27 : UInt32 → pS → Option (UInt32 × pS)) : Nat → Int → UInt32 → Int → pS → Option (UInt32 × pS)
  | 0, _, _, _, _ => none
  | n + 1, x2, x3, x4, s => (if x2 ≤ x4 then K27 x3 s else ck (vf_n32 (FP.fsub x3 (sF s 2 i0))) (bs ((FP.fsub x3 (sF s 2 i0))) (fun v2 => ck (inR (x4 + 1)) (f_X2_lessGaps_5 i0 K27 n x2 v2 (x4 + 1) s))))
set_option maxRecDepth 10000 in
theorem t_X2_lessGaps_5 (xs : Nat → Int) (e : Nat) (i0 : Nat) (hi0 : i0 < 2) (q : UInt32 × pS) (X : List (Option pV) → List pV → Nat → pH → Prop) (hX : pm_clo 1001 xs (pCall pm_tx 1001 xs pm_P e) e mX2_lessGaps (eF q) X) (K27 : UInt32 → pS → Option (UInt32 × pS)) (hK27 : ∀ (x3 : UInt32) (d0 : Option pV) (d1 : Option pV) (d2 : Option pV) (d4 : Option pV) (s : pS), K27 x3 s = some q → X [d0, d1, d2, some (vF x3), d4] [] 27 (pW s)) : ∀ (n : Nat) (x2 : Int) (x3 : UInt32) (x4 : Int) (d1 : Option pV) (s : pS), f_X2_lessGaps_5 i0 K27 n x2 x3 x4 s = some q → X [some (vR (cc 2 i0)), d1, some (vI x2), some (vF x3), some (vI x4)] [] 5 (pW s) := by
  intro n
  induction n with
  | zero =>
    intro x2 x3 x4 d1 s h
    rw [f_X2_lessGaps_5] at h
    cases h
  | succ n ih =>
    intro x2 x3 x4 d1 s h
    rw [f_X2_lessGaps_5] at h
    refine r_iload hX (p2 := 7) rfl rfl rfl ?_
    refine r_iload_n hX (p2 := 8) rfl rfl rfl ?_
    refine r_icmp hX (p2 := 27) (p3 := 11) (P := x2 ≤ x4) rfl (by decide) rfl rfl (fun p4 => ?_) (fun p4 => ?_)
    · have h := it_pos h p4
      exact hK27 x3 (some (vR (cc 2 i0))) d1 (some (vI x2)) (some (vI x4)) s h
    · have h := it_neg h p4
      refine r_fload_n hX (p2 := 12) rfl rfl rfl ?_
      refine r_aload_n hX (p2 := 13) rfl rfl rfl ⟨_, Or.inl rfl⟩ ?_
      refine r_gf hX (p2 := 16) (v := vR (cc 0 i0)) rfl rfl (hc2 i0 hi0) rfl rfl rfl ?_
      refine r_gf hX (p2 := 19) (v := vF (sF s 2 i0)) rfl rfl (hc0 i0 hi0) rfl rfl rfl ?_
      obtain ⟨c1, h⟩ := ck_some h
      refine r_fsub hX (p2 := 20) rfl rfl c1 ?_
      obtain ⟨v2, hv2, h⟩ := bs_some h
      refine r_fstoreE_n hX (p2 := 21) (ls2 := [some (vR (cc 2 i0)), d1, some (vI x2), some (vF v2), some (vI x4)]) rfl rfl hv2 rfl rfl ?_
      obtain ⟨c3, h⟩ := ck_some h
      refine r_iinc hX (p2 := 24) (ls2 := [some (vR (cc 2 i0)), d1, some (vI x2), some (vF v2), some (vI (x4 + 1))]) rfl rfl rfl rfl c3 rfl ?_
      refine r_goto hX (p2 := 5) rfl (by decide) ?_
      exact ih x2 v2 (x4 + 1) d1 s h
noncomputable def f_X2_lessGaps (i0 : Nat) (a1 : UInt32) (a2 : Int) (s : pS) : Option (UInt32 × pS) := f_X2_lessGaps_5 i0 (fun x3 s1 => some (x3, s1)) 400 a2 a1 1 s
set_option maxRecDepth 10000 in
theorem c_X2_lessGaps (xs : Nat → Int) (e : Nat) (i0 : Nat) (a1 : UInt32) (a2 : Int) (hi0 : i0 < 2) (s : pS) (q : UInt32 × pS) (h : f_X2_lessGaps i0 a1 a2 s = some q) : pCall pm_tx 1001 xs pm_P (e + 1) 32 [vR (cc 2 i0), vF a1, vI a2] (pW s) (.inl (some (vF q.1))) (pW q.2) := by
  refine pCall_of mX2_lessGaps rfl rfl (fun X hX => ?_)
  show X [some (vR (cc 2 i0)), some (vF a1), some (vI a2), none, none] [] 0 (pW s)
  replace hX : pm_clo 1001 xs (pCall pm_tx 1001 xs pm_P e) e mX2_lessGaps (eF q) X := hX
  unfold f_X2_lessGaps at h
  refine r_fload_n hX (p2 := 1) rfl rfl rfl ?_
  refine r_fstore_n hX (p2 := 2) (ls2 := [some (vR (cc 2 i0)), some (vF a1), some (vI a2), some (vF a1), none]) rfl rfl rfl rfl ?_
  refine r_iconst hX (p2 := 3) rfl rfl rfl ?_
  refine r_istore hX (p2 := 5) (ls2 := [some (vR (cc 2 i0)), some (vF a1), some (vI a2), some (vF a1), some (vI 1)]) rfl rfl rfl rfl ?_
  refine t_X2_lessGaps_5 xs e i0 hi0 q X hX _ (fun x3 d0 d1 d2 d4 s1 h => ?_) 400 a2 a1 1 (some (vF a1)) s h
  refine r_fload_n hX (p2 := 28) rfl rfl rfl ?_
  exact r_freturn hX rfl rfl (eF_ok h)
noncomputable def f_X2_spread_9_81 (i0 : Nat) (i2 : Nat) (K50 : Int → UInt32 → Int → pS → Option (pS)) (K87 : pS → Option (pS)) (x3 : Int) (x6 : UInt32) (x7 : Int) (s : pS) : Option (pS) := ck (inR (x7 + 1)) (K50 x3 x6 (x7 + 1) s)
set_option maxRecDepth 10000 in
theorem t_X2_spread_9_81 (xs : Nat → Int) (e : Nat) (i0 : Nat) (i2 : Nat) (hi0 : i0 < 2) (hi2 : i2 < 2) (q : pS) (X : List (Option pV) → List pV → Nat → pH → Prop) (hX : pm_clo 1001 xs (pCall pm_tx 1001 xs pm_P (e + 2)) (e + 2) mX2_spread (eU q) X) (K50 : Int → UInt32 → Int → pS → Option (pS)) (K87 : pS → Option (pS)) (hK50 : ∀ (x3 : Int) (x6 : UInt32) (x7 : Int) (d1 : Option pV) (d4 : Option pV) (d5 : Option pV) (s : pS), K50 x3 x6 x7 s = some q → X [some (vR (cc 2 i0)), d1, some (vR (ca 9 i2)), some (vI x3), d4, d5, some (vF x6), some (vI x7)] [] 50 (pW s)) (hK87 : ∀ (d0 : Option pV) (d1 : Option pV) (d2 : Option pV) (d3 : Option pV) (d4 : Option pV) (d5 : Option pV) (d6 : Option pV) (d7 : Option pV) (s : pS), K87 s = some q → X [d0, d1, d2, d3, d4, d5, d6, d7] [] 87 (pW s)) : ∀  (x3 : Int) (x6 : UInt32) (x7 : Int) (d1 : Option pV) (d4 : Option pV) (d5 : Option pV) (s : pS), f_X2_spread_9_81 i0 i2 K50 K87 x3 x6 x7 s = some q → X [some (vR (cc 2 i0)), d1, some (vR (ca 9 i2)), some (vI x3), d4, d5, some (vF x6), some (vI x7)] [] 81 (pW s) := by
  intro x3 x6 x7 d1 d4 d5 s h
  unfold f_X2_spread_9_81 at h
  obtain ⟨c1, h⟩ := ck_some h
  refine r_iinc hX (p2 := 84) (ls2 := [some (vR (cc 2 i0)), d1, some (vR (ca 9 i2)), some (vI x3), d4, d5, some (vF x6), some (vI (x7 + 1))]) rfl rfl rfl rfl c1 rfl ?_
  refine r_goto hX (p2 := 50) rfl (by decide) ?_
  exact hK50 x3 x6 (x7 + 1) d1 d4 d5 s h
noncomputable def f_X2_spread_9_50 (i0 : Nat) (i2 : Nat) (K87 : pS → Option (pS)) : Nat → Int → UInt32 → Int → pS → Option (pS)
  | 0, _, _, _, _ => none
  | n + 1, x3, x6, x7, s => (f_X2_endOf i0 x3 s).bind (fun q1 => (if q1.1 ≤ x7 then K87 q1.2 else ck (0 ≤ x7 ∧ x7 < 12) ((if (sA q1.2 204 i0 x7.toNat) = 0 then f_X2_spread_9_81 i0 i2 (f_X2_spread_9_50 i0 i2 K87 n) K87 x3 x6 x7 q1.2 else ck (0 ≤ x7 ∧ x7 < 12) (ck (vf_n32 (FP.fadd (sB q1.2 9 i2 x7.toNat) x6)) (ck (0 ≤ x7 ∧ x7 < 12) (bs (wB q1.2 9 i2 (pm_up (sB q1.2 9 i2) x7.toNat (FP.fadd (sB q1.2 9 i2 x7.toNat) x6))) (fun s6 => f_X2_spread_9_81 i0 i2 (f_X2_spread_9_50 i0 i2 K87 n) K87 x3 x6 x7 s6))))))))
set_option maxRecDepth 10000 in
theorem t_X2_spread_9_50 (xs : Nat → Int) (e : Nat) (i0 : Nat) (i2 : Nat) (hi0 : i0 < 2) (hi2 : i2 < 2) (q : pS) (X : List (Option pV) → List pV → Nat → pH → Prop) (hX : pm_clo 1001 xs (pCall pm_tx 1001 xs pm_P (e + 2)) (e + 2) mX2_spread (eU q) X) (K87 : pS → Option (pS)) (hK87 : ∀ (d0 : Option pV) (d1 : Option pV) (d2 : Option pV) (d3 : Option pV) (d4 : Option pV) (d5 : Option pV) (d6 : Option pV) (d7 : Option pV) (s : pS), K87 s = some q → X [d0, d1, d2, d3, d4, d5, d6, d7] [] 87 (pW s)) : ∀ (n : Nat) (x3 : Int) (x6 : UInt32) (x7 : Int) (d1 : Option pV) (d4 : Option pV) (d5 : Option pV) (s : pS), f_X2_spread_9_50 i0 i2 K87 n x3 x6 x7 s = some q → X [some (vR (cc 2 i0)), d1, some (vR (ca 9 i2)), some (vI x3), d4, d5, some (vF x6), some (vI x7)] [] 50 (pW s) := by
  intro n
  induction n with
  | zero =>
    intro x3 x6 x7 d1 d4 d5 s h
    rw [f_X2_spread_9_50] at h
    cases h
  | succ n ih =>
    intro x3 x6 x7 d1 d4 d5 s h
    rw [f_X2_spread_9_50] at h
    refine r_iload hX (p2 := 52) rfl rfl rfl ?_
    refine r_aload_n hX (p2 := 53) rfl rfl rfl ⟨_, Or.inl rfl⟩ ?_
    refine r_iload_n hX (p2 := 54) rfl rfl rfl ?_
    obtain ⟨q1, hq1, h⟩ := bd_some h
    refine r_callv hX (p2 := 57) (v := some (vI q1.1)) (as := [vI x3]) (r := [vI x7]) (st2 := [vI q1.1, vI x7]) rfl rfl rfl rfl rfl (hc2 i0 hi0) rfl rfl (c_X2_endOf xs (e + 1) i0 x3 hi0 s q1 hq1) ?_
    refine r_icmp hX (p2 := 87) (p3 := 60) (P := q1.1 ≤ x7) rfl (by decide) rfl rfl (fun p8 => ?_) (fun p8 => ?_)
    · have h := it_pos h p8
      exact hK87 (some (vR (cc 2 i0))) d1 (some (vR (ca 9 i2))) (some (vI x3)) d4 d5 (some (vF x6)) (some (vI x7)) q1.2 h
    · have h := it_neg h p8
      refine r_aload_n hX (p2 := 61) rfl rfl rfl ⟨_, Or.inl rfl⟩ ?_
      refine r_gf hX (p2 := 64) (v := vR (ca 204 i0)) rfl rfl (hc2 i0 hi0) rfl rfl rfl ?_
      refine r_iload hX (p2 := 66) rfl rfl rfl ?_
      obtain ⟨c2, h⟩ := ck_some h
      refine r_baload hX (p2 := 67) (j := x7.toNat) rfl rfl (ha204 i0 hi0) rfl rfl c2 rfl ?_
      refine r_if hX (p2 := 81) (p3 := 70) (P := (sA q1.2 204 i0 x7.toNat) = 0) rfl (by decide) rfl rfl (fun p7 => ?_) (fun p7 => ?_)
      · have h := it_pos h p7
        exact t_X2_spread_9_81 xs e i0 i2 hi0 hi2 q X hX _ _ ih hK87 x3 x6 x7 d1 d4 d5 q1.2 h
      · have h := it_neg h p7
        refine r_aload_n hX (p2 := 71) rfl rfl rfl ⟨_, Or.inl rfl⟩ ?_
        refine r_iload hX (p2 := 73) rfl rfl rfl ?_
        refine r_aload_n hX (p2 := 74) rfl rfl rfl ⟨_, Or.inl rfl⟩ ?_
        refine r_iload hX (p2 := 76) rfl rfl rfl ?_
        obtain ⟨c3, h⟩ := ck_some h
        refine r_faload hX (p2 := 77) (j := x7.toNat) rfl rfl (ha9 i2 hi2) rfl rfl c3 rfl ?_
        refine r_fload hX (p2 := 79) rfl rfl rfl ?_
        obtain ⟨c4, h⟩ := ck_some h
        refine r_fadd hX (p2 := 80) rfl rfl c4 ?_
        obtain ⟨c5, h⟩ := ck_some h
        obtain ⟨s6, hs6, h⟩ := bs_some h
        refine r_fastore hX (p2 := 81) (j := x7.toNat) rfl rfl (ha9 i2 hi2) rfl rfl c5 rfl hs6 ?_
        exact t_X2_spread_9_81 xs e i0 i2 hi0 hi2 q X hX _ _ ih hK87 x3 x6 x7 d1 d4 d5 s6 h
noncomputable def f_X2_spread_9_87 (i0 : Nat) (i2 : Nat) (s : pS) : Option (pS) := some s
set_option maxRecDepth 10000 in
theorem t_X2_spread_9_87 (xs : Nat → Int) (e : Nat) (i0 : Nat) (i2 : Nat) (hi0 : i0 < 2) (hi2 : i2 < 2) (q : pS) (X : List (Option pV) → List pV → Nat → pH → Prop) (hX : pm_clo 1001 xs (pCall pm_tx 1001 xs pm_P (e + 2)) (e + 2) mX2_spread (eU q) X) : ∀  (d0 : Option pV) (d1 : Option pV) (d2 : Option pV) (d3 : Option pV) (d4 : Option pV) (d5 : Option pV) (d6 : Option pV) (d7 : Option pV) (s : pS), f_X2_spread_9_87 i0 i2 s = some q → X [d0, d1, d2, d3, d4, d5, d6, d7] [] 87 (pW s) := by
  intro d0 d1 d2 d3 d4 d5 d6 d7 s h
  unfold f_X2_spread_9_87 at h
  exact r_return hX rfl rfl (eU_ok h)
noncomputable def f_X2_spread_9 (i0 : Nat) (a1 : UInt32) (i2 : Nat) (a3 : Int) (a4 : Int) (s : pS) : Option (pS) := (if a4 ≠ 0 then (f_X2_lessSizes_9 i0 a1 i2 a3 s).bind (fun q1 => ck (0 ≤ a3 ∧ a3 < 10) ((f_X2_lessGaps i0 q1.1 (sA q1.2 5 i0 a3.toNat) q1.2).bind (fun q3 => (if (pm_fc .l q3.1 FP.fconst0) ≤ 0 then f_X2_spread_9_87 i0 i2 q3.2 else ck (vf_n32 (FP.fdiv q3.1 (FP.i2f (Int32.ofInt a4)))) (bs ((FP.fdiv q3.1 (FP.i2f (Int32.ofInt a4)))) (fun v5 => (f_X2_firstOf i0 a3 q3.2).bind (fun q6 => f_X2_spread_9_50 i0 i2 (fun s7 => f_X2_spread_9_87 i0 i2 s7) 400 a3 v5 q6.1 q6.2))))))) else some s)
set_option maxRecDepth 10000 in
theorem c_X2_spread_9 (xs : Nat → Int) (e : Nat) (i0 : Nat) (a1 : UInt32) (i2 : Nat) (a3 : Int) (a4 : Int) (hi0 : i0 < 2) (hi2 : i2 < 2) (s : pS) (q : pS) (h : f_X2_spread_9 i0 a1 i2 a3 a4 s = some q) : pCall pm_tx 1001 xs pm_P (e + 2 + 1) 30 [vR (cc 2 i0), vF a1, vR (ca 9 i2), vI a3, vI a4] (pW s) (.inl none) (pW q) := by
  refine pCall_of mX2_spread rfl rfl (fun X hX => ?_)
  show X [some (vR (cc 2 i0)), some (vF a1), some (vR (ca 9 i2)), some (vI a3), some (vI a4), none, none, none] [] 0 (pW s)
  replace hX : pm_clo 1001 xs (pCall pm_tx 1001 xs pm_P (e + 2)) (e + 2) mX2_spread (eU q) X := hX
  unfold f_X2_spread_9 at h
  refine r_iload hX (p2 := 2) rfl rfl rfl ?_
  refine r_if hX (p2 := 6) (p3 := 5) (P := a4 ≠ 0) rfl (by decide) rfl rfl (fun p9 => ?_) (fun p9 => ?_)
  · have h := it_pos h p9
    refine r_aload_n hX (p2 := 7) rfl rfl rfl ⟨_, Or.inl rfl⟩ ?_
    refine r_aload_n hX (p2 := 8) rfl rfl rfl ⟨_, Or.inl rfl⟩ ?_
    refine r_fload_n hX (p2 := 9) rfl rfl rfl ?_
    refine r_aload_n hX (p2 := 10) rfl rfl rfl ⟨_, Or.inl rfl⟩ ?_
    refine r_iload_n hX (p2 := 11) rfl rfl rfl ?_
    obtain ⟨q1, hq1, h⟩ := bd_some h
    refine r_callv hX (p2 := 14) (v := some (vF q1.1)) (as := [vF a1, vR (ca 9 i2), vI a3]) (r := [vR (cc 2 i0)]) (st2 := [vF q1.1, vR (cc 2 i0)]) rfl rfl rfl rfl rfl (hc2 i0 hi0) rfl rfl (c_X2_lessSizes_9 xs e i0 a1 i2 a3 hi0 hi2 s q1 hq1) ?_
    refine r_aload_n hX (p2 := 15) rfl rfl rfl ⟨_, Or.inl rfl⟩ ?_
    refine r_gf hX (p2 := 18) (v := vR (cc 0 i0)) rfl rfl (hc2 i0 hi0) rfl rfl rfl ?_
    refine r_gf hX (p2 := 21) (v := vR (ca 5 i0)) rfl rfl (hc0 i0 hi0) rfl rfl rfl ?_
    refine r_iload_n hX (p2 := 22) rfl rfl rfl ?_
    obtain ⟨c2, h⟩ := ck_some h
    refine r_iaload hX (p2 := 23) (j := a3.toNat) rfl rfl (ha5 i0 hi0) rfl rfl c2 rfl ?_
    obtain ⟨q3, hq3, h⟩ := bd_some h
    refine r_callv hX (p2 := 26) (v := some (vF q3.1)) (as := [vF q1.1, vI (sA q1.2 5 i0 a3.toNat)]) (r := []) (st2 := [vF q3.1]) rfl rfl rfl rfl rfl (hc2 i0 hi0) rfl rfl (c_X2_lessGaps xs (e + 1) i0 q1.1 (sA q1.2 5 i0 a3.toNat) hi0 q1.2 q3 hq3) ?_
    refine r_fstore hX (p2 := 28) (ls2 := [some (vR (cc 2 i0)), some (vF a1), some (vR (ca 9 i2)), some (vI a3), some (vI a4), some (vF q3.1), none, none]) rfl rfl rfl rfl ?_
    refine r_fload hX (p2 := 30) rfl rfl rfl ?_
    refine r_fconst0 hX (p2 := 31) rfl rfl ?_
    refine r_fcmp hX (p2 := 32) rfl rfl ?_
    refine r_if hX (p2 := 87) (p3 := 35) (P := (pm_fc .l q3.1 FP.fconst0) ≤ 0) rfl (by decide) rfl rfl (fun p8 => ?_) (fun p8 => ?_)
    · have h := it_pos h p8
      exact t_X2_spread_9_87 xs e i0 i2 hi0 hi2 q X hX (some (vR (cc 2 i0))) (some (vF a1)) (some (vR (ca 9 i2))) (some (vI a3)) (some (vI a4)) (some (vF q3.1)) none none q3.2 h
    · have h := it_neg h p8
      refine r_fload hX (p2 := 37) rfl rfl rfl ?_
      refine r_iload hX (p2 := 39) rfl rfl rfl ?_
      refine r_i2f hX (p2 := 40) rfl rfl ?_
      obtain ⟨c4, h⟩ := ck_some h
      refine r_fdiv hX (p2 := 41) rfl rfl c4 ?_
      obtain ⟨v5, hv5, h⟩ := bs_some h
      refine r_fstoreE hX (p2 := 43) (ls2 := [some (vR (cc 2 i0)), some (vF a1), some (vR (ca 9 i2)), some (vI a3), some (vI a4), some (vF q3.1), some (vF v5), none]) rfl rfl hv5 rfl rfl ?_
      refine r_aload_n hX (p2 := 44) rfl rfl rfl ⟨_, Or.inl rfl⟩ ?_
      refine r_iload_n hX (p2 := 45) rfl rfl rfl ?_
      obtain ⟨q6, hq6, h⟩ := bd_some h
      refine r_callv hX (p2 := 48) (v := some (vI q6.1)) (as := [vI a3]) (r := []) (st2 := [vI q6.1]) rfl rfl rfl rfl rfl (hc2 i0 hi0) rfl rfl (c_X2_firstOf xs (e + 1) i0 a3 hi0 q3.2 q6 hq6) ?_
      refine r_istore hX (p2 := 50) (ls2 := [some (vR (cc 2 i0)), some (vF a1), some (vR (ca 9 i2)), some (vI a3), some (vI a4), some (vF q3.1), some (vF v5), some (vI q6.1)]) rfl rfl rfl rfl ?_
      refine t_X2_spread_9_50 xs e i0 i2 hi0 hi2 q X hX _ (fun d0 d1 d2 d3 d4 d5 d6 d7 s7 h => ?_) 400 a3 v5 q6.1 (some (vF a1)) (some (vI a4)) (some (vF q3.1)) q6.2 h
      exact t_X2_spread_9_87 xs e i0 i2 hi0 hi2 q X hX d0 d1 d2 d3 d4 d5 d6 d7 s7 h
  · have h := it_neg h p9
    exact r_return hX rfl rfl (eU_ok h)
noncomputable def f_X2_spreadLeast_65 (i0 : Nat) (K9 : Int → Int → pS → Option (pS)) (K71 : Int → pS → Option (pS)) (x1 : Int) (x2 : Int) (s : pS) : Option (pS) := ck (inR (x2 + 1)) (K9 x1 (x2 + 1) s)
set_option maxRecDepth 10000 in
theorem t_X2_spreadLeast_65 (xs : Nat → Int) (e : Nat) (i0 : Nat) (hi0 : i0 < 2) (q : pS) (X : List (Option pV) → List pV → Nat → pH → Prop) (hX : pm_clo 1001 xs (pCall pm_tx 1001 xs pm_P (e + 3)) (e + 3) mX2_spreadLeast (eU q) X) (K9 : Int → Int → pS → Option (pS)) (K71 : Int → pS → Option (pS)) (hK9 : ∀ (x1 : Int) (x2 : Int) (s : pS), K9 x1 x2 s = some q → X [some (vR (cc 2 i0)), some (vI x1), some (vI x2)] [] 9 (pW s)) (hK71 : ∀ (x1 : Int) (d2 : Option pV) (s : pS), K71 x1 s = some q → X [some (vR (cc 2 i0)), some (vI x1), d2] [] 71 (pW s)) : ∀  (x1 : Int) (x2 : Int) (s : pS), f_X2_spreadLeast_65 i0 K9 K71 x1 x2 s = some q → X [some (vR (cc 2 i0)), some (vI x1), some (vI x2)] [] 65 (pW s) := by
  intro x1 x2 s h
  unfold f_X2_spreadLeast_65 at h
  obtain ⟨c1, h⟩ := ck_some h
  refine r_iinc hX (p2 := 68) (ls2 := [some (vR (cc 2 i0)), some (vI x1), some (vI (x2 + 1))]) rfl rfl rfl rfl c1 rfl ?_
  refine r_goto hX (p2 := 9) rfl (by decide) ?_
  exact hK9 x1 (x2 + 1) s h
noncomputable def f_X2_spreadLeast_9 (i0 : Nat) (K71 : Int → pS → Option (pS)) : Nat → Int → Int → pS → Option (pS)
  | 0, _, _, _ => none
  | n + 1, x1, x2, s => (if (sI s 205 i0) ≤ x2 then K71 x1 s else ck (0 ≤ x2 ∧ x2 < 10) ((if (sA s 11 i0 x2.toNat) = 0 then f_X2_spreadLeast_65 i0 (f_X2_spreadLeast_9 i0 K71 n) K71 x1 x2 s else ck (0 ≤ x2 ∧ x2 < 10) ((if (sA s 5 i0 x2.toNat) ≠ x1 then f_X2_spreadLeast_65 i0 (f_X2_spreadLeast_9 i0 K71 n) K71 x1 x2 s else ck (0 ≤ x2 ∧ x2 < 10) ((f_X2_chooseNeedy i0 x2 s).bind (fun q4 => (f_X2_spread_9 i0 (sB s 6 i0 x2.toNat) i0 x2 q4.1 q4.2).bind (fun q5 => f_X2_spreadLeast_65 i0 (f_X2_spreadLeast_9 i0 K71 n) K71 x1 x2 q5))))))))
set_option maxRecDepth 10000 in
theorem t_X2_spreadLeast_9 (xs : Nat → Int) (e : Nat) (i0 : Nat) (hi0 : i0 < 2) (q : pS) (X : List (Option pV) → List pV → Nat → pH → Prop) (hX : pm_clo 1001 xs (pCall pm_tx 1001 xs pm_P (e + 3)) (e + 3) mX2_spreadLeast (eU q) X) (K71 : Int → pS → Option (pS)) (hK71 : ∀ (x1 : Int) (d2 : Option pV) (s : pS), K71 x1 s = some q → X [some (vR (cc 2 i0)), some (vI x1), d2] [] 71 (pW s)) : ∀ (n : Nat) (x1 : Int) (x2 : Int) (s : pS), f_X2_spreadLeast_9 i0 K71 n x1 x2 s = some q → X [some (vR (cc 2 i0)), some (vI x1), some (vI x2)] [] 9 (pW s) := by
  intro n
  induction n with
  | zero =>
    intro x1 x2 s h
    rw [f_X2_spreadLeast_9] at h
    cases h
  | succ n ih =>
    intro x1 x2 s h
    rw [f_X2_spreadLeast_9] at h
    refine r_iload_n hX (p2 := 10) rfl rfl rfl ?_
    refine r_aload_n hX (p2 := 11) rfl rfl rfl ⟨_, Or.inl rfl⟩ ?_
    refine r_gf hX (p2 := 14) (v := vI (sI s 205 i0)) rfl rfl (hc2 i0 hi0) rfl rfl rfl ?_
    refine r_icmp hX (p2 := 71) (p3 := 17) (P := (sI s 205 i0) ≤ x2) rfl (by decide) rfl rfl (fun p8 => ?_) (fun p8 => ?_)
    · have h := it_pos h p8
      exact hK71 x1 (some (vI x2)) s h
    · have h := it_neg h p8
      refine r_aload_n hX (p2 := 18) rfl rfl rfl ⟨_, Or.inl rfl⟩ ?_
      refine r_gf hX (p2 := 21) (v := vR (cc 0 i0)) rfl rfl (hc2 i0 hi0) rfl rfl rfl ?_
      refine r_gf hX (p2 := 24) (v := vR (ca 11 i0)) rfl rfl (hc0 i0 hi0) rfl rfl rfl ?_
      refine r_iload_n hX (p2 := 25) rfl rfl rfl ?_
      obtain ⟨c1, h⟩ := ck_some h
      refine r_iaload hX (p2 := 26) (j := x2.toNat) rfl rfl (ha11 i0 hi0) rfl rfl c1 rfl ?_
      refine r_if hX (p2 := 65) (p3 := 29) (P := (sA s 11 i0 x2.toNat) = 0) rfl (by decide) rfl rfl (fun p7 => ?_) (fun p7 => ?_)
      · have h := it_pos h p7
        exact t_X2_spreadLeast_65 xs e i0 hi0 q X hX _ _ ih hK71 x1 x2 s h
      · have h := it_neg h p7
        refine r_aload_n hX (p2 := 30) rfl rfl rfl ⟨_, Or.inl rfl⟩ ?_
        refine r_gf hX (p2 := 33) (v := vR (cc 0 i0)) rfl rfl (hc2 i0 hi0) rfl rfl rfl ?_
        refine r_gf hX (p2 := 36) (v := vR (ca 5 i0)) rfl rfl (hc0 i0 hi0) rfl rfl rfl ?_
        refine r_iload_n hX (p2 := 37) rfl rfl rfl ?_
        obtain ⟨c2, h⟩ := ck_some h
        refine r_iaload hX (p2 := 38) (j := x2.toNat) rfl rfl (ha5 i0 hi0) rfl rfl c2 rfl ?_
        refine r_iload_n hX (p2 := 39) rfl rfl rfl ?_
        refine r_icmp hX (p2 := 65) (p3 := 42) (P := (sA s 5 i0 x2.toNat) ≠ x1) rfl (by decide) rfl rfl (fun p6 => ?_) (fun p6 => ?_)
        · have h := it_pos h p6
          exact t_X2_spreadLeast_65 xs e i0 hi0 q X hX _ _ ih hK71 x1 x2 s h
        · have h := it_neg h p6
          refine r_aload_n hX (p2 := 43) rfl rfl rfl ⟨_, Or.inl rfl⟩ ?_
          refine r_aload_n hX (p2 := 44) rfl rfl rfl ⟨_, Or.inl rfl⟩ ?_
          refine r_gf hX (p2 := 47) (v := vR (cc 0 i0)) rfl rfl (hc2 i0 hi0) rfl rfl rfl ?_
          refine r_gf hX (p2 := 50) (v := vR (ca 6 i0)) rfl rfl (hc0 i0 hi0) rfl rfl rfl ?_
          refine r_iload_n hX (p2 := 51) rfl rfl rfl ?_
          obtain ⟨c3, h⟩ := ck_some h
          refine r_faload hX (p2 := 52) (j := x2.toNat) rfl rfl (ha6 i0 hi0) rfl rfl c3 rfl ?_
          refine r_aload_n hX (p2 := 53) rfl rfl rfl ⟨_, Or.inl rfl⟩ ?_
          refine r_gf hX (p2 := 56) (v := vR (ca 9 i0)) rfl rfl (hc2 i0 hi0) rfl rfl rfl ?_
          refine r_iload_n hX (p2 := 57) rfl rfl rfl ?_
          refine r_aload_n hX (p2 := 58) rfl rfl rfl ⟨_, Or.inl rfl⟩ ?_
          refine r_iload_n hX (p2 := 59) rfl rfl rfl ?_
          obtain ⟨q4, hq4, h⟩ := bd_some h
          refine r_callv hX (p2 := 62) (v := some (vI q4.1)) (as := [vI x2]) (r := [vI x2, vR (ca 9 i0), vF (sB s 6 i0 x2.toNat), vR (cc 2 i0)]) (st2 := [vI q4.1, vI x2, vR (ca 9 i0), vF (sB s 6 i0 x2.toNat), vR (cc 2 i0)]) rfl rfl rfl rfl rfl (hc2 i0 hi0) rfl rfl (c_X2_chooseNeedy xs (e + 1) i0 x2 hi0 s q4 hq4) ?_
          obtain ⟨q5, hq5, h⟩ := bd_some h
          refine r_callv hX (p2 := 65) (v := none) (as := [vF (sB s 6 i0 x2.toNat), vR (ca 9 i0), vI x2, vI q4.1]) (r := []) (st2 := []) rfl rfl rfl rfl rfl (hc2 i0 hi0) rfl rfl (c_X2_spread_9 xs e i0 (sB s 6 i0 x2.toNat) i0 x2 q4.1 hi0 hi0 q4.2 q5 hq5) ?_
          exact t_X2_spreadLeast_65 xs e i0 hi0 q X hX _ _ ih hK71 x1 x2 q5 h
noncomputable def f_X2_spreadLeast_2 (i0 : Nat) (K77 : pS → Option (pS)) : Nat → Int → pS → Option (pS)
  | 0, _, _ => none
  | n + 1, x1, s => (if 4 < x1 then K77 s else f_X2_spreadLeast_9 i0 (fun x1 s1 => ck (inR (x1 + 1)) (f_X2_spreadLeast_2 i0 K77 n (x1 + 1) s1)) 400 x1 0 s)
set_option maxRecDepth 10000 in
theorem t_X2_spreadLeast_2 (xs : Nat → Int) (e : Nat) (i0 : Nat) (hi0 : i0 < 2) (q : pS) (X : List (Option pV) → List pV → Nat → pH → Prop) (hX : pm_clo 1001 xs (pCall pm_tx 1001 xs pm_P (e + 3)) (e + 3) mX2_spreadLeast (eU q) X) (K77 : pS → Option (pS)) (hK77 : ∀ (d1 : Option pV) (d2 : Option pV) (s : pS), K77 s = some q → X [some (vR (cc 2 i0)), d1, d2] [] 77 (pW s)) : ∀ (n : Nat) (x1 : Int) (d2 : Option pV) (s : pS), f_X2_spreadLeast_2 i0 K77 n x1 s = some q → X [some (vR (cc 2 i0)), some (vI x1), d2] [] 2 (pW s) := by
  intro n
  induction n with
  | zero =>
    intro x1 d2 s h
    rw [f_X2_spreadLeast_2] at h
    cases h
  | succ n ih =>
    intro x1 d2 s h
    rw [f_X2_spreadLeast_2] at h
    refine r_iload_n hX (p2 := 3) rfl rfl rfl ?_
    refine r_iconst hX (p2 := 4) rfl rfl rfl ?_
    refine r_icmp hX (p2 := 77) (p3 := 7) (P := 4 < x1) rfl (by decide) rfl rfl (fun p3 => ?_) (fun p3 => ?_)
    · have h := it_pos h p3
      exact hK77 (some (vI x1)) d2 s h
    · have h := it_neg h p3
      refine r_iconst hX (p2 := 8) rfl rfl rfl ?_
      refine r_istore_n hX (p2 := 9) (ls2 := [some (vR (cc 2 i0)), some (vI x1), some (vI 0)]) rfl rfl rfl rfl ?_
      refine t_X2_spreadLeast_9 xs e i0 hi0 q X hX _ (fun x1 d2 s1 h => ?_) 400 x1 0 s h
      obtain ⟨c2, h⟩ := ck_some h
      refine r_iinc hX (p2 := 74) (ls2 := [some (vR (cc 2 i0)), some (vI (x1 + 1)), d2]) rfl rfl rfl rfl c2 rfl ?_
      refine r_goto hX (p2 := 2) rfl (by decide) ?_
      exact ih (x1 + 1) d2 s1 h
noncomputable def f_X2_spreadLeast (i0 : Nat) (s : pS) : Option (pS) := f_X2_spreadLeast_2 i0 (fun s1 => (f_X2_raiseLimits i0 s1).bind (fun q2 => some q2)) 400 2 s
set_option maxRecDepth 10000 in
theorem c_X2_spreadLeast (xs : Nat → Int) (e : Nat) (i0 : Nat) (hi0 : i0 < 2) (s : pS) (q : pS) (h : f_X2_spreadLeast i0 s = some q) : pCall pm_tx 1001 xs pm_P (e + 3 + 1) 26 [vR (cc 2 i0)] (pW s) (.inl none) (pW q) := by
  refine pCall_of mX2_spreadLeast rfl rfl (fun X hX => ?_)
  show X [some (vR (cc 2 i0)), none, none] [] 0 (pW s)
  replace hX : pm_clo 1001 xs (pCall pm_tx 1001 xs pm_P (e + 3)) (e + 3) mX2_spreadLeast (eU q) X := hX
  unfold f_X2_spreadLeast at h
  refine r_iconst hX (p2 := 1) rfl rfl rfl ?_
  refine r_istore_n hX (p2 := 2) (ls2 := [some (vR (cc 2 i0)), some (vI 2), none]) rfl rfl rfl rfl ?_
  refine t_X2_spreadLeast_2 xs e i0 hi0 q X hX _ (fun d1 d2 s1 h => ?_) 400 2 none s h
  refine r_aload_n hX (p2 := 78) rfl rfl rfl ⟨_, Or.inl rfl⟩ ?_
  obtain ⟨q2, hq2, h⟩ := bd_some h
  refine r_callv hX (p2 := 81) (v := none) (as := []) (r := []) (st2 := []) rfl rfl rfl rfl rfl (hc2 i0 hi0) rfl rfl (c_X2_raiseLimits xs (e + 1) i0 hi0 s1 q2 hq2) ?_
  exact r_return hX rfl rfl (eU_ok h)
noncomputable def f_X2_chooseWide_72 (i0 : Nat) (K8 : Int → Int → Int → pS → Option (Int × pS)) (K80 : Int → pS → Option (Int × pS)) (x1 : Int) (x3 : Int) (y0 : Int) (y1 : Int) (s : pS) : Option (Int × pS) := ck (inR (y0 + y1)) (bs ((y0 + y1)) (fun v2 => ck (inR (x3 + 1)) (K8 x1 v2 (x3 + 1) s)))
set_option maxRecDepth 10000 in
theorem t_X2_chooseWide_72 (xs : Nat → Int) (e : Nat) (i0 : Nat) (hi0 : i0 < 2) (q : Int × pS) (X : List (Option pV) → List pV → Nat → pH → Prop) (hX : pm_clo 1001 xs (pCall pm_tx 1001 xs pm_P (e + 1)) (e + 1) mX2_chooseWide (eI q) X) (K8 : Int → Int → Int → pS → Option (Int × pS)) (K80 : Int → pS → Option (Int × pS)) (hK8 : ∀ (x1 : Int) (x2 : Int) (x3 : Int) (d4 : Option pV) (s : pS), K8 x1 x2 x3 s = some q → X [some (vR (cc 2 i0)), some (vI x1), some (vI x2), some (vI x3), d4] [] 8 (pW s)) (hK80 : ∀ (x2 : Int) (d0 : Option pV) (d1 : Option pV) (d3 : Option pV) (d4 : Option pV) (s : pS), K80 x2 s = some q → X [d0, d1, some (vI x2), d3, d4] [] 80 (pW s)) : ∀  (x1 : Int) (x3 : Int) (y0 : Int) (y1 : Int) (d2 : Option pV) (d4 : Option pV) (s : pS), f_X2_chooseWide_72 i0 K8 K80 x1 x3 y0 y1 s = some q → X [some (vR (cc 2 i0)), some (vI x1), d2, some (vI x3), d4] [vI y1, vI y0] 72 (pW s) := by
  intro x1 x3 y0 y1 d2 d4 s h
  unfold f_X2_chooseWide_72 at h
  obtain ⟨c1, h⟩ := ck_some h
  refine r_iadd hX (p2 := 73) rfl rfl c1 ?_
  obtain ⟨v2, hv2, h⟩ := bs_some h
  refine r_istoreE_n hX (p2 := 74) (ls2 := [some (vR (cc 2 i0)), some (vI x1), some (vI v2), some (vI x3), d4]) rfl rfl hv2 rfl rfl ?_
  obtain ⟨c3, h⟩ := ck_some h
  refine r_iinc hX (p2 := 77) (ls2 := [some (vR (cc 2 i0)), some (vI x1), some (vI v2), some (vI (x3 + 1)), d4]) rfl rfl rfl rfl c3 rfl ?_
  refine r_goto hX (p2 := 8) rfl (by decide) ?_
  exact hK8 x1 v2 (x3 + 1) d4 s h
noncomputable def f_X2_chooseWide_56 (i0 : Nat) (K8 : Int → Int → Int → pS → Option (Int × pS)) (K80 : Int → pS → Option (Int × pS)) (x1 : Int) (x2 : Int) (x3 : Int) (y1 : Int) (y2 : Int) (s : pS) : Option (Int × pS) := ck (0 ≤ y1 ∧ y1 < 12) (ck (y2 = 0 ∨ y2 = 1) (bs (wA s 204 i0 (pm_up (sA s 204 i0) y1.toNat y2)) (fun s3 => ck (0 ≤ x3 ∧ x3 < 12) ((if (sA s3 204 i0 x3.toNat) = 0 then f_X2_chooseWide_72 i0 K8 K80 x1 x3 x2 0 s3 else f_X2_chooseWide_72 i0 K8 K80 x1 x3 x2 1 s3)))))
set_option maxRecDepth 10000 in
theorem t_X2_chooseWide_56 (xs : Nat → Int) (e : Nat) (i0 : Nat) (hi0 : i0 < 2) (q : Int × pS) (X : List (Option pV) → List pV → Nat → pH → Prop) (hX : pm_clo 1001 xs (pCall pm_tx 1001 xs pm_P (e + 1)) (e + 1) mX2_chooseWide (eI q) X) (K8 : Int → Int → Int → pS → Option (Int × pS)) (K80 : Int → pS → Option (Int × pS)) (hK8 : ∀ (x1 : Int) (x2 : Int) (x3 : Int) (d4 : Option pV) (s : pS), K8 x1 x2 x3 s = some q → X [some (vR (cc 2 i0)), some (vI x1), some (vI x2), some (vI x3), d4] [] 8 (pW s)) (hK80 : ∀ (x2 : Int) (d0 : Option pV) (d1 : Option pV) (d3 : Option pV) (d4 : Option pV) (s : pS), K80 x2 s = some q → X [d0, d1, some (vI x2), d3, d4] [] 80 (pW s)) : ∀  (x1 : Int) (x2 : Int) (x3 : Int) (y1 : Int) (y2 : Int) (d4 : Option pV) (s : pS), f_X2_chooseWide_56 i0 K8 K80 x1 x2 x3 y1 y2 s = some q → X [some (vR (cc 2 i0)), some (vI x1), some (vI x2), some (vI x3), d4] [vI y2, vI y1, vR (ca 204 i0)] 56 (pW s) := by
  intro x1 x2 x3 y1 y2 d4 s h
  unfold f_X2_chooseWide_56 at h
  obtain ⟨c1, h⟩ := ck_some h
  obtain ⟨c2, h⟩ := ck_some h
  obtain ⟨s3, hs3, h⟩ := bs_some h
  refine r_bastore hX (p2 := 57) (j := y1.toNat) rfl rfl (ha204 i0 hi0) rfl rfl c1 rfl c2 hs3 ?_
  refine r_iload_n hX (p2 := 58) rfl rfl rfl ?_
  refine r_aload_n hX (p2 := 59) rfl rfl rfl ⟨_, Or.inl rfl⟩ ?_
  refine r_gf hX (p2 := 62) (v := vR (ca 204 i0)) rfl rfl (hc2 i0 hi0) rfl rfl rfl ?_
  refine r_iload_n hX (p2 := 63) rfl rfl rfl ?_
  obtain ⟨c4, h⟩ := ck_some h
  refine r_baload hX (p2 := 64) (j := x3.toNat) rfl rfl (ha204 i0 hi0) rfl rfl c4 rfl ?_
  refine r_if hX (p2 := 71) (p3 := 67) (P := (sA s3 204 i0 x3.toNat) = 0) rfl (by decide) rfl rfl (fun p5 => ?_) (fun p5 => ?_)
  · have h := it_pos h p5
    refine r_iconst hX (p2 := 72) rfl rfl rfl ?_
    exact t_X2_chooseWide_72 xs e i0 hi0 q X hX _ _ hK8 hK80 x1 x3 x2 0 (some (vI x2)) d4 s3 h
  · have h := it_neg h p5
    refine r_iconst hX (p2 := 68) rfl rfl rfl ?_
    refine r_goto hX (p2 := 72) rfl (by decide) ?_
    exact t_X2_chooseWide_72 xs e i0 hi0 q X hX _ _ hK8 hK80 x1 x3 x2 1 (some (vI x2)) d4 s3 h
noncomputable def f_X2_chooseWide_51 (i0 : Nat) (K8 : Int → Int → Int → pS → Option (Int × pS)) (K80 : Int → pS → Option (Int × pS)) (x1 : Int) (x2 : Int) (x3 : Int) (y1 : Int) (s : pS) : Option (Int × pS) := f_X2_chooseWide_56 i0 K8 K80 x1 x2 x3 y1 1 s
set_option maxRecDepth 10000 in
theorem t_X2_chooseWide_51 (xs : Nat → Int) (e : Nat) (i0 : Nat) (hi0 : i0 < 2) (q : Int × pS) (X : List (Option pV) → List pV → Nat → pH → Prop) (hX : pm_clo 1001 xs (pCall pm_tx 1001 xs pm_P (e + 1)) (e + 1) mX2_chooseWide (eI q) X) (K8 : Int → Int → Int → pS → Option (Int × pS)) (K80 : Int → pS → Option (Int × pS)) (hK8 : ∀ (x1 : Int) (x2 : Int) (x3 : Int) (d4 : Option pV) (s : pS), K8 x1 x2 x3 s = some q → X [some (vR (cc 2 i0)), some (vI x1), some (vI x2), some (vI x3), d4] [] 8 (pW s)) (hK80 : ∀ (x2 : Int) (d0 : Option pV) (d1 : Option pV) (d3 : Option pV) (d4 : Option pV) (s : pS), K80 x2 s = some q → X [d0, d1, some (vI x2), d3, d4] [] 80 (pW s)) : ∀  (x1 : Int) (x2 : Int) (x3 : Int) (y1 : Int) (d4 : Option pV) (s : pS), f_X2_chooseWide_51 i0 K8 K80 x1 x2 x3 y1 s = some q → X [some (vR (cc 2 i0)), some (vI x1), some (vI x2), some (vI x3), d4] [vI y1, vR (ca 204 i0)] 51 (pW s) := by
  intro x1 x2 x3 y1 d4 s h
  unfold f_X2_chooseWide_51 at h
  refine r_iconst hX (p2 := 52) rfl rfl rfl ?_
  refine r_goto hX (p2 := 56) rfl (by decide) ?_
  exact t_X2_chooseWide_56 xs e i0 hi0 q X hX _ _ hK8 hK80 x1 x2 x3 y1 1 d4 s h
noncomputable def f_X2_chooseWide_8 (i0 : Nat) (K80 : Int → pS → Option (Int × pS)) : Nat → Int → Int → Int → pS → Option (Int × pS)
  | 0, _, _, _, _ => none
  | n + 1, x1, x2, x3, s => (f_X2_endOf i0 x1 s).bind (fun q1 => (if q1.1 ≤ x3 then K80 x2 q1.2 else ck (0 ≤ x3 ∧ x3 < 12) (bs ((sA q1.2 302 i0 x3.toNat)) (fun v3 => (if v3 = 2 then f_X2_chooseWide_51 i0 (f_X2_chooseWide_8 i0 K80 n) K80 x1 x2 x3 x3 q1.2 else (if v3 = 3 then f_X2_chooseWide_51 i0 (f_X2_chooseWide_8 i0 K80 n) K80 x1 x2 x3 x3 q1.2 else (if v3 ≠ 5 then f_X2_chooseWide_56 i0 (f_X2_chooseWide_8 i0 K80 n) K80 x1 x2 x3 x3 0 q1.2 else f_X2_chooseWide_51 i0 (f_X2_chooseWide_8 i0 K80 n) K80 x1 x2 x3 x3 q1.2)))))))
set_option maxRecDepth 10000 in
theorem t_X2_chooseWide_8 (xs : Nat → Int) (e : Nat) (i0 : Nat) (hi0 : i0 < 2) (q : Int × pS) (X : List (Option pV) → List pV → Nat → pH → Prop) (hX : pm_clo 1001 xs (pCall pm_tx 1001 xs pm_P (e + 1)) (e + 1) mX2_chooseWide (eI q) X) (K80 : Int → pS → Option (Int × pS)) (hK80 : ∀ (x2 : Int) (d0 : Option pV) (d1 : Option pV) (d3 : Option pV) (d4 : Option pV) (s : pS), K80 x2 s = some q → X [d0, d1, some (vI x2), d3, d4] [] 80 (pW s)) : ∀ (n : Nat) (x1 : Int) (x2 : Int) (x3 : Int) (d4 : Option pV) (s : pS), f_X2_chooseWide_8 i0 K80 n x1 x2 x3 s = some q → X [some (vR (cc 2 i0)), some (vI x1), some (vI x2), some (vI x3), d4] [] 8 (pW s) := by
  intro n
  induction n with
  | zero =>
    intro x1 x2 x3 d4 s h
    rw [f_X2_chooseWide_8] at h
    cases h
  | succ n ih =>
    intro x1 x2 x3 d4 s h
    rw [f_X2_chooseWide_8] at h
    refine r_iload_n hX (p2 := 9) rfl rfl rfl ?_
    refine r_aload_n hX (p2 := 10) rfl rfl rfl ⟨_, Or.inl rfl⟩ ?_
    refine r_iload_n hX (p2 := 11) rfl rfl rfl ?_
    obtain ⟨q1, hq1, h⟩ := bd_some h
    refine r_callv hX (p2 := 14) (v := some (vI q1.1)) (as := [vI x1]) (r := [vI x3]) (st2 := [vI q1.1, vI x3]) rfl rfl rfl rfl rfl (hc2 i0 hi0) rfl rfl (c_X2_endOf xs e i0 x1 hi0 s q1 hq1) ?_
    refine r_icmp hX (p2 := 80) (p3 := 17) (P := q1.1 ≤ x3) rfl (by decide) rfl rfl (fun p7 => ?_) (fun p7 => ?_)
    · have h := it_pos h p7
      exact hK80 x2 (some (vR (cc 2 i0))) (some (vI x1)) (some (vI x3)) d4 q1.2 h
    · have h := it_neg h p7
      refine r_aload_n hX (p2 := 18) rfl rfl rfl ⟨_, Or.inl rfl⟩ ?_
      refine r_gf hX (p2 := 21) (v := vR (cc 3 i0)) rfl rfl (hc2 i0 hi0) rfl rfl rfl ?_
      refine r_gf hX (p2 := 24) (v := vR (ca 302 i0)) rfl rfl (hc3 i0 (Nat.lt_succ_of_lt hi0)) rfl rfl rfl ?_
      refine r_iload_n hX (p2 := 25) rfl rfl rfl ?_
      obtain ⟨c2, h⟩ := ck_some h
      refine r_iaload hX (p2 := 26) (j := x3.toNat) rfl rfl (ha302 i0 (Nat.lt_succ_of_lt hi0)) rfl rfl c2 rfl ?_
      obtain ⟨v3, hv3, h⟩ := bs_some h
      refine r_istoreE hX (p2 := 28) (ls2 := [some (vR (cc 2 i0)), some (vI x1), some (vI x2), some (vI x3), some (vI v3)]) rfl rfl hv3 rfl rfl ?_
      refine r_aload_n hX (p2 := 29) rfl rfl rfl ⟨_, Or.inl rfl⟩ ?_
      refine r_gf hX (p2 := 32) (v := vR (ca 204 i0)) rfl rfl (hc2 i0 hi0) rfl rfl rfl ?_
      refine r_iload_n hX (p2 := 33) rfl rfl rfl ?_
      refine r_iload hX (p2 := 35) rfl rfl rfl ?_
      refine r_iconst hX (p2 := 36) rfl rfl rfl ?_
      refine r_icmp hX (p2 := 51) (p3 := 39) (P := v3 = 2) rfl (by decide) rfl rfl (fun p6 => ?_) (fun p6 => ?_)
      · have h := it_pos h p6
        exact t_X2_chooseWide_51 xs e i0 hi0 q X hX _ _ ih hK80 x1 x2 x3 x3 (some (vI v3)) q1.2 h
      · have h := it_neg h p6
        refine r_iload hX (p2 := 41) rfl rfl rfl ?_
        refine r_iconst hX (p2 := 42) rfl rfl rfl ?_
        refine r_icmp hX (p2 := 51) (p3 := 45) (P := v3 = 3) rfl (by decide) rfl rfl (fun p5 => ?_) (fun p5 => ?_)
        · have h := it_pos h p5
          exact t_X2_chooseWide_51 xs e i0 hi0 q X hX _ _ ih hK80 x1 x2 x3 x3 (some (vI v3)) q1.2 h
        · have h := it_neg h p5
          refine r_iload hX (p2 := 47) rfl rfl rfl ?_
          refine r_iconst hX (p2 := 48) rfl rfl rfl ?_
          refine r_icmp hX (p2 := 55) (p3 := 51) (P := v3 ≠ 5) rfl (by decide) rfl rfl (fun p4 => ?_) (fun p4 => ?_)
          · have h := it_pos h p4
            refine r_iconst hX (p2 := 56) rfl rfl rfl ?_
            exact t_X2_chooseWide_56 xs e i0 hi0 q X hX _ _ ih hK80 x1 x2 x3 x3 0 (some (vI v3)) q1.2 h
          · have h := it_neg h p4
            exact t_X2_chooseWide_51 xs e i0 hi0 q X hX _ _ ih hK80 x1 x2 x3 x3 (some (vI v3)) q1.2 h
noncomputable def f_X2_chooseWide (i0 : Nat) (a1 : Int) (s : pS) : Option (Int × pS) := (f_X2_firstOf i0 a1 s).bind (fun q1 => f_X2_chooseWide_8 i0 (fun x2 s2 => some (x2, s2)) 400 a1 0 q1.1 q1.2)
set_option maxRecDepth 10000 in
theorem c_X2_chooseWide (xs : Nat → Int) (e : Nat) (i0 : Nat) (a1 : Int) (hi0 : i0 < 2) (s : pS) (q : Int × pS) (h : f_X2_chooseWide i0 a1 s = some q) : pCall pm_tx 1001 xs pm_P (e + 1 + 1) 29 [vR (cc 2 i0), vI a1] (pW s) (.inl (some (vI q.1))) (pW q.2) := by
  refine pCall_of mX2_chooseWide rfl rfl (fun X hX => ?_)
  show X [some (vR (cc 2 i0)), some (vI a1), none, none, none] [] 0 (pW s)
  replace hX : pm_clo 1001 xs (pCall pm_tx 1001 xs pm_P (e + 1)) (e + 1) mX2_chooseWide (eI q) X := hX
  unfold f_X2_chooseWide at h
  refine r_iconst hX (p2 := 1) rfl rfl rfl ?_
  refine r_istore_n hX (p2 := 2) (ls2 := [some (vR (cc 2 i0)), some (vI a1), some (vI 0), none, none]) rfl rfl rfl rfl ?_
  refine r_aload_n hX (p2 := 3) rfl rfl rfl ⟨_, Or.inl rfl⟩ ?_
  refine r_iload_n hX (p2 := 4) rfl rfl rfl ?_
  obtain ⟨q1, hq1, h⟩ := bd_some h
  refine r_callv hX (p2 := 7) (v := some (vI q1.1)) (as := [vI a1]) (r := []) (st2 := [vI q1.1]) rfl rfl rfl rfl rfl (hc2 i0 hi0) rfl rfl (c_X2_firstOf xs e i0 a1 hi0 s q1 hq1) ?_
  refine r_istore_n hX (p2 := 8) (ls2 := [some (vR (cc 2 i0)), some (vI a1), some (vI 0), some (vI q1.1), none]) rfl rfl rfl rfl ?_
  refine t_X2_chooseWide_8 xs e i0 hi0 q X hX _ (fun x2 d0 d1 d3 d4 s2 h => ?_) 400 a1 0 q1.1 none q1.2 h
  refine r_iload_n hX (p2 := 81) rfl rfl rfl ?_
  exact r_iretI hX rfl rfl (eI_ok h)
noncomputable def f_X2_lessSizes_203_10 (i0 : Nat) (i2 : Nat) (K35 : UInt32 → pS → Option (UInt32 × pS)) : Nat → Int → UInt32 → Int → pS → Option (UInt32 × pS)
  | 0, _, _, _, _ => none
  | n + 1, x3, x4, x5, s => (f_X2_endOf i0 x3 s).bind (fun q1 => (if q1.1 ≤ x5 then K35 x4 q1.2 else ck (0 ≤ x5 ∧ x5 < 12) (ck (vf_n32 (FP.fsub x4 (sB q1.2 203 i2 x5.toNat))) (bs ((FP.fsub x4 (sB q1.2 203 i2 x5.toNat))) (fun v4 => ck (inR (x5 + 1)) (f_X2_lessSizes_203_10 i0 i2 K35 n x3 v4 (x5 + 1) q1.2))))))
set_option maxRecDepth 10000 in
theorem t_X2_lessSizes_203_10 (xs : Nat → Int) (e : Nat) (i0 : Nat) (i2 : Nat) (hi0 : i0 < 2) (hi2 : i2 < 2) (q : UInt32 × pS) (X : List (Option pV) → List pV → Nat → pH → Prop) (hX : pm_clo 1001 xs (pCall pm_tx 1001 xs pm_P (e + 1)) (e + 1) mX2_lessSizes (eF q) X) (K35 : UInt32 → pS → Option (UInt32 × pS)) (hK35 : ∀ (x4 : UInt32) (d0 : Option pV) (d1 : Option pV) (d2 : Option pV) (d3 : Option pV) (d5 : Option pV) (s : pS), K35 x4 s = some q → X [d0, d1, d2, d3, some (vF x4), d5] [] 35 (pW s)) : ∀ (n : Nat) (x3 : Int) (x4 : UInt32) (x5 : Int) (d1 : Option pV) (s : pS), f_X2_lessSizes_203_10 i0 i2 K35 n x3 x4 x5 s = some q → X [some (vR (cc 2 i0)), d1, some (vR (ca 203 i2)), some (vI x3), some (vF x4), some (vI x5)] [] 10 (pW s) := by
  intro n
  induction n with
  | zero =>
    intro x3 x4 x5 d1 s h
    rw [f_X2_lessSizes_203_10] at h
    cases h
  | succ n ih =>
    intro x3 x4 x5 d1 s h
    rw [f_X2_lessSizes_203_10] at h
    refine r_iload hX (p2 := 12) rfl rfl rfl ?_
    refine r_aload_n hX (p2 := 13) rfl rfl rfl ⟨_, Or.inl rfl⟩ ?_
    refine r_iload_n hX (p2 := 14) rfl rfl rfl ?_
    obtain ⟨q1, hq1, h⟩ := bd_some h
    refine r_callv hX (p2 := 17) (v := some (vI q1.1)) (as := [vI x3]) (r := [vI x5]) (st2 := [vI q1.1, vI x5]) rfl rfl rfl rfl rfl (hc2 i0 hi0) rfl rfl (c_X2_endOf xs e i0 x3 hi0 s q1 hq1) ?_
    refine r_icmp hX (p2 := 35) (p3 := 20) (P := q1.1 ≤ x5) rfl (by decide) rfl rfl (fun p6 => ?_) (fun p6 => ?_)
    · have h := it_pos h p6
      exact hK35 x4 (some (vR (cc 2 i0))) d1 (some (vR (ca 203 i2))) (some (vI x3)) (some (vI x5)) q1.2 h
    · have h := it_neg h p6
      refine r_fload hX (p2 := 22) rfl rfl rfl ?_
      refine r_aload_n hX (p2 := 23) rfl rfl rfl ⟨_, Or.inl rfl⟩ ?_
      refine r_iload hX (p2 := 25) rfl rfl rfl ?_
      obtain ⟨c2, h⟩ := ck_some h
      refine r_faload hX (p2 := 26) (j := x5.toNat) rfl rfl (ha203 i2 hi2) rfl rfl c2 rfl ?_
      obtain ⟨c3, h⟩ := ck_some h
      refine r_fsub hX (p2 := 27) rfl rfl c3 ?_
      obtain ⟨v4, hv4, h⟩ := bs_some h
      refine r_fstoreE hX (p2 := 29) (ls2 := [some (vR (cc 2 i0)), d1, some (vR (ca 203 i2)), some (vI x3), some (vF v4), some (vI x5)]) rfl rfl hv4 rfl rfl ?_
      obtain ⟨c5, h⟩ := ck_some h
      refine r_iinc hX (p2 := 32) (ls2 := [some (vR (cc 2 i0)), d1, some (vR (ca 203 i2)), some (vI x3), some (vF v4), some (vI (x5 + 1))]) rfl rfl rfl rfl c5 rfl ?_
      refine r_goto hX (p2 := 10) rfl (by decide) ?_
      exact ih x3 v4 (x5 + 1) d1 q1.2 h
noncomputable def f_X2_lessSizes_203 (i0 : Nat) (a1 : UInt32) (i2 : Nat) (a3 : Int) (s : pS) : Option (UInt32 × pS) := (f_X2_firstOf i0 a3 s).bind (fun q1 => f_X2_lessSizes_203_10 i0 i2 (fun x4 s2 => some (x4, s2)) 400 a3 a1 q1.1 q1.2)
set_option maxRecDepth 10000 in
theorem c_X2_lessSizes_203 (xs : Nat → Int) (e : Nat) (i0 : Nat) (a1 : UInt32) (i2 : Nat) (a3 : Int) (hi0 : i0 < 2) (hi2 : i2 < 2) (s : pS) (q : UInt32 × pS) (h : f_X2_lessSizes_203 i0 a1 i2 a3 s = some q) : pCall pm_tx 1001 xs pm_P (e + 1 + 1) 31 [vR (cc 2 i0), vF a1, vR (ca 203 i2), vI a3] (pW s) (.inl (some (vF q.1))) (pW q.2) := by
  refine pCall_of mX2_lessSizes rfl rfl (fun X hX => ?_)
  show X [some (vR (cc 2 i0)), some (vF a1), some (vR (ca 203 i2)), some (vI a3), none, none] [] 0 (pW s)
  replace hX : pm_clo 1001 xs (pCall pm_tx 1001 xs pm_P (e + 1)) (e + 1) mX2_lessSizes (eF q) X := hX
  unfold f_X2_lessSizes_203 at h
  refine r_fload_n hX (p2 := 1) rfl rfl rfl ?_
  refine r_fstore hX (p2 := 3) (ls2 := [some (vR (cc 2 i0)), some (vF a1), some (vR (ca 203 i2)), some (vI a3), some (vF a1), none]) rfl rfl rfl rfl ?_
  refine r_aload_n hX (p2 := 4) rfl rfl rfl ⟨_, Or.inl rfl⟩ ?_
  refine r_iload_n hX (p2 := 5) rfl rfl rfl ?_
  obtain ⟨q1, hq1, h⟩ := bd_some h
  refine r_callv hX (p2 := 8) (v := some (vI q1.1)) (as := [vI a3]) (r := []) (st2 := [vI q1.1]) rfl rfl rfl rfl rfl (hc2 i0 hi0) rfl rfl (c_X2_firstOf xs e i0 a3 hi0 s q1 hq1) ?_
  refine r_istore hX (p2 := 10) (ls2 := [some (vR (cc 2 i0)), some (vF a1), some (vR (ca 203 i2)), some (vI a3), some (vF a1), some (vI q1.1)]) rfl rfl rfl rfl ?_
  refine t_X2_lessSizes_203_10 xs e i0 i2 hi0 hi2 q X hX _ (fun x4 d0 d1 d2 d3 d5 s2 h => ?_) 400 a3 a1 q1.1 (some (vF a1)) q1.2 h
  refine r_fload hX (p2 := 37) rfl rfl rfl ?_
  exact r_freturn hX rfl rfl (eF_ok h)
noncomputable def f_X2_spread_203_81 (i0 : Nat) (i2 : Nat) (K50 : Int → UInt32 → Int → pS → Option (pS)) (K87 : pS → Option (pS)) (x3 : Int) (x6 : UInt32) (x7 : Int) (s : pS) : Option (pS) := ck (inR (x7 + 1)) (K50 x3 x6 (x7 + 1) s)
set_option maxRecDepth 10000 in
theorem t_X2_spread_203_81 (xs : Nat → Int) (e : Nat) (i0 : Nat) (i2 : Nat) (hi0 : i0 < 2) (hi2 : i2 < 2) (q : pS) (X : List (Option pV) → List pV → Nat → pH → Prop) (hX : pm_clo 1001 xs (pCall pm_tx 1001 xs pm_P (e + 2)) (e + 2) mX2_spread (eU q) X) (K50 : Int → UInt32 → Int → pS → Option (pS)) (K87 : pS → Option (pS)) (hK50 : ∀ (x3 : Int) (x6 : UInt32) (x7 : Int) (d1 : Option pV) (d4 : Option pV) (d5 : Option pV) (s : pS), K50 x3 x6 x7 s = some q → X [some (vR (cc 2 i0)), d1, some (vR (ca 203 i2)), some (vI x3), d4, d5, some (vF x6), some (vI x7)] [] 50 (pW s)) (hK87 : ∀ (d0 : Option pV) (d1 : Option pV) (d2 : Option pV) (d3 : Option pV) (d4 : Option pV) (d5 : Option pV) (d6 : Option pV) (d7 : Option pV) (s : pS), K87 s = some q → X [d0, d1, d2, d3, d4, d5, d6, d7] [] 87 (pW s)) : ∀  (x3 : Int) (x6 : UInt32) (x7 : Int) (d1 : Option pV) (d4 : Option pV) (d5 : Option pV) (s : pS), f_X2_spread_203_81 i0 i2 K50 K87 x3 x6 x7 s = some q → X [some (vR (cc 2 i0)), d1, some (vR (ca 203 i2)), some (vI x3), d4, d5, some (vF x6), some (vI x7)] [] 81 (pW s) := by
  intro x3 x6 x7 d1 d4 d5 s h
  unfold f_X2_spread_203_81 at h
  obtain ⟨c1, h⟩ := ck_some h
  refine r_iinc hX (p2 := 84) (ls2 := [some (vR (cc 2 i0)), d1, some (vR (ca 203 i2)), some (vI x3), d4, d5, some (vF x6), some (vI (x7 + 1))]) rfl rfl rfl rfl c1 rfl ?_
  refine r_goto hX (p2 := 50) rfl (by decide) ?_
  exact hK50 x3 x6 (x7 + 1) d1 d4 d5 s h
noncomputable def f_X2_spread_203_50 (i0 : Nat) (i2 : Nat) (K87 : pS → Option (pS)) : Nat → Int → UInt32 → Int → pS → Option (pS)
  | 0, _, _, _, _ => none
  | n + 1, x3, x6, x7, s => (f_X2_endOf i0 x3 s).bind (fun q1 => (if q1.1 ≤ x7 then K87 q1.2 else ck (0 ≤ x7 ∧ x7 < 12) ((if (sA q1.2 204 i0 x7.toNat) = 0 then f_X2_spread_203_81 i0 i2 (f_X2_spread_203_50 i0 i2 K87 n) K87 x3 x6 x7 q1.2 else ck (0 ≤ x7 ∧ x7 < 12) (ck (vf_n32 (FP.fadd (sB q1.2 203 i2 x7.toNat) x6)) (ck (0 ≤ x7 ∧ x7 < 12) (bs (wB q1.2 203 i2 (pm_up (sB q1.2 203 i2) x7.toNat (FP.fadd (sB q1.2 203 i2 x7.toNat) x6))) (fun s6 => f_X2_spread_203_81 i0 i2 (f_X2_spread_203_50 i0 i2 K87 n) K87 x3 x6 x7 s6))))))))
set_option maxRecDepth 10000 in
theorem t_X2_spread_203_50 (xs : Nat → Int) (e : Nat) (i0 : Nat) (i2 : Nat) (hi0 : i0 < 2) (hi2 : i2 < 2) (q : pS) (X : List (Option pV) → List pV → Nat → pH → Prop) (hX : pm_clo 1001 xs (pCall pm_tx 1001 xs pm_P (e + 2)) (e + 2) mX2_spread (eU q) X) (K87 : pS → Option (pS)) (hK87 : ∀ (d0 : Option pV) (d1 : Option pV) (d2 : Option pV) (d3 : Option pV) (d4 : Option pV) (d5 : Option pV) (d6 : Option pV) (d7 : Option pV) (s : pS), K87 s = some q → X [d0, d1, d2, d3, d4, d5, d6, d7] [] 87 (pW s)) : ∀ (n : Nat) (x3 : Int) (x6 : UInt32) (x7 : Int) (d1 : Option pV) (d4 : Option pV) (d5 : Option pV) (s : pS), f_X2_spread_203_50 i0 i2 K87 n x3 x6 x7 s = some q → X [some (vR (cc 2 i0)), d1, some (vR (ca 203 i2)), some (vI x3), d4, d5, some (vF x6), some (vI x7)] [] 50 (pW s) := by
  intro n
  induction n with
  | zero =>
    intro x3 x6 x7 d1 d4 d5 s h
    rw [f_X2_spread_203_50] at h
    cases h
  | succ n ih =>
    intro x3 x6 x7 d1 d4 d5 s h
    rw [f_X2_spread_203_50] at h
    refine r_iload hX (p2 := 52) rfl rfl rfl ?_
    refine r_aload_n hX (p2 := 53) rfl rfl rfl ⟨_, Or.inl rfl⟩ ?_
    refine r_iload_n hX (p2 := 54) rfl rfl rfl ?_
    obtain ⟨q1, hq1, h⟩ := bd_some h
    refine r_callv hX (p2 := 57) (v := some (vI q1.1)) (as := [vI x3]) (r := [vI x7]) (st2 := [vI q1.1, vI x7]) rfl rfl rfl rfl rfl (hc2 i0 hi0) rfl rfl (c_X2_endOf xs (e + 1) i0 x3 hi0 s q1 hq1) ?_
    refine r_icmp hX (p2 := 87) (p3 := 60) (P := q1.1 ≤ x7) rfl (by decide) rfl rfl (fun p8 => ?_) (fun p8 => ?_)
    · have h := it_pos h p8
      exact hK87 (some (vR (cc 2 i0))) d1 (some (vR (ca 203 i2))) (some (vI x3)) d4 d5 (some (vF x6)) (some (vI x7)) q1.2 h
    · have h := it_neg h p8
      refine r_aload_n hX (p2 := 61) rfl rfl rfl ⟨_, Or.inl rfl⟩ ?_
      refine r_gf hX (p2 := 64) (v := vR (ca 204 i0)) rfl rfl (hc2 i0 hi0) rfl rfl rfl ?_
      refine r_iload hX (p2 := 66) rfl rfl rfl ?_
      obtain ⟨c2, h⟩ := ck_some h
      refine r_baload hX (p2 := 67) (j := x7.toNat) rfl rfl (ha204 i0 hi0) rfl rfl c2 rfl ?_
      refine r_if hX (p2 := 81) (p3 := 70) (P := (sA q1.2 204 i0 x7.toNat) = 0) rfl (by decide) rfl rfl (fun p7 => ?_) (fun p7 => ?_)
      · have h := it_pos h p7
        exact t_X2_spread_203_81 xs e i0 i2 hi0 hi2 q X hX _ _ ih hK87 x3 x6 x7 d1 d4 d5 q1.2 h
      · have h := it_neg h p7
        refine r_aload_n hX (p2 := 71) rfl rfl rfl ⟨_, Or.inl rfl⟩ ?_
        refine r_iload hX (p2 := 73) rfl rfl rfl ?_
        refine r_aload_n hX (p2 := 74) rfl rfl rfl ⟨_, Or.inl rfl⟩ ?_
        refine r_iload hX (p2 := 76) rfl rfl rfl ?_
        obtain ⟨c3, h⟩ := ck_some h
        refine r_faload hX (p2 := 77) (j := x7.toNat) rfl rfl (ha203 i2 hi2) rfl rfl c3 rfl ?_
        refine r_fload hX (p2 := 79) rfl rfl rfl ?_
        obtain ⟨c4, h⟩ := ck_some h
        refine r_fadd hX (p2 := 80) rfl rfl c4 ?_
        obtain ⟨c5, h⟩ := ck_some h
        obtain ⟨s6, hs6, h⟩ := bs_some h
        refine r_fastore hX (p2 := 81) (j := x7.toNat) rfl rfl (ha203 i2 hi2) rfl rfl c5 rfl hs6 ?_
        exact t_X2_spread_203_81 xs e i0 i2 hi0 hi2 q X hX _ _ ih hK87 x3 x6 x7 d1 d4 d5 s6 h
noncomputable def f_X2_spread_203_87 (i0 : Nat) (i2 : Nat) (s : pS) : Option (pS) := some s
set_option maxRecDepth 10000 in
theorem t_X2_spread_203_87 (xs : Nat → Int) (e : Nat) (i0 : Nat) (i2 : Nat) (hi0 : i0 < 2) (hi2 : i2 < 2) (q : pS) (X : List (Option pV) → List pV → Nat → pH → Prop) (hX : pm_clo 1001 xs (pCall pm_tx 1001 xs pm_P (e + 2)) (e + 2) mX2_spread (eU q) X) : ∀  (d0 : Option pV) (d1 : Option pV) (d2 : Option pV) (d3 : Option pV) (d4 : Option pV) (d5 : Option pV) (d6 : Option pV) (d7 : Option pV) (s : pS), f_X2_spread_203_87 i0 i2 s = some q → X [d0, d1, d2, d3, d4, d5, d6, d7] [] 87 (pW s) := by
  intro d0 d1 d2 d3 d4 d5 d6 d7 s h
  unfold f_X2_spread_203_87 at h
  exact r_return hX rfl rfl (eU_ok h)
noncomputable def f_X2_spread_203 (i0 : Nat) (a1 : UInt32) (i2 : Nat) (a3 : Int) (a4 : Int) (s : pS) : Option (pS) := (if a4 ≠ 0 then (f_X2_lessSizes_203 i0 a1 i2 a3 s).bind (fun q1 => ck (0 ≤ a3 ∧ a3 < 10) ((f_X2_lessGaps i0 q1.1 (sA q1.2 5 i0 a3.toNat) q1.2).bind (fun q3 => (if (pm_fc .l q3.1 FP.fconst0) ≤ 0 then f_X2_spread_203_87 i0 i2 q3.2 else ck (vf_n32 (FP.fdiv q3.1 (FP.i2f (Int32.ofInt a4)))) (bs ((FP.fdiv q3.1 (FP.i2f (Int32.ofInt a4)))) (fun v5 => (f_X2_firstOf i0 a3 q3.2).bind (fun q6 => f_X2_spread_203_50 i0 i2 (fun s7 => f_X2_spread_203_87 i0 i2 s7) 400 a3 v5 q6.1 q6.2))))))) else some s)
set_option maxRecDepth 10000 in
theorem c_X2_spread_203 (xs : Nat → Int) (e : Nat) (i0 : Nat) (a1 : UInt32) (i2 : Nat) (a3 : Int) (a4 : Int) (hi0 : i0 < 2) (hi2 : i2 < 2) (s : pS) (q : pS) (h : f_X2_spread_203 i0 a1 i2 a3 a4 s = some q) : pCall pm_tx 1001 xs pm_P (e + 2 + 1) 30 [vR (cc 2 i0), vF a1, vR (ca 203 i2), vI a3, vI a4] (pW s) (.inl none) (pW q) := by
  refine pCall_of mX2_spread rfl rfl (fun X hX => ?_)
  show X [some (vR (cc 2 i0)), some (vF a1), some (vR (ca 203 i2)), some (vI a3), some (vI a4), none, none, none] [] 0 (pW s)
  replace hX : pm_clo 1001 xs (pCall pm_tx 1001 xs pm_P (e + 2)) (e + 2) mX2_spread (eU q) X := hX
  unfold f_X2_spread_203 at h
  refine r_iload hX (p2 := 2) rfl rfl rfl ?_
  refine r_if hX (p2 := 6) (p3 := 5) (P := a4 ≠ 0) rfl (by decide) rfl rfl (fun p9 => ?_) (fun p9 => ?_)
  · have h := it_pos h p9
    refine r_aload_n hX (p2 := 7) rfl rfl rfl ⟨_, Or.inl rfl⟩ ?_
    refine r_aload_n hX (p2 := 8) rfl rfl rfl ⟨_, Or.inl rfl⟩ ?_
    refine r_fload_n hX (p2 := 9) rfl rfl rfl ?_
    refine r_aload_n hX (p2 := 10) rfl rfl rfl ⟨_, Or.inl rfl⟩ ?_
    refine r_iload_n hX (p2 := 11) rfl rfl rfl ?_
    obtain ⟨q1, hq1, h⟩ := bd_some h
    refine r_callv hX (p2 := 14) (v := some (vF q1.1)) (as := [vF a1, vR (ca 203 i2), vI a3]) (r := [vR (cc 2 i0)]) (st2 := [vF q1.1, vR (cc 2 i0)]) rfl rfl rfl rfl rfl (hc2 i0 hi0) rfl rfl (c_X2_lessSizes_203 xs e i0 a1 i2 a3 hi0 hi2 s q1 hq1) ?_
    refine r_aload_n hX (p2 := 15) rfl rfl rfl ⟨_, Or.inl rfl⟩ ?_
    refine r_gf hX (p2 := 18) (v := vR (cc 0 i0)) rfl rfl (hc2 i0 hi0) rfl rfl rfl ?_
    refine r_gf hX (p2 := 21) (v := vR (ca 5 i0)) rfl rfl (hc0 i0 hi0) rfl rfl rfl ?_
    refine r_iload_n hX (p2 := 22) rfl rfl rfl ?_
    obtain ⟨c2, h⟩ := ck_some h
    refine r_iaload hX (p2 := 23) (j := a3.toNat) rfl rfl (ha5 i0 hi0) rfl rfl c2 rfl ?_
    obtain ⟨q3, hq3, h⟩ := bd_some h
    refine r_callv hX (p2 := 26) (v := some (vF q3.1)) (as := [vF q1.1, vI (sA q1.2 5 i0 a3.toNat)]) (r := []) (st2 := [vF q3.1]) rfl rfl rfl rfl rfl (hc2 i0 hi0) rfl rfl (c_X2_lessGaps xs (e + 1) i0 q1.1 (sA q1.2 5 i0 a3.toNat) hi0 q1.2 q3 hq3) ?_
    refine r_fstore hX (p2 := 28) (ls2 := [some (vR (cc 2 i0)), some (vF a1), some (vR (ca 203 i2)), some (vI a3), some (vI a4), some (vF q3.1), none, none]) rfl rfl rfl rfl ?_
    refine r_fload hX (p2 := 30) rfl rfl rfl ?_
    refine r_fconst0 hX (p2 := 31) rfl rfl ?_
    refine r_fcmp hX (p2 := 32) rfl rfl ?_
    refine r_if hX (p2 := 87) (p3 := 35) (P := (pm_fc .l q3.1 FP.fconst0) ≤ 0) rfl (by decide) rfl rfl (fun p8 => ?_) (fun p8 => ?_)
    · have h := it_pos h p8
      exact t_X2_spread_203_87 xs e i0 i2 hi0 hi2 q X hX (some (vR (cc 2 i0))) (some (vF a1)) (some (vR (ca 203 i2))) (some (vI a3)) (some (vI a4)) (some (vF q3.1)) none none q3.2 h
    · have h := it_neg h p8
      refine r_fload hX (p2 := 37) rfl rfl rfl ?_
      refine r_iload hX (p2 := 39) rfl rfl rfl ?_
      refine r_i2f hX (p2 := 40) rfl rfl ?_
      obtain ⟨c4, h⟩ := ck_some h
      refine r_fdiv hX (p2 := 41) rfl rfl c4 ?_
      obtain ⟨v5, hv5, h⟩ := bs_some h
      refine r_fstoreE hX (p2 := 43) (ls2 := [some (vR (cc 2 i0)), some (vF a1), some (vR (ca 203 i2)), some (vI a3), some (vI a4), some (vF q3.1), some (vF v5), none]) rfl rfl hv5 rfl rfl ?_
      refine r_aload_n hX (p2 := 44) rfl rfl rfl ⟨_, Or.inl rfl⟩ ?_
      refine r_iload_n hX (p2 := 45) rfl rfl rfl ?_
      obtain ⟨q6, hq6, h⟩ := bd_some h
      refine r_callv hX (p2 := 48) (v := some (vI q6.1)) (as := [vI a3]) (r := []) (st2 := [vI q6.1]) rfl rfl rfl rfl rfl (hc2 i0 hi0) rfl rfl (c_X2_firstOf xs (e + 1) i0 a3 hi0 q3.2 q6 hq6) ?_
      refine r_istore hX (p2 := 50) (ls2 := [some (vR (cc 2 i0)), some (vF a1), some (vR (ca 203 i2)), some (vI a3), some (vI a4), some (vF q3.1), some (vF v5), some (vI q6.1)]) rfl rfl rfl rfl ?_
      refine t_X2_spread_203_50 xs e i0 i2 hi0 hi2 q X hX _ (fun d0 d1 d2 d3 d4 d5 d6 d7 s7 h => ?_) 400 a3 v5 q6.1 (some (vF a1)) (some (vI a4)) (some (vF q3.1)) q6.2 h
      exact t_X2_spread_203_87 xs e i0 i2 hi0 hi2 q X hX d0 d1 d2 d3 d4 d5 d6 d7 s7 h
  · have h := it_neg h p9
    exact r_return hX rfl rfl (eU_ok h)
noncomputable def f_X2_spreadMost_65 (i0 : Nat) (K9 : Int → Int → pS → Option (pS)) (K71 : Int → pS → Option (pS)) (x1 : Int) (x2 : Int) (s : pS) : Option (pS) := ck (inR (x2 + 1)) (K9 x1 (x2 + 1) s)
set_option maxRecDepth 10000 in
theorem t_X2_spreadMost_65 (xs : Nat → Int) (e : Nat) (i0 : Nat) (hi0 : i0 < 2) (q : pS) (X : List (Option pV) → List pV → Nat → pH → Prop) (hX : pm_clo 1001 xs (pCall pm_tx 1001 xs pm_P (e + 3)) (e + 3) mX2_spreadMost (eU q) X) (K9 : Int → Int → pS → Option (pS)) (K71 : Int → pS → Option (pS)) (hK9 : ∀ (x1 : Int) (x2 : Int) (s : pS), K9 x1 x2 s = some q → X [some (vR (cc 2 i0)), some (vI x1), some (vI x2)] [] 9 (pW s)) (hK71 : ∀ (x1 : Int) (d2 : Option pV) (s : pS), K71 x1 s = some q → X [some (vR (cc 2 i0)), some (vI x1), d2] [] 71 (pW s)) : ∀  (x1 : Int) (x2 : Int) (s : pS), f_X2_spreadMost_65 i0 K9 K71 x1 x2 s = some q → X [some (vR (cc 2 i0)), some (vI x1), some (vI x2)] [] 65 (pW s) := by
  intro x1 x2 s h
  unfold f_X2_spreadMost_65 at h
  obtain ⟨c1, h⟩ := ck_some h
  refine r_iinc hX (p2 := 68) (ls2 := [some (vR (cc 2 i0)), some (vI x1), some (vI (x2 + 1))]) rfl rfl rfl rfl c1 rfl ?_
  refine r_goto hX (p2 := 9) rfl (by decide) ?_
  exact hK9 x1 (x2 + 1) s h
noncomputable def f_X2_spreadMost_9 (i0 : Nat) (K71 : Int → pS → Option (pS)) : Nat → Int → Int → pS → Option (pS)
  | 0, _, _, _ => none
  | n + 1, x1, x2, s => (if (sI s 205 i0) ≤ x2 then K71 x1 s else ck (0 ≤ x2 ∧ x2 < 10) ((if (sA s 11 i0 x2.toNat) = 0 then f_X2_spreadMost_65 i0 (f_X2_spreadMost_9 i0 K71 n) K71 x1 x2 s else ck (0 ≤ x2 ∧ x2 < 10) ((if (sA s 5 i0 x2.toNat) ≠ x1 then f_X2_spreadMost_65 i0 (f_X2_spreadMost_9 i0 K71 n) K71 x1 x2 s else ck (0 ≤ x2 ∧ x2 < 10) ((f_X2_chooseWide i0 x2 s).bind (fun q4 => (f_X2_spread_203 i0 (sB s 7 i0 x2.toNat) i0 x2 q4.1 q4.2).bind (fun q5 => f_X2_spreadMost_65 i0 (f_X2_spreadMost_9 i0 K71 n) K71 x1 x2 q5))))))))
set_option maxRecDepth 10000 in
theorem t_X2_spreadMost_9 (xs : Nat → Int) (e : Nat) (i0 : Nat) (hi0 : i0 < 2) (q : pS) (X : List (Option pV) → List pV → Nat → pH → Prop) (hX : pm_clo 1001 xs (pCall pm_tx 1001 xs pm_P (e + 3)) (e + 3) mX2_spreadMost (eU q) X) (K71 : Int → pS → Option (pS)) (hK71 : ∀ (x1 : Int) (d2 : Option pV) (s : pS), K71 x1 s = some q → X [some (vR (cc 2 i0)), some (vI x1), d2] [] 71 (pW s)) : ∀ (n : Nat) (x1 : Int) (x2 : Int) (s : pS), f_X2_spreadMost_9 i0 K71 n x1 x2 s = some q → X [some (vR (cc 2 i0)), some (vI x1), some (vI x2)] [] 9 (pW s) := by
  intro n
  induction n with
  | zero =>
    intro x1 x2 s h
    rw [f_X2_spreadMost_9] at h
    cases h
  | succ n ih =>
    intro x1 x2 s h
    rw [f_X2_spreadMost_9] at h
    refine r_iload_n hX (p2 := 10) rfl rfl rfl ?_
    refine r_aload_n hX (p2 := 11) rfl rfl rfl ⟨_, Or.inl rfl⟩ ?_
    refine r_gf hX (p2 := 14) (v := vI (sI s 205 i0)) rfl rfl (hc2 i0 hi0) rfl rfl rfl ?_
    refine r_icmp hX (p2 := 71) (p3 := 17) (P := (sI s 205 i0) ≤ x2) rfl (by decide) rfl rfl (fun p8 => ?_) (fun p8 => ?_)
    · have h := it_pos h p8
      exact hK71 x1 (some (vI x2)) s h
    · have h := it_neg h p8
      refine r_aload_n hX (p2 := 18) rfl rfl rfl ⟨_, Or.inl rfl⟩ ?_
      refine r_gf hX (p2 := 21) (v := vR (cc 0 i0)) rfl rfl (hc2 i0 hi0) rfl rfl rfl ?_
      refine r_gf hX (p2 := 24) (v := vR (ca 11 i0)) rfl rfl (hc0 i0 hi0) rfl rfl rfl ?_
      refine r_iload_n hX (p2 := 25) rfl rfl rfl ?_
      obtain ⟨c1, h⟩ := ck_some h
      refine r_iaload hX (p2 := 26) (j := x2.toNat) rfl rfl (ha11 i0 hi0) rfl rfl c1 rfl ?_
      refine r_if hX (p2 := 65) (p3 := 29) (P := (sA s 11 i0 x2.toNat) = 0) rfl (by decide) rfl rfl (fun p7 => ?_) (fun p7 => ?_)
      · have h := it_pos h p7
        exact t_X2_spreadMost_65 xs e i0 hi0 q X hX _ _ ih hK71 x1 x2 s h
      · have h := it_neg h p7
        refine r_aload_n hX (p2 := 30) rfl rfl rfl ⟨_, Or.inl rfl⟩ ?_
        refine r_gf hX (p2 := 33) (v := vR (cc 0 i0)) rfl rfl (hc2 i0 hi0) rfl rfl rfl ?_
        refine r_gf hX (p2 := 36) (v := vR (ca 5 i0)) rfl rfl (hc0 i0 hi0) rfl rfl rfl ?_
        refine r_iload_n hX (p2 := 37) rfl rfl rfl ?_
        obtain ⟨c2, h⟩ := ck_some h
        refine r_iaload hX (p2 := 38) (j := x2.toNat) rfl rfl (ha5 i0 hi0) rfl rfl c2 rfl ?_
        refine r_iload_n hX (p2 := 39) rfl rfl rfl ?_
        refine r_icmp hX (p2 := 65) (p3 := 42) (P := (sA s 5 i0 x2.toNat) ≠ x1) rfl (by decide) rfl rfl (fun p6 => ?_) (fun p6 => ?_)
        · have h := it_pos h p6
          exact t_X2_spreadMost_65 xs e i0 hi0 q X hX _ _ ih hK71 x1 x2 s h
        · have h := it_neg h p6
          refine r_aload_n hX (p2 := 43) rfl rfl rfl ⟨_, Or.inl rfl⟩ ?_
          refine r_aload_n hX (p2 := 44) rfl rfl rfl ⟨_, Or.inl rfl⟩ ?_
          refine r_gf hX (p2 := 47) (v := vR (cc 0 i0)) rfl rfl (hc2 i0 hi0) rfl rfl rfl ?_
          refine r_gf hX (p2 := 50) (v := vR (ca 7 i0)) rfl rfl (hc0 i0 hi0) rfl rfl rfl ?_
          refine r_iload_n hX (p2 := 51) rfl rfl rfl ?_
          obtain ⟨c3, h⟩ := ck_some h
          refine r_faload hX (p2 := 52) (j := x2.toNat) rfl rfl (ha7 i0 hi0) rfl rfl c3 rfl ?_
          refine r_aload_n hX (p2 := 53) rfl rfl rfl ⟨_, Or.inl rfl⟩ ?_
          refine r_gf hX (p2 := 56) (v := vR (ca 203 i0)) rfl rfl (hc2 i0 hi0) rfl rfl rfl ?_
          refine r_iload_n hX (p2 := 57) rfl rfl rfl ?_
          refine r_aload_n hX (p2 := 58) rfl rfl rfl ⟨_, Or.inl rfl⟩ ?_
          refine r_iload_n hX (p2 := 59) rfl rfl rfl ?_
          obtain ⟨q4, hq4, h⟩ := bd_some h
          refine r_callv hX (p2 := 62) (v := some (vI q4.1)) (as := [vI x2]) (r := [vI x2, vR (ca 203 i0), vF (sB s 7 i0 x2.toNat), vR (cc 2 i0)]) (st2 := [vI q4.1, vI x2, vR (ca 203 i0), vF (sB s 7 i0 x2.toNat), vR (cc 2 i0)]) rfl rfl rfl rfl rfl (hc2 i0 hi0) rfl rfl (c_X2_chooseWide xs (e + 1) i0 x2 hi0 s q4 hq4) ?_
          obtain ⟨q5, hq5, h⟩ := bd_some h
          refine r_callv hX (p2 := 65) (v := none) (as := [vF (sB s 7 i0 x2.toNat), vR (ca 203 i0), vI x2, vI q4.1]) (r := []) (st2 := []) rfl rfl rfl rfl rfl (hc2 i0 hi0) rfl rfl (c_X2_spread_203 xs e i0 (sB s 7 i0 x2.toNat) i0 x2 q4.1 hi0 hi0 q4.2 q5 hq5) ?_
          exact t_X2_spreadMost_65 xs e i0 hi0 q X hX _ _ ih hK71 x1 x2 q5 h
noncomputable def f_X2_spreadMost_2 (i0 : Nat) (K77 : pS → Option (pS)) : Nat → Int → pS → Option (pS)
  | 0, _, _ => none
  | n + 1, x1, s => (if 4 < x1 then K77 s else f_X2_spreadMost_9 i0 (fun x1 s1 => ck (inR (x1 + 1)) (f_X2_spreadMost_2 i0 K77 n (x1 + 1) s1)) 400 x1 0 s)
set_option maxRecDepth 10000 in
theorem t_X2_spreadMost_2 (xs : Nat → Int) (e : Nat) (i0 : Nat) (hi0 : i0 < 2) (q : pS) (X : List (Option pV) → List pV → Nat → pH → Prop) (hX : pm_clo 1001 xs (pCall pm_tx 1001 xs pm_P (e + 3)) (e + 3) mX2_spreadMost (eU q) X) (K77 : pS → Option (pS)) (hK77 : ∀ (d0 : Option pV) (d1 : Option pV) (d2 : Option pV) (s : pS), K77 s = some q → X [d0, d1, d2] [] 77 (pW s)) : ∀ (n : Nat) (x1 : Int) (d2 : Option pV) (s : pS), f_X2_spreadMost_2 i0 K77 n x1 s = some q → X [some (vR (cc 2 i0)), some (vI x1), d2] [] 2 (pW s) := by
  intro n
  induction n with
  | zero =>
    intro x1 d2 s h
    rw [f_X2_spreadMost_2] at h
    cases h
  | succ n ih =>
    intro x1 d2 s h
    rw [f_X2_spreadMost_2] at h
    refine r_iload_n hX (p2 := 3) rfl rfl rfl ?_
    refine r_iconst hX (p2 := 4) rfl rfl rfl ?_
    refine r_icmp hX (p2 := 77) (p3 := 7) (P := 4 < x1) rfl (by decide) rfl rfl (fun p3 => ?_) (fun p3 => ?_)
    · have h := it_pos h p3
      exact hK77 (some (vR (cc 2 i0))) (some (vI x1)) d2 s h
    · have h := it_neg h p3
      refine r_iconst hX (p2 := 8) rfl rfl rfl ?_
      refine r_istore_n hX (p2 := 9) (ls2 := [some (vR (cc 2 i0)), some (vI x1), some (vI 0)]) rfl rfl rfl rfl ?_
      refine t_X2_spreadMost_9 xs e i0 hi0 q X hX _ (fun x1 d2 s1 h => ?_) 400 x1 0 s h
      obtain ⟨c2, h⟩ := ck_some h
      refine r_iinc hX (p2 := 74) (ls2 := [some (vR (cc 2 i0)), some (vI (x1 + 1)), d2]) rfl rfl rfl rfl c2 rfl ?_
      refine r_goto hX (p2 := 2) rfl (by decide) ?_
      exact ih (x1 + 1) d2 s1 h
noncomputable def f_X2_spreadMost (i0 : Nat) (s : pS) : Option (pS) := f_X2_spreadMost_2 i0 (fun s1 => some s1) 400 2 s
set_option maxRecDepth 10000 in
theorem c_X2_spreadMost (xs : Nat → Int) (e : Nat) (i0 : Nat) (hi0 : i0 < 2) (s : pS) (q : pS) (h : f_X2_spreadMost i0 s = some q) : pCall pm_tx 1001 xs pm_P (e + 3 + 1) 28 [vR (cc 2 i0)] (pW s) (.inl none) (pW q) := by
  refine pCall_of mX2_spreadMost rfl rfl (fun X hX => ?_)
  show X [some (vR (cc 2 i0)), none, none] [] 0 (pW s)
  replace hX : pm_clo 1001 xs (pCall pm_tx 1001 xs pm_P (e + 3)) (e + 3) mX2_spreadMost (eU q) X := hX
  unfold f_X2_spreadMost at h
  refine r_iconst hX (p2 := 1) rfl rfl rfl ?_
  refine r_istore_n hX (p2 := 2) (ls2 := [some (vR (cc 2 i0)), some (vI 2), none]) rfl rfl rfl rfl ?_
  refine t_X2_spreadMost_2 xs e i0 hi0 q X hX _ (fun d0 d1 d2 s1 h => ?_) 400 2 none s h
  exact r_return hX rfl rfl (eU_ok h)
noncomputable def f_X2_restOfSpace_10 (i0 : Nat) (K36 : UInt32 → pS → Option (UInt32 × pS)) : Nat → UInt32 → Int → pS → Option (UInt32 × pS)
  | 0, _, _, _ => none
  | n + 1, x1, x2, s => (if (sI s 8 i0) ≤ x2 then K36 x1 s else ck (0 ≤ x2 ∧ x2 < 12) (ck (vf_n32 (FP.fsub x1 (sB s 9 i0 x2.toNat))) (bs ((FP.fsub x1 (sB s 9 i0 x2.toNat))) (fun v3 => ck (inR (x2 + 1)) (f_X2_restOfSpace_10 i0 K36 n v3 (x2 + 1) s)))))
set_option maxRecDepth 10000 in
theorem t_X2_restOfSpace_10 (xs : Nat → Int) (e : Nat) (i0 : Nat) (hi0 : i0 < 2) (q : UInt32 × pS) (X : List (Option pV) → List pV → Nat → pH → Prop) (hX : pm_clo 1001 xs (pCall pm_tx 1001 xs pm_P (e + 1)) (e + 1) mX2_restOfSpace (eF q) X) (K36 : UInt32 → pS → Option (UInt32 × pS)) (hK36 : ∀ (x1 : UInt32) (d2 : Option pV) (s : pS), K36 x1 s = some q → X [some (vR (cc 2 i0)), some (vF x1), d2] [] 36 (pW s)) : ∀ (n : Nat) (x1 : UInt32) (x2 : Int) (s : pS), f_X2_restOfSpace_10 i0 K36 n x1 x2 s = some q → X [some (vR (cc 2 i0)), some (vF x1), some (vI x2)] [] 10 (pW s) := by
  intro n
  induction n with
  | zero =>
    intro x1 x2 s h
    rw [f_X2_restOfSpace_10] at h
    cases h
  | succ n ih =>
    intro x1 x2 s h
    rw [f_X2_restOfSpace_10] at h
    refine r_iload_n hX (p2 := 11) rfl rfl rfl ?_
    refine r_aload_n hX (p2 := 12) rfl rfl rfl ⟨_, Or.inl rfl⟩ ?_
    refine r_gf hX (p2 := 15) (v := vR (cc 0 i0)) rfl rfl (hc2 i0 hi0) rfl rfl rfl ?_
    refine r_gf hX (p2 := 18) (v := vI (sI s 8 i0)) rfl rfl (hc0 i0 hi0) rfl rfl rfl ?_
    refine r_icmp hX (p2 := 36) (p3 := 21) (P := (sI s 8 i0) ≤ x2) rfl (by decide) rfl rfl (fun p5 => ?_) (fun p5 => ?_)
    · have h := it_pos h p5
      exact hK36 x1 (some (vI x2)) s h
    · have h := it_neg h p5
      refine r_fload_n hX (p2 := 22) rfl rfl rfl ?_
      refine r_aload_n hX (p2 := 23) rfl rfl rfl ⟨_, Or.inl rfl⟩ ?_
      refine r_gf hX (p2 := 26) (v := vR (ca 9 i0)) rfl rfl (hc2 i0 hi0) rfl rfl rfl ?_
      refine r_iload_n hX (p2 := 27) rfl rfl rfl ?_
      obtain ⟨c1, h⟩ := ck_some h
      refine r_faload hX (p2 := 28) (j := x2.toNat) rfl rfl (ha9 i0 hi0) rfl rfl c1 rfl ?_
      obtain ⟨c2, h⟩ := ck_some h
      refine r_fsub hX (p2 := 29) rfl rfl c2 ?_
      obtain ⟨v3, hv3, h⟩ := bs_some h
      refine r_fstoreE_n hX (p2 := 30) (ls2 := [some (vR (cc 2 i0)), some (vF v3), some (vI x2)]) rfl rfl hv3 rfl rfl ?_
      obtain ⟨c4, h⟩ := ck_some h
      refine r_iinc hX (p2 := 33) (ls2 := [some (vR (cc 2 i0)), some (vF v3), some (vI (x2 + 1))]) rfl rfl rfl rfl c4 rfl ?_
      refine r_goto hX (p2 := 10) rfl (by decide) ?_
      exact ih v3 (x2 + 1) s h
noncomputable def f_X2_restOfSpace (i0 : Nat) (s : pS) : Option (UInt32 × pS) := bs ((sF s 1 i0)) (fun v1 => f_X2_restOfSpace_10 i0 (fun x1 s2 => (f_X2_lessGaps i0 x1 (sI s2 8 i0) s2).bind (fun q3 => some (q3.1, q3.2))) 400 v1 0 s)
set_option maxRecDepth 10000 in
theorem c_X2_restOfSpace (xs : Nat → Int) (e : Nat) (i0 : Nat) (hi0 : i0 < 2) (s : pS) (q : UInt32 × pS) (h : f_X2_restOfSpace i0 s = some q) : pCall pm_tx 1001 xs pm_P (e + 1 + 1) 33 [vR (cc 2 i0)] (pW s) (.inl (some (vF q.1))) (pW q.2) := by
  refine pCall_of mX2_restOfSpace rfl rfl (fun X hX => ?_)
  show X [some (vR (cc 2 i0)), none, none] [] 0 (pW s)
  replace hX : pm_clo 1001 xs (pCall pm_tx 1001 xs pm_P (e + 1)) (e + 1) mX2_restOfSpace (eF q) X := hX
  unfold f_X2_restOfSpace at h
  refine r_aload_n hX (p2 := 1) rfl rfl rfl ⟨_, Or.inl rfl⟩ ?_
  refine r_gf hX (p2 := 4) (v := vR (cc 0 i0)) rfl rfl (hc2 i0 hi0) rfl rfl rfl ?_
  refine r_gf hX (p2 := 7) (v := vF (sF s 1 i0)) rfl rfl (hc0 i0 hi0) rfl rfl rfl ?_
  obtain ⟨v1, hv1, h⟩ := bs_some h
  refine r_fstoreE_n hX (p2 := 8) (ls2 := [some (vR (cc 2 i0)), some (vF v1), none]) rfl rfl hv1 rfl rfl ?_
  refine r_iconst hX (p2 := 9) rfl rfl rfl ?_
  refine r_istore_n hX (p2 := 10) (ls2 := [some (vR (cc 2 i0)), some (vF v1), some (vI 0)]) rfl rfl rfl rfl ?_
  refine t_X2_restOfSpace_10 xs e i0 hi0 q X hX _ (fun x1 d2 s2 h => ?_) 400 v1 0 s h
  refine r_aload_n hX (p2 := 37) rfl rfl rfl ⟨_, Or.inl rfl⟩ ?_
  refine r_fload_n hX (p2 := 38) rfl rfl rfl ?_
  refine r_aload_n hX (p2 := 39) rfl rfl rfl ⟨_, Or.inl rfl⟩ ?_
  refine r_gf hX (p2 := 42) (v := vR (cc 0 i0)) rfl rfl (hc2 i0 hi0) rfl rfl rfl ?_
  refine r_gf hX (p2 := 45) (v := vI (sI s2 8 i0)) rfl rfl (hc0 i0 hi0) rfl rfl rfl ?_
  obtain ⟨q3, hq3, h⟩ := bd_some h
  refine r_callv hX (p2 := 48) (v := some (vF q3.1)) (as := [vF x1, vI (sI s2 8 i0)]) (r := []) (st2 := [vF q3.1]) rfl rfl rfl rfl rfl (hc2 i0 hi0) rfl rfl (c_X2_lessGaps xs e i0 x1 (sI s2 8 i0) hi0 s2 q3 hq3) ?_
  exact r_freturn hX rfl rfl (eF_ok h)
noncomputable def f_X2_countGrowing_34 (i0 : Nat) (K4 : Int → Int → pS → Option (Int × pS)) (K40 : Int → pS → Option (Int × pS)) (x1 : Int) (x2 : Int) (s : pS) : Option (Int × pS) := ck (inR (x2 + 1)) (K4 x1 (x2 + 1) s)
set_option maxRecDepth 10000 in
theorem t_X2_countGrowing_34 (xs : Nat → Int) (e : Nat) (i0 : Nat) (hi0 : i0 < 2) (q : Int × pS) (X : List (Option pV) → List pV → Nat → pH → Prop) (hX : pm_clo 1001 xs (pCall pm_tx 1001 xs pm_P e) e mX2_countGrowing (eI q) X) (K4 : Int → Int → pS → Option (Int × pS)) (K40 : Int → pS → Option (Int × pS)) (hK4 : ∀ (x1 : Int) (x2 : Int) (s : pS), K4 x1 x2 s = some q → X [some (vR (cc 2 i0)), some (vI x1), some (vI x2)] [] 4 (pW s)) (hK40 : ∀ (x1 : Int) (d0 : Option pV) (d2 : Option pV) (s : pS), K40 x1 s = some q → X [d0, some (vI x1), d2] [] 40 (pW s)) : ∀  (x1 : Int) (x2 : Int) (s : pS), f_X2_countGrowing_34 i0 K4 K40 x1 x2 s = some q → X [some (vR (cc 2 i0)), some (vI x1), some (vI x2)] [] 34 (pW s) := by
  intro x1 x2 s h
  unfold f_X2_countGrowing_34 at h
  obtain ⟨c1, h⟩ := ck_some h
  refine r_iinc hX (p2 := 37) (ls2 := [some (vR (cc 2 i0)), some (vI x1), some (vI (x2 + 1))]) rfl rfl rfl rfl c1 rfl ?_
  refine r_goto hX (p2 := 4) rfl (by decide) ?_
  exact hK4 x1 (x2 + 1) s h
noncomputable def f_X2_countGrowing_4 (i0 : Nat) (K40 : Int → pS → Option (Int × pS)) : Nat → Int → Int → pS → Option (Int × pS)
  | 0, _, _, _ => none
  | n + 1, x1, x2, s => (if (sI s 8 i0) ≤ x2 then K40 x1 s else ck (0 ≤ x2 ∧ x2 < 12) (ck (0 ≤ x2 ∧ x2 < 12) ((if 0 ≤ (pm_fc .g (sB s 9 i0 x2.toNat) (sB s 203 i0 x2.toNat)) then f_X2_countGrowing_34 i0 (f_X2_countGrowing_4 i0 K40 n) K40 x1 x2 s else ck (inR (x1 + 1)) (f_X2_countGrowing_34 i0 (f_X2_countGrowing_4 i0 K40 n) K40 (x1 + 1) x2 s)))))
set_option maxRecDepth 10000 in
theorem t_X2_countGrowing_4 (xs : Nat → Int) (e : Nat) (i0 : Nat) (hi0 : i0 < 2) (q : Int × pS) (X : List (Option pV) → List pV → Nat → pH → Prop) (hX : pm_clo 1001 xs (pCall pm_tx 1001 xs pm_P e) e mX2_countGrowing (eI q) X) (K40 : Int → pS → Option (Int × pS)) (hK40 : ∀ (x1 : Int) (d0 : Option pV) (d2 : Option pV) (s : pS), K40 x1 s = some q → X [d0, some (vI x1), d2] [] 40 (pW s)) : ∀ (n : Nat) (x1 : Int) (x2 : Int) (s : pS), f_X2_countGrowing_4 i0 K40 n x1 x2 s = some q → X [some (vR (cc 2 i0)), some (vI x1), some (vI x2)] [] 4 (pW s) := by
  intro n
  induction n with
  | zero =>
    intro x1 x2 s h
    rw [f_X2_countGrowing_4] at h
    cases h
  | succ n ih =>
    intro x1 x2 s h
    rw [f_X2_countGrowing_4] at h
    refine r_iload_n hX (p2 := 5) rfl rfl rfl ?_
    refine r_aload_n hX (p2 := 6) rfl rfl rfl ⟨_, Or.inl rfl⟩ ?_
    refine r_gf hX (p2 := 9) (v := vR (cc 0 i0)) rfl rfl (hc2 i0 hi0) rfl rfl rfl ?_
    refine r_gf hX (p2 := 12) (v := vI (sI s 8 i0)) rfl rfl (hc0 i0 hi0) rfl rfl rfl ?_
    refine r_icmp hX (p2 := 40) (p3 := 15) (P := (sI s 8 i0) ≤ x2) rfl (by decide) rfl rfl (fun p5 => ?_) (fun p5 => ?_)
    · have h := it_pos h p5
      exact hK40 x1 (some (vR (cc 2 i0))) (some (vI x2)) s h
    · have h := it_neg h p5
      refine r_aload_n hX (p2 := 16) rfl rfl rfl ⟨_, Or.inl rfl⟩ ?_
      refine r_gf hX (p2 := 19) (v := vR (ca 9 i0)) rfl rfl (hc2 i0 hi0) rfl rfl rfl ?_
      refine r_iload_n hX (p2 := 20) rfl rfl rfl ?_
      obtain ⟨c1, h⟩ := ck_some h
      refine r_faload hX (p2 := 21) (j := x2.toNat) rfl rfl (ha9 i0 hi0) rfl rfl c1 rfl ?_
      refine r_aload_n hX (p2 := 22) rfl rfl rfl ⟨_, Or.inl rfl⟩ ?_
      refine r_gf hX (p2 := 25) (v := vR (ca 203 i0)) rfl rfl (hc2 i0 hi0) rfl rfl rfl ?_
      refine r_iload_n hX (p2 := 26) rfl rfl rfl ?_
      obtain ⟨c2, h⟩ := ck_some h
      refine r_faload hX (p2 := 27) (j := x2.toNat) rfl rfl (ha203 i0 hi0) rfl rfl c2 rfl ?_
      refine r_fcmp hX (p2 := 28) rfl rfl ?_
      refine r_if hX (p2 := 34) (p3 := 31) (P := 0 ≤ (pm_fc .g (sB s 9 i0 x2.toNat) (sB s 203 i0 x2.toNat))) rfl (by decide) rfl rfl (fun p4 => ?_) (fun p4 => ?_)
      · have h := it_pos h p4
        exact t_X2_countGrowing_34 xs e i0 hi0 q X hX _ _ ih hK40 x1 x2 s h
      · have h := it_neg h p4
        obtain ⟨c3, h⟩ := ck_some h
        refine r_iinc hX (p2 := 34) (ls2 := [some (vR (cc 2 i0)), some (vI (x1 + 1)), some (vI x2)]) rfl rfl rfl rfl c3 rfl ?_
        exact t_X2_countGrowing_34 xs e i0 hi0 q X hX _ _ ih hK40 (x1 + 1) x2 s h
noncomputable def f_X2_countGrowing (i0 : Nat) (s : pS) : Option (Int × pS) := f_X2_countGrowing_4 i0 (fun x1 s1 => some (x1, s1)) 400 0 0 s
set_option maxRecDepth 10000 in
theorem c_X2_countGrowing (xs : Nat → Int) (e : Nat) (i0 : Nat) (hi0 : i0 < 2) (s : pS) (q : Int × pS) (h : f_X2_countGrowing i0 s = some q) : pCall pm_tx 1001 xs pm_P (e + 1) 35 [vR (cc 2 i0)] (pW s) (.inl (some (vI q.1))) (pW q.2) := by
  refine pCall_of mX2_countGrowing rfl rfl (fun X hX => ?_)
  show X [some (vR (cc 2 i0)), none, none] [] 0 (pW s)
  replace hX : pm_clo 1001 xs (pCall pm_tx 1001 xs pm_P e) e mX2_countGrowing (eI q) X := hX
  unfold f_X2_countGrowing at h
  refine r_iconst hX (p2 := 1) rfl rfl rfl ?_
  refine r_istore_n hX (p2 := 2) (ls2 := [some (vR (cc 2 i0)), some (vI 0), none]) rfl rfl rfl rfl ?_
  refine r_iconst hX (p2 := 3) rfl rfl rfl ?_
  refine r_istore_n hX (p2 := 4) (ls2 := [some (vR (cc 2 i0)), some (vI 0), some (vI 0)]) rfl rfl rfl rfl ?_
  refine t_X2_countGrowing_4 xs e i0 hi0 q X hX _ (fun x1 d0 d2 s1 h => ?_) 400 0 0 s h
  refine r_iload_n hX (p2 := 41) rfl rfl rfl ?_
  exact r_iretI hX rfl rfl (eI_ok h)
noncomputable def f_X2_growOnce_109 (i0 : Nat) (K5 : UInt32 → UInt32 → Int → pS → Option (UInt32 × pS)) (K115 : UInt32 → pS → Option (UInt32 × pS)) (x2 : UInt32) (x3 : UInt32) (x4 : Int) (s : pS) : Option (UInt32 × pS) := ck (inR (x4 + 1)) (K5 x2 x3 (x4 + 1) s)
set_option maxRecDepth 10000 in
theorem t_X2_growOnce_109 (xs : Nat → Int) (e : Nat) (i0 : Nat) (hi0 : i0 < 2) (q : UInt32 × pS) (X : List (Option pV) → List pV → Nat → pH → Prop) (hX : pm_clo 1001 xs (pCall pm_tx 1001 xs pm_P (e + 1)) (e + 1) mX2_growOnce (eF q) X) (K5 : UInt32 → UInt32 → Int → pS → Option (UInt32 × pS)) (K115 : UInt32 → pS → Option (UInt32 × pS)) (hK5 : ∀ (x2 : UInt32) (x3 : UInt32) (x4 : Int) (d1 : Option pV) (d5 : Option pV) (s : pS), K5 x2 x3 x4 s = some q → X [some (vR (cc 2 i0)), d1, some (vF x2), some (vF x3), some (vI x4), d5] [] 5 (pW s)) (hK115 : ∀ (x3 : UInt32) (d0 : Option pV) (d1 : Option pV) (d2 : Option pV) (d4 : Option pV) (d5 : Option pV) (s : pS), K115 x3 s = some q → X [d0, d1, d2, some (vF x3), d4, d5] [] 115 (pW s)) : ∀  (x2 : UInt32) (x3 : UInt32) (x4 : Int) (d1 : Option pV) (d5 : Option pV) (s : pS), f_X2_growOnce_109 i0 K5 K115 x2 x3 x4 s = some q → X [some (vR (cc 2 i0)), d1, some (vF x2), some (vF x3), some (vI x4), d5] [] 109 (pW s) := by
  intro x2 x3 x4 d1 d5 s h
  unfold f_X2_growOnce_109 at h
  obtain ⟨c1, h⟩ := ck_some h
  refine r_iinc hX (p2 := 112) (ls2 := [some (vR (cc 2 i0)), d1, some (vF x2), some (vF x3), some (vI (x4 + 1)), d5]) rfl rfl rfl rfl c1 rfl ?_
  refine r_goto hX (p2 := 5) rfl (by decide) ?_
  exact hK5 x2 x3 (x4 + 1) d1 d5 s h
noncomputable def f_X2_growOnce_103 (i0 : Nat) (K5 : UInt32 → UInt32 → Int → pS → Option (UInt32 × pS)) (K115 : UInt32 → pS → Option (UInt32 × pS)) (x2 : UInt32) (x3 : UInt32) (x4 : Int) (x5 : UInt32) (y1 : Int) (y2 : UInt32) (s : pS) : Option (UInt32 × pS) := ck (0 ≤ y1 ∧ y1 < 12) (bs (wB s 9 i0 (pm_up (sB s 9 i0) y1.toNat y2)) (fun s2 => ck (vf_n32 (FP.fsub x3 x5)) (bs ((FP.fsub x3 x5)) (fun v4 => f_X2_growOnce_109 i0 K5 K115 x2 v4 x4 s2))))
set_option maxRecDepth 10000 in
theorem t_X2_growOnce_103 (xs : Nat → Int) (e : Nat) (i0 : Nat) (hi0 : i0 < 2) (q : UInt32 × pS) (X : List (Option pV) → List pV → Nat → pH → Prop) (hX : pm_clo 1001 xs (pCall pm_tx 1001 xs pm_P (e + 1)) (e + 1) mX2_growOnce (eF q) X) (K5 : UInt32 → UInt32 → Int → pS → Option (UInt32 × pS)) (K115 : UInt32 → pS → Option (UInt32 × pS)) (hK5 : ∀ (x2 : UInt32) (x3 : UInt32) (x4 : Int) (d1 : Option pV) (d5 : Option pV) (s : pS), K5 x2 x3 x4 s = some q → X [some (vR (cc 2 i0)), d1, some (vF x2), some (vF x3), some (vI x4), d5] [] 5 (pW s)) (hK115 : ∀ (x3 : UInt32) (d0 : Option pV) (d1 : Option pV) (d2 : Option pV) (d4 : Option pV) (d5 : Option pV) (s : pS), K115 x3 s = some q → X [d0, d1, d2, some (vF x3), d4, d5] [] 115 (pW s)) : ∀  (x2 : UInt32) (x3 : UInt32) (x4 : Int) (x5 : UInt32) (y1 : Int) (y2 : UInt32) (d1 : Option pV) (s : pS), f_X2_growOnce_103 i0 K5 K115 x2 x3 x4 x5 y1 y2 s = some q → X [some (vR (cc 2 i0)), d1, some (vF x2), some (vF x3), some (vI x4), some (vF x5)] [vF y2, vI y1, vR (ca 9 i0)] 103 (pW s) := by
  intro x2 x3 x4 x5 y1 y2 d1 s h
  unfold f_X2_growOnce_103 at h
  obtain ⟨c1, h⟩ := ck_some h
  obtain ⟨s2, hs2, h⟩ := bs_some h
  refine r_fastore hX (p2 := 104) (j := y1.toNat) rfl rfl (ha9 i0 hi0) rfl rfl c1 rfl hs2 ?_
  refine r_fload_n hX (p2 := 105) rfl rfl rfl ?_
  refine r_fload hX (p2 := 107) rfl rfl rfl ?_
  obtain ⟨c3, h⟩ := ck_some h
  refine r_fsub hX (p2 := 108) rfl rfl c3 ?_
  obtain ⟨v4, hv4, h⟩ := bs_some h
  refine r_fstoreE_n hX (p2 := 109) (ls2 := [some (vR (cc 2 i0)), d1, some (vF x2), some (vF v4), some (vI x4), some (vF x5)]) rfl rfl hv4 rfl rfl ?_
  exact t_X2_growOnce_109 xs e i0 hi0 q X hX _ _ hK5 hK115 x2 v4 x4 d1 (some (vF x5)) s2 h
noncomputable def f_X2_growOnce_5 (i0 : Nat) (K115 : UInt32 → pS → Option (UInt32 × pS)) : Nat → UInt32 → UInt32 → Int → pS → Option (UInt32 × pS)
  | 0, _, _, _, _ => none
  | n + 1, x2, x3, x4, s => (if (sI s 8 i0) ≤ x4 then K115 x3 s else ck (0 ≤ x4 ∧ x4 < 12) (ck (0 ≤ x4 ∧ x4 < 12) ((if 0 ≤ (pm_fc .g (sB s 9 i0 x4.toNat) (sB s 203 i0 x4.toNat)) then f_X2_growOnce_109 i0 (f_X2_growOnce_5 i0 K115 n) K115 x2 x3 x4 s else ck (0 ≤ x4 ∧ x4 < 12) (ck (0 ≤ x4 ∧ x4 < 12) (ck (vf_n32 (FP.fsub (sB s 203 i0 x4.toNat) (sB s 9 i0 x4.toNat))) ((f_X5_lesser (FP.fsub (sB s 203 i0 x4.toNat) (sB s 9 i0 x4.toNat)) x2 s).bind (fun q6 => ck (0 ≤ x4 ∧ x4 < 12) (ck (0 ≤ x4 ∧ x4 < 12) (ck (vf_n32 (FP.fsub (sB q6.2 203 i0 x4.toNat) (sB q6.2 9 i0 x4.toNat))) ((if 0 ≤ (pm_fc .g q6.1 (FP.fsub (sB q6.2 203 i0 x4.toNat) (sB q6.2 9 i0 x4.toNat))) then ck (0 ≤ x4 ∧ x4 < 12) (f_X2_growOnce_103 i0 (f_X2_growOnce_5 i0 K115 n) K115 x2 x3 x4 q6.1 x4 (sB q6.2 203 i0 x4.toNat) q6.2) else ck (0 ≤ x4 ∧ x4 < 12) (ck (vf_n32 (FP.fadd (sB q6.2 9 i0 x4.toNat) q6.1)) (f_X2_growOnce_103 i0 (f_X2_growOnce_5 i0 K115 n) K115 x2 x3 x4 q6.1 x4 (FP.fadd (sB q6.2 9 i0 x4.toNat) q6.1) q6.2))))))))))))))
set_option maxRecDepth 10000 in
theorem t_X2_growOnce_5 (xs : Nat → Int) (e : Nat) (i0 : Nat) (hi0 : i0 < 2) (q : UInt32 × pS) (X : List (Option pV) → List pV → Nat → pH → Prop) (hX : pm_clo 1001 xs (pCall pm_tx 1001 xs pm_P (e + 1)) (e + 1) mX2_growOnce (eF q) X) (K115 : UInt32 → pS → Option (UInt32 × pS)) (hK115 : ∀ (x3 : UInt32) (d0 : Option pV) (d1 : Option pV) (d2 : Option pV) (d4 : Option pV) (d5 : Option pV) (s : pS), K115 x3 s = some q → X [d0, d1, d2, some (vF x3), d4, d5] [] 115 (pW s)) : ∀ (n : Nat) (x2 : UInt32) (x3 : UInt32) (x4 : Int) (d1 : Option pV) (d5 : Option pV) (s : pS), f_X2_growOnce_5 i0 K115 n x2 x3 x4 s = some q → X [some (vR (cc 2 i0)), d1, some (vF x2), some (vF x3), some (vI x4), d5] [] 5 (pW s) := by
  intro n
  induction n with
  | zero =>
    intro x2 x3 x4 d1 d5 s h
    rw [f_X2_growOnce_5] at h
    cases h
  | succ n ih =>
    intro x2 x3 x4 d1 d5 s h
    rw [f_X2_growOnce_5] at h
    refine r_iload hX (p2 := 7) rfl rfl rfl ?_
    refine r_aload_n hX (p2 := 8) rfl rfl rfl ⟨_, Or.inl rfl⟩ ?_
    refine r_gf hX (p2 := 11) (v := vR (cc 0 i0)) rfl rfl (hc2 i0 hi0) rfl rfl rfl ?_
    refine r_gf hX (p2 := 14) (v := vI (sI s 8 i0)) rfl rfl (hc0 i0 hi0) rfl rfl rfl ?_
    refine r_icmp hX (p2 := 115) (p3 := 17) (P := (sI s 8 i0) ≤ x4) rfl (by decide) rfl rfl (fun p15 => ?_) (fun p15 => ?_)
    · have h := it_pos h p15
      exact hK115 x3 (some (vR (cc 2 i0))) d1 (some (vF x2)) (some (vI x4)) d5 s h
    · have h := it_neg h p15
      refine r_aload_n hX (p2 := 18) rfl rfl rfl ⟨_, Or.inl rfl⟩ ?_
      refine r_gf hX (p2 := 21) (v := vR (ca 9 i0)) rfl rfl (hc2 i0 hi0) rfl rfl rfl ?_
      refine r_iload hX (p2 := 23) rfl rfl rfl ?_
      obtain ⟨c1, h⟩ := ck_some h
      refine r_faload hX (p2 := 24) (j := x4.toNat) rfl rfl (ha9 i0 hi0) rfl rfl c1 rfl ?_
      refine r_aload_n hX (p2 := 25) rfl rfl rfl ⟨_, Or.inl rfl⟩ ?_
      refine r_gf hX (p2 := 28) (v := vR (ca 203 i0)) rfl rfl (hc2 i0 hi0) rfl rfl rfl ?_
      refine r_iload hX (p2 := 30) rfl rfl rfl ?_
      obtain ⟨c2, h⟩ := ck_some h
      refine r_faload hX (p2 := 31) (j := x4.toNat) rfl rfl (ha203 i0 hi0) rfl rfl c2 rfl ?_
      refine r_fcmp hX (p2 := 32) rfl rfl ?_
      refine r_if hX (p2 := 109) (p3 := 35) (P := 0 ≤ (pm_fc .g (sB s 9 i0 x4.toNat) (sB s 203 i0 x4.toNat))) rfl (by decide) rfl rfl (fun p14 => ?_) (fun p14 => ?_)
      · have h := it_pos h p14
        exact t_X2_growOnce_109 xs e i0 hi0 q X hX _ _ ih hK115 x2 x3 x4 d1 d5 s h
      · have h := it_neg h p14
        refine r_aload_n hX (p2 := 36) rfl rfl rfl ⟨_, Or.inl rfl⟩ ?_
        refine r_gf hX (p2 := 39) (v := vR (ca 203 i0)) rfl rfl (hc2 i0 hi0) rfl rfl rfl ?_
        refine r_iload hX (p2 := 41) rfl rfl rfl ?_
        obtain ⟨c3, h⟩ := ck_some h
        refine r_faload hX (p2 := 42) (j := x4.toNat) rfl rfl (ha203 i0 hi0) rfl rfl c3 rfl ?_
        refine r_aload_n hX (p2 := 43) rfl rfl rfl ⟨_, Or.inl rfl⟩ ?_
        refine r_gf hX (p2 := 46) (v := vR (ca 9 i0)) rfl rfl (hc2 i0 hi0) rfl rfl rfl ?_
        refine r_iload hX (p2 := 48) rfl rfl rfl ?_
        obtain ⟨c4, h⟩ := ck_some h
        refine r_faload hX (p2 := 49) (j := x4.toNat) rfl rfl (ha9 i0 hi0) rfl rfl c4 rfl ?_
        obtain ⟨c5, h⟩ := ck_some h
        refine r_fsub hX (p2 := 50) rfl rfl c5 ?_
        refine r_fload_n hX (p2 := 51) rfl rfl rfl ?_
        obtain ⟨q6, hq6, h⟩ := bd_some h
        refine r_calls4 hX (p2 := 54) (v := some (vF q6.1)) (as := [vF (FP.fsub (sB s 203 i0 x4.toNat) (sB s 9 i0 x4.toNat)), vF x2]) (r := []) (st2 := [vF q6.1]) rfl rfl rfl rfl rfl rfl (c_X5_lesser xs e (FP.fsub (sB s 203 i0 x4.toNat) (sB s 9 i0 x4.toNat)) x2 s q6 hq6) ?_
        refine r_fstore hX (p2 := 56) (ls2 := [some (vR (cc 2 i0)), d1, some (vF x2), some (vF x3), some (vI x4), some (vF q6.1)]) rfl rfl rfl rfl ?_
        refine r_aload_n hX (p2 := 57) rfl rfl rfl ⟨_, Or.inl rfl⟩ ?_
        refine r_gf hX (p2 := 60) (v := vR (ca 9 i0)) rfl rfl (hc2 i0 hi0) rfl rfl rfl ?_
        refine r_iload hX (p2 := 62) rfl rfl rfl ?_
        refine r_fload hX (p2 := 64) rfl rfl rfl ?_
        refine r_aload_n hX (p2 := 65) rfl rfl rfl ⟨_, Or.inl rfl⟩ ?_
        refine r_gf hX (p2 := 68) (v := vR (ca 203 i0)) rfl rfl (hc2 i0 hi0) rfl rfl rfl ?_
        refine r_iload hX (p2 := 70) rfl rfl rfl ?_
        obtain ⟨c7, h⟩ := ck_some h
        refine r_faload hX (p2 := 71) (j := x4.toNat) rfl rfl (ha203 i0 hi0) rfl rfl c7 rfl ?_
        refine r_aload_n hX (p2 := 72) rfl rfl rfl ⟨_, Or.inl rfl⟩ ?_
        refine r_gf hX (p2 := 75) (v := vR (ca 9 i0)) rfl rfl (hc2 i0 hi0) rfl rfl rfl ?_
        refine r_iload hX (p2 := 77) rfl rfl rfl ?_
        obtain ⟨c8, h⟩ := ck_some h
        refine r_faload hX (p2 := 78) (j := x4.toNat) rfl rfl (ha9 i0 hi0) rfl rfl c8 rfl ?_
        obtain ⟨c9, h⟩ := ck_some h
        refine r_fsub hX (p2 := 79) rfl rfl c9 ?_
        refine r_fcmp hX (p2 := 80) rfl rfl ?_
        refine r_if hX (p2 := 96) (p3 := 83) (P := 0 ≤ (pm_fc .g q6.1 (FP.fsub (sB q6.2 203 i0 x4.toNat) (sB q6.2 9 i0 x4.toNat)))) rfl (by decide) rfl rfl (fun p13 => ?_) (fun p13 => ?_)
        · have h := it_pos h p13
          refine r_aload_n hX (p2 := 97) rfl rfl rfl ⟨_, Or.inl rfl⟩ ?_
          refine r_gf hX (p2 := 100) (v := vR (ca 203 i0)) rfl rfl (hc2 i0 hi0) rfl rfl rfl ?_
          refine r_iload hX (p2 := 102) rfl rfl rfl ?_
          obtain ⟨c10, h⟩ := ck_some h
          refine r_faload hX (p2 := 103) (j := x4.toNat) rfl rfl (ha203 i0 hi0) rfl rfl c10 rfl ?_
          exact t_X2_growOnce_103 xs e i0 hi0 q X hX _ _ ih hK115 x2 x3 x4 q6.1 x4 (sB q6.2 203 i0 x4.toNat) d1 q6.2 h
        · have h := it_neg h p13
          refine r_aload_n hX (p2 := 84) rfl rfl rfl ⟨_, Or.inl rfl⟩ ?_
          refine r_gf hX (p2 := 87) (v := vR (ca 9 i0)) rfl rfl (hc2 i0 hi0) rfl rfl rfl ?_
          refine r_iload hX (p2 := 89) rfl rfl rfl ?_
          obtain ⟨c11, h⟩ := ck_some h
          refine r_faload hX (p2 := 90) (j := x4.toNat) rfl rfl (ha9 i0 hi0) rfl rfl c11 rfl ?_
          refine r_fload hX (p2 := 92) rfl rfl rfl ?_
          obtain ⟨c12, h⟩ := ck_some h
          refine r_fadd hX (p2 := 93) rfl rfl c12 ?_
          refine r_goto hX (p2 := 103) rfl (by decide) ?_
          exact t_X2_growOnce_103 xs e i0 hi0 q X hX _ _ ih hK115 x2 x3 x4 q6.1 x4 (FP.fadd (sB q6.2 9 i0 x4.toNat) q6.1) d1 q6.2 h
noncomputable def f_X2_growOnce (i0 : Nat) (a1 : UInt32) (a2 : UInt32) (s : pS) : Option (UInt32 × pS) := f_X2_growOnce_5 i0 (fun x3 s1 => some (x3, s1)) 400 a2 a1 0 s
set_option maxRecDepth 10000 in
theorem c_X2_growOnce (xs : Nat → Int) (e : Nat) (i0 : Nat) (a1 : UInt32) (a2 : UInt32) (hi0 : i0 < 2) (s : pS) (q : UInt32 × pS) (h : f_X2_growOnce i0 a1 a2 s = some q) : pCall pm_tx 1001 xs pm_P (e + 1 + 1) 36 [vR (cc 2 i0), vF a1, vF a2] (pW s) (.inl (some (vF q.1))) (pW q.2) := by
  refine pCall_of mX2_growOnce rfl rfl (fun X hX => ?_)
  show X [some (vR (cc 2 i0)), some (vF a1), some (vF a2), none, none, none] [] 0 (pW s)
  replace hX : pm_clo 1001 xs (pCall pm_tx 1001 xs pm_P (e + 1)) (e + 1) mX2_growOnce (eF q) X := hX
  unfold f_X2_growOnce at h
  refine r_fload_n hX (p2 := 1) rfl rfl rfl ?_
  refine r_fstore_n hX (p2 := 2) (ls2 := [some (vR (cc 2 i0)), some (vF a1), some (vF a2), some (vF a1), none, none]) rfl rfl rfl rfl ?_
  refine r_iconst hX (p2 := 3) rfl rfl rfl ?_
  refine r_istore hX (p2 := 5) (ls2 := [some (vR (cc 2 i0)), some (vF a1), some (vF a2), some (vF a1), some (vI 0), none]) rfl rfl rfl rfl ?_
  refine t_X2_growOnce_5 xs e i0 hi0 q X hX _ (fun x3 d0 d1 d2 d4 d5 s1 h => ?_) 400 a2 a1 0 (some (vF a1)) none s h
  refine r_fload_n hX (p2 := 116) rfl rfl rfl ?_
  exact r_freturn hX rfl rfl (eF_ok h)
