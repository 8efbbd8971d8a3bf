/-! ===== THE METHODS AS FUNCTIONS (written by wip/whole/gen_fun.py) ===== -/
noncomputable def f_X5_isTrack_29 (y0 : Int) (s : pS) : Option (Int × pS) := ck (y0 = 0 ∨ y0 = 1) (some (y0, s))
set_option maxRecDepth 10000 in
theorem t_X5_isTrack_29 (xs : Nat → Int) (e : Nat) (q : Int × pS) (X : List (Option pV) → List pV → Nat → pH → Prop) (hX : pm_clo 1001 xs (pCall pm_tx 1001 xs pm_P (e + 1)) (e + 1) mX5_isTrack (eI q) X) : ∀  (y0 : Int) (d0 : Option pV) (d1 : Option pV) (d2 : Option pV) (s : pS), f_X5_isTrack_29 y0 s = some q → X [d0, d1, d2] [vI y0] 29 (pW s) := by
  intro y0 d0 d1 d2 s h
  unfold f_X5_isTrack_29 at h
  obtain ⟨c1, h⟩ := ck_some h
  exact r_iretZ hX rfl rfl c1 (eI_ok h)
noncomputable def f_X5_isTrack_28 (s : pS) : Option (Int × pS) := f_X5_isTrack_29 0 s
set_option maxRecDepth 10000 in
theorem t_X5_isTrack_28 (xs : Nat → Int) (e : Nat) (q : Int × pS) (X : List (Option pV) → List pV → Nat → pH → Prop) (hX : pm_clo 1001 xs (pCall pm_tx 1001 xs pm_P (e + 1)) (e + 1) mX5_isTrack (eI q) X) : ∀  (d0 : Option pV) (d1 : Option pV) (d2 : Option pV) (s : pS), f_X5_isTrack_28 s = some q → X [d0, d1, d2] [] 28 (pW s) := by
  intro d0 d1 d2 s h
  unfold f_X5_isTrack_28 at h
  refine r_iconst hX (p2 := 29) rfl rfl rfl ?_
  exact t_X5_isTrack_29 xs e q X hX 0 d0 d1 d2 s h
noncomputable def f_X5_isTrack (a1 : Int) (a2 : Int) (s : pS) : Option (Int × pS) := (f_X5_isAxis a1 s).bind (fun q1 => (if q1.1 = 0 then f_X5_isTrack_28 q1.2 else (if a2 < 0 then f_X5_isTrack_28 q1.2 else ck (0 ≤ a1 ∧ a1 < 2) ((if (sI q1.2 8 a1.toNat) ≤ a2 then f_X5_isTrack_28 q1.2 else f_X5_isTrack_29 1 q1.2)))))
set_option maxRecDepth 10000 in
theorem c_X5_isTrack (xs : Nat → Int) (e : Nat) (a1 : Int) (a2 : Int) (s : pS) (q : Int × pS) (h : f_X5_isTrack a1 a2 s = some q) : pCall pm_tx 1001 xs pm_P (e + 1 + 1) 91 [vR (cc 5 0), vI a1, vI a2] (pW s) (.inl (some (vI q.1))) (pW q.2) := by
  refine pCall_of mX5_isTrack rfl rfl (fun X hX => ?_)
  show X [some (vR (cc 5 0)), some (vI a1), some (vI a2)] [] 0 (pW s)
  replace hX : pm_clo 1001 xs (pCall pm_tx 1001 xs pm_P (e + 1)) (e + 1) mX5_isTrack (eI q) X := hX
  unfold f_X5_isTrack at h
  refine r_iload_n hX (p2 := 1) rfl rfl rfl ?_
  obtain ⟨q1, hq1, h⟩ := bd_some h
  refine r_calls0 hX (p2 := 4) (v := some (vI q1.1)) (as := [vI a1]) (r := []) (st2 := [vI q1.1]) rfl rfl rfl rfl rfl rfl (c_X5_isAxis xs e a1 s q1 hq1) ?_
  refine r_if hX (p2 := 28) (p3 := 7) (P := q1.1 = 0) rfl (by decide) rfl rfl (fun p5 => ?_) (fun p5 => ?_)
  · have h := it_pos h p5
    exact t_X5_isTrack_28 xs e q X hX (some (vR (cc 5 0))) (some (vI a1)) (some (vI a2)) q1.2 h
  · have h := it_neg h p5
    refine r_iload_n hX (p2 := 8) rfl rfl rfl ?_
    refine r_if hX (p2 := 28) (p3 := 11) (P := a2 < 0) rfl (by decide) rfl rfl (fun p4 => ?_) (fun p4 => ?_)
    · have h := it_pos h p4
      exact t_X5_isTrack_28 xs e q X hX (some (vR (cc 5 0))) (some (vI a1)) (some (vI a2)) q1.2 h
    · have h := it_neg h p4
      refine r_iload_n hX (p2 := 12) rfl rfl rfl ?_
      refine r_aload_n hX (p2 := 13) rfl rfl rfl ⟨_, Or.inl rfl⟩ ?_
      refine r_gf hX (p2 := 16) (v := vR (cr 501)) rfl rfl (hc5 0 (by decide)) rfl rfl rfl ?_
      refine r_iload_n hX (p2 := 17) rfl rfl rfl ?_
      obtain ⟨c2, h⟩ := ck_some h
      refine r_aaload hX (p2 := 18) rfl rfl hr501 rfl c2 (y := cc 0 a1.toNat) rfl ?_
      refine r_gf hX (p2 := 21) (v := vI (sI q1.2 8 a1.toNat)) rfl rfl (hc0 a1.toNat (tn_lt c2)) rfl rfl rfl ?_
      refine r_icmp hX (p2 := 28) (p3 := 24) (P := (sI q1.2 8 a1.toNat) ≤ a2) rfl (by decide) rfl rfl (fun p3 => ?_) (fun p3 => ?_)
      · have h := it_pos h p3
        exact t_X5_isTrack_28 xs e q X hX (some (vR (cc 5 0))) (some (vI a1)) (some (vI a2)) q1.2 h
      · have h := it_neg h p3
        refine r_iconst hX (p2 := 25) rfl rfl rfl ?_
        refine r_goto hX (p2 := 29) rfl (by decide) ?_
        exact t_X5_isTrack_29 xs e q X hX 1 (some (vR (cc 5 0))) (some (vI a1)) (some (vI a2)) q1.2 h
noncomputable def f_X5_size (a1 : Int) (a2 : Int) (s : pS) : Option ((UInt32 ⊕ Nat) × pS) := (f_X5_isTrack a1 a2 s).bind (fun q1 => (if q1.1 ≠ 0 then ck (0 ≤ a1 ∧ a1 < 2) (ck (0 ≤ a2 ∧ a2 < 12) (some (Sum.inl (sB q1.2 9 a1.toNat a2.toNat), q1.2))) else some (Sum.inr 2, wN q1.2)))
set_option maxRecDepth 10000 in
theorem c_X5_size (xs : Nat → Int) (e : Nat) (a1 : Int) (a2 : Int) (s : pS) (q : (UInt32 ⊕ Nat) × pS) (h : f_X5_size a1 a2 s = some q) : pCall pm_tx 1001 xs pm_P (e + 7 + 1) 84 [vR (cc 5 0), vI a1, vI a2] (pW s) (oTF q.1) (pW q.2) := by
  refine pCall_of mX5_size rfl rfl (fun X hX => ?_)
  show X [some (vR (cc 5 0)), some (vI a1), some (vI a2)] [] 0 (pW s)
  replace hX : pm_clo 1001 xs (pCall pm_tx 1001 xs pm_P (e + 7)) (e + 7) mX5_size (eTF q) X := hX
  unfold f_X5_size at h
  refine r_aload_n hX (p2 := 1) rfl rfl rfl ⟨_, Or.inl rfl⟩ ?_
  refine r_iload_n hX (p2 := 2) rfl rfl rfl ?_
  refine r_iload_n hX (p2 := 3) rfl rfl rfl ?_
  obtain ⟨q1, hq1, h⟩ := bd_some h
  refine r_callv hX (p2 := 6) (v := some (vI q1.1)) (as := [vI a1, vI a2]) (r := []) (st2 := [vI q1.1]) rfl rfl rfl rfl rfl (hc5 0 (by decide)) rfl rfl (c_X5_isTrack xs (e + 5) a1 a2 s q1 hq1) ?_
  refine r_if hX (p2 := 19) (p3 := 9) (P := q1.1 ≠ 0) rfl (by decide) rfl rfl (fun p4 => ?_) (fun p4 => ?_)
  · have h := it_pos h p4
    refine r_aload_n hX (p2 := 20) rfl rfl rfl ⟨_, Or.inl rfl⟩ ?_
    refine r_gf hX (p2 := 23) (v := vR (cr 501)) rfl rfl (hc5 0 (by decide)) rfl rfl rfl ?_
    refine r_iload_n hX (p2 := 24) rfl rfl rfl ?_
    obtain ⟨c2, h⟩ := ck_some h
    refine r_aaload hX (p2 := 25) rfl rfl hr501 rfl c2 (y := cc 0 a1.toNat) rfl ?_
    refine r_gf hX (p2 := 28) (v := vR (ca 9 a1.toNat)) rfl rfl (hc0 a1.toNat (tn_lt c2)) rfl rfl rfl ?_
    refine r_iload_n hX (p2 := 29) rfl rfl rfl ?_
    obtain ⟨c3, h⟩ := ck_some h
    refine r_faload hX (p2 := 30) (j := a2.toNat) rfl rfl (ha9 a1.toNat (tn_lt c2)) rfl rfl c3 rfl ?_
    exact r_freturn hX rfl rfl (eTF_ok h)
  · have h := it_neg h p4
    exact r_throw hX rfl (by omega) rfl (eTF_no h)
noncomputable def f_L_size (a1 : Int) (a2 : Int) (s : pS) : Option (Int × pS) := (f_X5_size a1 a2 s).bind (fun q1 => (sel q1.1 (fun r2 => ck (vf_n64 (FP.f2d r2)) (bs (wD q1.2 (pm_up (sD q1.2) 0 (FP.f2d r2))) (fun s5 => some (0, s5)))) (fun e3 => (if e3 = 2 then some (1, q1.2) else none))))
set_option maxRecDepth 10000 in
theorem c_L_size (xs : Nat → Int) (e : Nat) (a1 : Int) (a2 : Int) (s : pS) (q : Int × pS) (h : f_L_size a1 a2 s = some q) : pCall pm_tx 1001 xs pm_P (e + 8 + 1) 170 [vR (cc 5 0), vI a1, vI a2, vR (ca 701 0)] (pW s) (.inl (some (vI q.1))) (pW q.2) := by
  refine pCall_of mL_size rfl rfl (fun X hX => ?_)
  show X [some (vR (cc 5 0)), some (vI a1), some (vI a2), some (vR (ca 701 0)), none] [] 0 (pW s)
  replace hX : pm_clo 1001 xs (pCall pm_tx 1001 xs pm_P (e + 8)) (e + 8) mL_size (eI q) X := hX
  unfold f_L_size at h
  refine r_aload_n hX (p2 := 1) rfl rfl rfl ⟨_, Or.inl rfl⟩ ?_
  refine r_iconst hX (p2 := 2) rfl rfl rfl ?_
  refine r_aload_n hX (p2 := 3) rfl rfl rfl ⟨_, Or.inl rfl⟩ ?_
  refine r_iload_n hX (p2 := 4) rfl rfl rfl ?_
  refine r_iload_n hX (p2 := 5) rfl rfl rfl ?_
  obtain ⟨q1, hq1, h⟩ := bd_some h
  have hcq1 := (c_X5_size xs e a1 a2 s q1 hq1)
  rcases hvq1 : q1.1 with r2 | e3
  · rw [hvq1] at h hcq1
    refine r_callv hX (p2 := 8) (v := some (vF r2)) (as := [vI a1, vI a2]) (r := [vI 0, vR (ca 701 0)]) (st2 := [vF r2, vI 0, vR (ca 701 0)]) rfl rfl rfl rfl rfl (hc5 0 (by decide)) rfl rfl hcq1 ?_
    have h := sel_l h
    obtain ⟨c4, h⟩ := ck_some h
    refine r_f2d hX (p2 := 9) rfl rfl c4 ?_
    obtain ⟨s5, hs5, h⟩ := bs_some h
    refine r_dastore hX (p2 := 10) (j := 0) rfl rfl (ha701 0 (by decide)) ⟨by decide, by decide⟩ rfl hs5 ?_
    refine r_goto hX (p2 := 17) rfl (by decide) ?_
    refine r_iconst hX (p2 := 18) rfl rfl rfl ?_
    exact r_iretI hX rfl rfl (eI_ok h)
  · rw [hvq1] at h hcq1
    have h := sel_r h
    by_cases p6 : e3 = 2
    · have h := it_pos h p6
      subst p6
      refine r_callt hX (p2 := 13) (as := [vI a1, vI a2]) (r := [vI 0, vR (ca 701 0)]) rfl rfl rfl rfl (hc5 0 (by decide)) rfl hcq1 rfl rfl ?_
      refine r_astore hX (p2 := 15) (ls2 := [some (vR (cc 5 0)), some (vI a1), some (vI a2), some (vR (ca 701 0)), some (vX 1)]) rfl rfl ⟨0, Or.inr rfl⟩ rfl rfl ?_
      refine r_iconst hX (p2 := 16) rfl rfl rfl ?_
      exact r_iretI hX rfl rfl (eI_ok h)
    have h := it_neg h p6
    cases h
noncomputable def f_X6_isTrack_33 (y0 : Int) (s : pS) : Option (Int × pS) := ck (y0 = 0 ∨ y0 = 1) (some (y0, s))
set_option maxRecDepth 10000 in
theorem t_X6_isTrack_33 (xs : Nat → Int) (e : Nat) (q : Int × pS) (X : List (Option pV) → List pV → Nat → pH → Prop) (hX : pm_clo 1001 xs (pCall pm_tx 1001 xs pm_P (e + 1)) (e + 1) mX6_isTrack (eI q) X) : ∀  (y0 : Int) (d0 : Option pV) (d1 : Option pV) (d2 : Option pV) (s : pS), f_X6_isTrack_33 y0 s = some q → X [d0, d1, d2] [vI y0] 33 (pW s) := by
  intro y0 d0 d1 d2 s h
  unfold f_X6_isTrack_33 at h
  obtain ⟨c1, h⟩ := ck_some h
  exact r_iretZ hX rfl rfl c1 (eI_ok h)
noncomputable def f_X6_isTrack_32 (s : pS) : Option (Int × pS) := f_X6_isTrack_33 0 s
set_option maxRecDepth 10000 in
theorem t_X6_isTrack_32 (xs : Nat → Int) (e : Nat) (q : Int × pS) (X : List (Option pV) → List pV → Nat → pH → Prop) (hX : pm_clo 1001 xs (pCall pm_tx 1001 xs pm_P (e + 1)) (e + 1) mX6_isTrack (eI q) X) : ∀  (d0 : Option pV) (d1 : Option pV) (d2 : Option pV) (s : pS), f_X6_isTrack_32 s = some q → X [d0, d1, d2] [] 32 (pW s) := by
  intro d0 d1 d2 s h
  unfold f_X6_isTrack_32 at h
  refine r_iconst hX (p2 := 33) rfl rfl rfl ?_
  exact t_X6_isTrack_33 xs e q X hX 0 d0 d1 d2 s h
noncomputable def f_X6_isTrack (a1 : Int) (a2 : Int) (s : pS) : Option (Int × pS) := (f_X6_isAxis a1 s).bind (fun q1 => (if q1.1 = 0 then f_X6_isTrack_32 q1.2 else (if (sI q1.2 629 0) = 0 then f_X6_isTrack_32 q1.2 else (if a2 < 0 then f_X6_isTrack_32 q1.2 else ck (0 ≤ a1 ∧ a1 < 2) ((if (sA q1.2 633 0 a1.toNat) ≤ a2 then f_X6_isTrack_32 q1.2 else f_X6_isTrack_33 1 q1.2))))))
set_option maxRecDepth 10000 in
theorem c_X6_isTrack (xs : Nat → Int) (e : Nat) (a1 : Int) (a2 : Int) (s : pS) (q : Int × pS) (h : f_X6_isTrack a1 a2 s = some q) : pCall pm_tx 1001 xs pm_P (e + 1 + 1) 157 [vR (cc 6 0), vI a1, vI a2] (pW s) (.inl (some (vI q.1))) (pW q.2) := by
  refine pCall_of mX6_isTrack rfl rfl (fun X hX => ?_)
  show X [some (vR (cc 6 0)), some (vI a1), some (vI a2)] [] 0 (pW s)
  replace hX : pm_clo 1001 xs (pCall pm_tx 1001 xs pm_P (e + 1)) (e + 1) mX6_isTrack (eI q) X := hX
  unfold f_X6_isTrack at h
  refine r_iload_n hX (p2 := 1) rfl rfl rfl ?_
  obtain ⟨q1, hq1, h⟩ := bd_some h
  refine r_calls0 hX (p2 := 4) (v := some (vI q1.1)) (as := [vI a1]) (r := []) (st2 := [vI q1.1]) rfl rfl rfl rfl rfl rfl (c_X6_isAxis xs e a1 s q1 hq1) ?_
  refine r_if hX (p2 := 32) (p3 := 7) (P := q1.1 = 0) rfl (by decide) rfl rfl (fun p6 => ?_) (fun p6 => ?_)
  · have h := it_pos h p6
    exact t_X6_isTrack_32 xs e q X hX (some (vR (cc 6 0))) (some (vI a1)) (some (vI a2)) q1.2 h
  · have h := it_neg h p6
    refine r_aload_n hX (p2 := 8) rfl rfl rfl ⟨_, Or.inl rfl⟩ ?_
    refine r_gf hX (p2 := 11) (v := vI (sI q1.2 629 0)) rfl rfl (hc6 0 (by decide)) rfl rfl rfl ?_
    refine r_if hX (p2 := 32) (p3 := 14) (P := (sI q1.2 629 0) = 0) rfl (by decide) rfl rfl (fun p5 => ?_) (fun p5 => ?_)
    · have h := it_pos h p5
      exact t_X6_isTrack_32 xs e q X hX (some (vR (cc 6 0))) (some (vI a1)) (some (vI a2)) q1.2 h
    · have h := it_neg h p5
      refine r_iload_n hX (p2 := 15) rfl rfl rfl ?_
      refine r_if hX (p2 := 32) (p3 := 18) (P := a2 < 0) rfl (by decide) rfl rfl (fun p4 => ?_) (fun p4 => ?_)
      · have h := it_pos h p4
        exact t_X6_isTrack_32 xs e q X hX (some (vR (cc 6 0))) (some (vI a1)) (some (vI a2)) q1.2 h
      · have h := it_neg h p4
        refine r_iload_n hX (p2 := 19) rfl rfl rfl ?_
        refine r_aload_n hX (p2 := 20) rfl rfl rfl ⟨_, Or.inl rfl⟩ ?_
        refine r_gf hX (p2 := 23) (v := vR (ca 633 0)) rfl rfl (hc6 0 (by decide)) rfl rfl rfl ?_
        refine r_iload_n hX (p2 := 24) rfl rfl rfl ?_
        obtain ⟨c2, h⟩ := ck_some h
        refine r_iaload hX (p2 := 25) (j := a1.toNat) rfl rfl (ha633 0 (by decide)) rfl rfl c2 rfl ?_
        refine r_icmp hX (p2 := 32) (p3 := 28) (P := (sA q1.2 633 0 a1.toNat) ≤ a2) rfl (by decide) rfl rfl (fun p3 => ?_) (fun p3 => ?_)
        · have h := it_pos h p3
          exact t_X6_isTrack_32 xs e q X hX (some (vR (cc 6 0))) (some (vI a1)) (some (vI a2)) q1.2 h
        · have h := it_neg h p3
          refine r_iconst hX (p2 := 29) rfl rfl rfl ?_
          refine r_goto hX (p2 := 33) rfl (by decide) ?_
          exact t_X6_isTrack_33 xs e q X hX 1 (some (vR (cc 6 0))) (some (vI a1)) (some (vI a2)) q1.2 h
noncomputable def f_X6_size_37 (y0 : UInt32) (s : pS) : Option (UInt32 × pS) := some (y0, s)
set_option maxRecDepth 10000 in
theorem t_X6_size_37 (xs : Nat → Int) (e : Nat) (q : UInt32 × pS) (X : List (Option pV) → List pV → Nat → pH → Prop) (hX : pm_clo 1001 xs (pCall pm_tx 1001 xs pm_P (e + 2)) (e + 2) mX6_size (eF q) X) : ∀  (y0 : UInt32) (d0 : Option pV) (d1 : Option pV) (d2 : Option pV) (s : pS), f_X6_size_37 y0 s = some q → X [d0, d1, d2] [vF y0] 37 (pW s) := by
  intro y0 d0 d1 d2 s h
  unfold f_X6_size_37 at h
  exact r_freturn hX rfl rfl (eF_ok h)
noncomputable def f_X6_size_15 (x1 : Int) (x2 : Int) (y1 : Int) (s : pS) : Option (UInt32 × pS) := (f_X6_fails y1 0 s).bind (fun q1 => (if q1.1 = 0 then ck (inR (12 * x1)) (ck (inR ((12 * x1) + x2)) (ck (0 ≤ ((12 * x1) + x2) ∧ ((12 * x1) + x2) < 24) (f_X6_size_37 (sB q1.2 634 0 ((12 * x1) + x2).toNat) q1.2))) else f_X6_size_37 FP.fconst0 q1.2))
set_option maxRecDepth 10000 in
theorem t_X6_size_15 (xs : Nat → Int) (e : Nat) (q : UInt32 × pS) (X : List (Option pV) → List pV → Nat → pH → Prop) (hX : pm_clo 1001 xs (pCall pm_tx 1001 xs pm_P (e + 2)) (e + 2) mX6_size (eF q) X) : ∀  (x1 : Int) (x2 : Int) (y1 : Int) (s : pS), f_X6_size_15 x1 x2 y1 s = some q → X [some (vR (cc 6 0)), some (vI x1), some (vI x2)] [vI y1, vR (cc 6 0)] 15 (pW s) := by
  intro x1 x2 y1 s h
  unfold f_X6_size_15 at h
  refine r_iconst hX (p2 := 16) rfl rfl rfl ?_
  obtain ⟨q1, hq1, h⟩ := bd_some h
  refine r_callv hX (p2 := 19) (v := some (vI q1.1)) (as := [vI y1, vI 0]) (r := []) (st2 := [vI q1.1]) rfl rfl rfl rfl rfl (hc6 0 (by decide)) rfl rfl (c_X6_fails xs (e + 1) y1 0 s q1 hq1) ?_
  refine r_if hX (p2 := 26) (p3 := 22) (P := q1.1 = 0) rfl (by decide) rfl rfl (fun p5 => ?_) (fun p5 => ?_)
  · have h := it_pos h p5
    refine r_aload_n hX (p2 := 27) rfl rfl rfl ⟨_, Or.inl rfl⟩ ?_
    refine r_gf hX (p2 := 30) (v := vR (ca 634 0)) rfl rfl (hc6 0 (by decide)) rfl rfl rfl ?_
    refine r_bipush hX (p2 := 32) rfl rfl rfl ?_
    refine r_iload_n hX (p2 := 33) rfl rfl rfl ?_
    obtain ⟨c2, h⟩ := ck_some h
    refine r_imul hX (p2 := 34) rfl rfl c2 ?_
    refine r_iload_n hX (p2 := 35) rfl rfl rfl ?_
    obtain ⟨c3, h⟩ := ck_some h
    refine r_iadd hX (p2 := 36) rfl rfl c3 ?_
    obtain ⟨c4, h⟩ := ck_some h
    refine r_faload hX (p2 := 37) (j := ((12 * x1) + x2).toNat) rfl rfl (ha634 0 (by decide)) rfl rfl c4 rfl ?_
    exact t_X6_size_37 xs e q X hX (sB q1.2 634 0 ((12 * x1) + x2).toNat) (some (vR (cc 6 0))) (some (vI x1)) (some (vI x2)) q1.2 h
  · have h := it_neg h p5
    refine r_fconst0 hX (p2 := 23) rfl rfl ?_
    refine r_goto hX (p2 := 37) rfl (by decide) ?_
    exact t_X6_size_37 xs e q X hX FP.fconst0 (some (vR (cc 6 0))) (some (vI x1)) (some (vI x2)) q1.2 h
noncomputable def f_X6_size (a1 : Int) (a2 : Int) (s : pS) : Option (UInt32 × pS) := (f_X6_isTrack a1 a2 s).bind (fun q1 => (if q1.1 ≠ 0 then f_X6_size_15 a1 a2 0 q1.2 else f_X6_size_15 a1 a2 1 q1.2))
set_option maxRecDepth 10000 in
theorem c_X6_size (xs : Nat → Int) (e : Nat) (a1 : Int) (a2 : Int) (s : pS) (q : UInt32 × pS) (h : f_X6_size a1 a2 s = some q) : pCall pm_tx 1001 xs pm_P (e + 2 + 1) 158 [vR (cc 6 0), vI a1, vI a2] (pW s) (.inl (some (vF q.1))) (pW q.2) := by
  refine pCall_of mX6_size rfl rfl (fun X hX => ?_)
  show X [some (vR (cc 6 0)), some (vI a1), some (vI a2)] [] 0 (pW s)
  replace hX : pm_clo 1001 xs (pCall pm_tx 1001 xs pm_P (e + 2)) (e + 2) mX6_size (eF q) X := hX
  unfold f_X6_size at h
  refine r_aload_n hX (p2 := 1) rfl rfl rfl ⟨_, Or.inl rfl⟩ ?_
  refine r_aload_n hX (p2 := 2) rfl rfl rfl ⟨_, Or.inl rfl⟩ ?_
  refine r_iload_n hX (p2 := 3) rfl rfl rfl ?_
  refine r_iload_n hX (p2 := 4) rfl rfl rfl ?_
  obtain ⟨q1, hq1, h⟩ := bd_some h
  refine r_callv hX (p2 := 7) (v := some (vI q1.1)) (as := [vI a1, vI a2]) (r := [vR (cc 6 0)]) (st2 := [vI q1.1, vR (cc 6 0)]) rfl rfl rfl rfl rfl (hc6 0 (by decide)) rfl rfl (c_X6_isTrack xs e a1 a2 s q1 hq1) ?_
  refine r_if hX (p2 := 14) (p3 := 10) (P := q1.1 ≠ 0) rfl (by decide) rfl rfl (fun p2 => ?_) (fun p2 => ?_)
  · have h := it_pos h p2
    refine r_iconst hX (p2 := 15) rfl rfl rfl ?_
    exact t_X6_size_15 xs e q X hX a1 a2 0 q1.2 h
  · have h := it_neg h p2
    refine r_iconst hX (p2 := 11) rfl rfl rfl ?_
    refine r_goto hX (p2 := 15) rfl (by decide) ?_
    exact t_X6_size_15 xs e q X hX a1 a2 1 q1.2 h
noncomputable def f_X5_at (a1 : Int) (a2 : Int) (s : pS) : Option ((UInt32 ⊕ Nat) × pS) := (f_X5_isTrack a1 a2 s).bind (fun q1 => (if q1.1 ≠ 0 then ck (0 ≤ a1 ∧ a1 < 2) (ck (0 ≤ a2 ∧ a2 < 12) (some (Sum.inl (sB q1.2 10 a1.toNat a2.toNat), q1.2))) else some (Sum.inr 2, wN q1.2)))
set_option maxRecDepth 10000 in
theorem c_X5_at (xs : Nat → Int) (e : Nat) (a1 : Int) (a2 : Int) (s : pS) (q : (UInt32 ⊕ Nat) × pS) (h : f_X5_at a1 a2 s = some q) : pCall pm_tx 1001 xs pm_P (e + 7 + 1) 85 [vR (cc 5 0), vI a1, vI a2] (pW s) (oTF q.1) (pW q.2) := by
  refine pCall_of mX5_at rfl rfl (fun X hX => ?_)
  show X [some (vR (cc 5 0)), some (vI a1), some (vI a2)] [] 0 (pW s)
  replace hX : pm_clo 1001 xs (pCall pm_tx 1001 xs pm_P (e + 7)) (e + 7) mX5_at (eTF q) X := hX
  unfold f_X5_at at h
  refine r_aload_n hX (p2 := 1) rfl rfl rfl ⟨_, Or.inl rfl⟩ ?_
  refine r_iload_n hX (p2 := 2) rfl rfl rfl ?_
  refine r_iload_n hX (p2 := 3) rfl rfl rfl ?_
  obtain ⟨q1, hq1, h⟩ := bd_some h
  refine r_callv hX (p2 := 6) (v := some (vI q1.1)) (as := [vI a1, vI a2]) (r := []) (st2 := [vI q1.1]) rfl rfl rfl rfl rfl (hc5 0 (by decide)) rfl rfl (c_X5_isTrack xs (e + 5) a1 a2 s q1 hq1) ?_
  refine r_if hX (p2 := 19) (p3 := 9) (P := q1.1 ≠ 0) rfl (by decide) rfl rfl (fun p4 => ?_) (fun p4 => ?_)
  · have h := it_pos h p4
    refine r_aload_n hX (p2 := 20) rfl rfl rfl ⟨_, Or.inl rfl⟩ ?_
    refine r_gf hX (p2 := 23) (v := vR (cr 501)) rfl rfl (hc5 0 (by decide)) rfl rfl rfl ?_
    refine r_iload_n hX (p2 := 24) rfl rfl rfl ?_
    obtain ⟨c2, h⟩ := ck_some h
    refine r_aaload hX (p2 := 25) rfl rfl hr501 rfl c2 (y := cc 0 a1.toNat) rfl ?_
    refine r_gf hX (p2 := 28) (v := vR (ca 10 a1.toNat)) rfl rfl (hc0 a1.toNat (tn_lt c2)) rfl rfl rfl ?_
    refine r_iload_n hX (p2 := 29) rfl rfl rfl ?_
    obtain ⟨c3, h⟩ := ck_some h
    refine r_faload hX (p2 := 30) (j := a2.toNat) rfl rfl (ha10 a1.toNat (tn_lt c2)) rfl rfl c3 rfl ?_
    exact r_freturn hX rfl rfl (eTF_ok h)
  · have h := it_neg h p4
    exact r_throw hX rfl (by omega) rfl (eTF_no h)
noncomputable def f_L_at (a1 : Int) (a2 : Int) (s : pS) : Option (Int × pS) := (f_X5_at a1 a2 s).bind (fun q1 => (sel q1.1 (fun r2 => ck (vf_n64 (FP.f2d r2)) (bs (wD q1.2 (pm_up (sD q1.2) 0 (FP.f2d r2))) (fun s5 => some (0, s5)))) (fun e3 => (if e3 = 2 then some (1, q1.2) else none))))
set_option maxRecDepth 10000 in
theorem c_L_at (xs : Nat → Int) (e : Nat) (a1 : Int) (a2 : Int) (s : pS) (q : Int × pS) (h : f_L_at a1 a2 s = some q) : pCall pm_tx 1001 xs pm_P (e + 8 + 1) 171 [vR (cc 5 0), vI a1, vI a2, vR (ca 701 0)] (pW s) (.inl (some (vI q.1))) (pW q.2) := by
  refine pCall_of mL_at rfl rfl (fun X hX => ?_)
  show X [some (vR (cc 5 0)), some (vI a1), some (vI a2), some (vR (ca 701 0)), none] [] 0 (pW s)
  replace hX : pm_clo 1001 xs (pCall pm_tx 1001 xs pm_P (e + 8)) (e + 8) mL_at (eI q) X := hX
  unfold f_L_at at h
  refine r_aload_n hX (p2 := 1) rfl rfl rfl ⟨_, Or.inl rfl⟩ ?_
  refine r_iconst hX (p2 := 2) rfl rfl rfl ?_
  refine r_aload_n hX (p2 := 3) rfl rfl rfl ⟨_, Or.inl rfl⟩ ?_
  refine r_iload_n hX (p2 := 4) rfl rfl rfl ?_
  refine r_iload_n hX (p2 := 5) rfl rfl rfl ?_
  obtain ⟨q1, hq1, h⟩ := bd_some h
  have hcq1 := (c_X5_at xs e a1 a2 s q1 hq1)
  rcases hvq1 : q1.1 with r2 | e3
  · rw [hvq1] at h hcq1
    refine r_callv hX (p2 := 8) (v := some (vF r2)) (as := [vI a1, vI a2]) (r := [vI 0, vR (ca 701 0)]) (st2 := [vF r2, vI 0, vR (ca 701 0)]) rfl rfl rfl rfl rfl (hc5 0 (by decide)) rfl rfl hcq1 ?_
    have h := sel_l h
    obtain ⟨c4, h⟩ := ck_some h
    refine r_f2d hX (p2 := 9) rfl rfl c4 ?_
    obtain ⟨s5, hs5, h⟩ := bs_some h
    refine r_dastore hX (p2 := 10) (j := 0) rfl rfl (ha701 0 (by decide)) ⟨by decide, by decide⟩ rfl hs5 ?_
    refine r_goto hX (p2 := 17) rfl (by decide) ?_
    refine r_iconst hX (p2 := 18) rfl rfl rfl ?_
    exact r_iretI hX rfl rfl (eI_ok h)
  · rw [hvq1] at h hcq1
    have h := sel_r h
    by_cases p6 : e3 = 2
    · have h := it_pos h p6
      subst p6
      refine r_callt hX (p2 := 13) (as := [vI a1, vI a2]) (r := [vI 0, vR (ca 701 0)]) rfl rfl rfl rfl (hc5 0 (by decide)) rfl hcq1 rfl rfl ?_
      refine r_astore hX (p2 := 15) (ls2 := [some (vR (cc 5 0)), some (vI a1), some (vI a2), some (vR (ca 701 0)), some (vX 1)]) rfl rfl ⟨0, Or.inr rfl⟩ rfl rfl ?_
      refine r_iconst hX (p2 := 16) rfl rfl rfl ?_
      exact r_iretI hX rfl rfl (eI_ok h)
    have h := it_neg h p6
    cases h
noncomputable def f_X6_at_37 (y0 : UInt32) (s : pS) : Option (UInt32 × pS) := some (y0, s)
set_option maxRecDepth 10000 in
theorem t_X6_at_37 (xs : Nat → Int) (e : Nat) (q : UInt32 × pS) (X : List (Option pV) → List pV → Nat → pH → Prop) (hX : pm_clo 1001 xs (pCall pm_tx 1001 xs pm_P (e + 2)) (e + 2) mX6_at (eF q) X) : ∀  (y0 : UInt32) (d0 : Option pV) (d1 : Option pV) (d2 : Option pV) (s : pS), f_X6_at_37 y0 s = some q → X [d0, d1, d2] [vF y0] 37 (pW s) := by
  intro y0 d0 d1 d2 s h
  unfold f_X6_at_37 at h
  exact r_freturn hX rfl rfl (eF_ok h)
noncomputable def f_X6_at_15 (x1 : Int) (x2 : Int) (y1 : Int) (s : pS) : Option (UInt32 × pS) := (f_X6_fails y1 0 s).bind (fun q1 => (if q1.1 = 0 then ck (inR (12 * x1)) (ck (inR ((12 * x1) + x2)) (ck (0 ≤ ((12 * x1) + x2) ∧ ((12 * x1) + x2) < 24) (f_X6_at_37 (sB q1.2 637 0 ((12 * x1) + x2).toNat) q1.2))) else f_X6_at_37 FP.fconst0 q1.2))
set_option maxRecDepth 10000 in
theorem t_X6_at_15 (xs : Nat → Int) (e : Nat) (q : UInt32 × pS) (X : List (Option pV) → List pV → Nat → pH → Prop) (hX : pm_clo 1001 xs (pCall pm_tx 1001 xs pm_P (e + 2)) (e + 2) mX6_at (eF q) X) : ∀  (x1 : Int) (x2 : Int) (y1 : Int) (s : pS), f_X6_at_15 x1 x2 y1 s = some q → X [some (vR (cc 6 0)), some (vI x1), some (vI x2)] [vI y1, vR (cc 6 0)] 15 (pW s) := by
  intro x1 x2 y1 s h
  unfold f_X6_at_15 at h
  refine r_iconst hX (p2 := 16) rfl rfl rfl ?_
  obtain ⟨q1, hq1, h⟩ := bd_some h
  refine r_callv hX (p2 := 19) (v := some (vI q1.1)) (as := [vI y1, vI 0]) (r := []) (st2 := [vI q1.1]) rfl rfl rfl rfl rfl (hc6 0 (by decide)) rfl rfl (c_X6_fails xs (e + 1) y1 0 s q1 hq1) ?_
  refine r_if hX (p2 := 26) (p3 := 22) (P := q1.1 = 0) rfl (by decide) rfl rfl (fun p5 => ?_) (fun p5 => ?_)
  · have h := it_pos h p5
    refine r_aload_n hX (p2 := 27) rfl rfl rfl ⟨_, Or.inl rfl⟩ ?_
    refine r_gf hX (p2 := 30) (v := vR (ca 637 0)) rfl rfl (hc6 0 (by decide)) rfl rfl rfl ?_
    refine r_bipush hX (p2 := 32) rfl rfl rfl ?_
    refine r_iload_n hX (p2 := 33) rfl rfl rfl ?_
    obtain ⟨c2, h⟩ := ck_some h
    refine r_imul hX (p2 := 34) rfl rfl c2 ?_
    refine r_iload_n hX (p2 := 35) rfl rfl rfl ?_
    obtain ⟨c3, h⟩ := ck_some h
    refine r_iadd hX (p2 := 36) rfl rfl c3 ?_
    obtain ⟨c4, h⟩ := ck_some h
    refine r_faload hX (p2 := 37) (j := ((12 * x1) + x2).toNat) rfl rfl (ha637 0 (by decide)) rfl rfl c4 rfl ?_
    exact t_X6_at_37 xs e q X hX (sB q1.2 637 0 ((12 * x1) + x2).toNat) (some (vR (cc 6 0))) (some (vI x1)) (some (vI x2)) q1.2 h
  · have h := it_neg h p5
    refine r_fconst0 hX (p2 := 23) rfl rfl ?_
    refine r_goto hX (p2 := 37) rfl (by decide) ?_
    exact t_X6_at_37 xs e q X hX FP.fconst0 (some (vR (cc 6 0))) (some (vI x1)) (some (vI x2)) q1.2 h
noncomputable def f_X6_at (a1 : Int) (a2 : Int) (s : pS) : Option (UInt32 × pS) := (f_X6_isTrack a1 a2 s).bind (fun q1 => (if q1.1 ≠ 0 then f_X6_at_15 a1 a2 0 q1.2 else f_X6_at_15 a1 a2 1 q1.2))
set_option maxRecDepth 10000 in
theorem c_X6_at (xs : Nat → Int) (e : Nat) (a1 : Int) (a2 : Int) (s : pS) (q : UInt32 × pS) (h : f_X6_at a1 a2 s = some q) : pCall pm_tx 1001 xs pm_P (e + 2 + 1) 159 [vR (cc 6 0), vI a1, vI a2] (pW s) (.inl (some (vF q.1))) (pW q.2) := by
  refine pCall_of mX6_at rfl rfl (fun X hX => ?_)
  show X [some (vR (cc 6 0)), some (vI a1), some (vI a2)] [] 0 (pW s)
  replace hX : pm_clo 1001 xs (pCall pm_tx 1001 xs pm_P (e + 2)) (e + 2) mX6_at (eF q) X := hX
  unfold f_X6_at at h
  refine r_aload_n hX (p2 := 1) rfl rfl rfl ⟨_, Or.inl rfl⟩ ?_
  refine r_aload_n hX (p2 := 2) rfl rfl rfl ⟨_, Or.inl rfl⟩ ?_
  refine r_iload_n hX (p2 := 3) rfl rfl rfl ?_
  refine r_iload_n hX (p2 := 4) rfl rfl rfl ?_
  obtain ⟨q1, hq1, h⟩ := bd_some h
  refine r_callv hX (p2 := 7) (v := some (vI q1.1)) (as := [vI a1, vI a2]) (r := [vR (cc 6 0)]) (st2 := [vI q1.1, vR (cc 6 0)]) rfl rfl rfl rfl rfl (hc6 0 (by decide)) rfl rfl (c_X6_isTrack xs e a1 a2 s q1 hq1) ?_
  refine r_if hX (p2 := 14) (p3 := 10) (P := q1.1 ≠ 0) rfl (by decide) rfl rfl (fun p2 => ?_) (fun p2 => ?_)
  · have h := it_pos h p2
    refine r_iconst hX (p2 := 15) rfl rfl rfl ?_
    exact t_X6_at_15 xs e q X hX a1 a2 0 q1.2 h
  · have h := it_neg h p2
    refine r_iconst hX (p2 := 11) rfl rfl rfl ?_
    refine r_goto hX (p2 := 15) rfl (by decide) ?_
    exact t_X6_at_15 xs e q X hX a1 a2 1 q1.2 h
noncomputable def f_X5_line_30 (y0 : Int) (s : pS) : Option (Int × pS) := some (y0, s)
set_option maxRecDepth 10000 in
theorem t_X5_line_30 (xs : Nat → Int) (e : Nat) (q : Int × pS) (X : List (Option pV) → List pV → Nat → pH → Prop) (hX : pm_clo 1001 xs (pCall pm_tx 1001 xs pm_P (e + 1)) (e + 1) mX5_line (eI q) X) : ∀  (y0 : Int) (d0 : Option pV) (d1 : Option pV) (d2 : Option pV) (s : pS), f_X5_line_30 y0 s = some q → X [d0, d1, d2] [vI y0] 30 (pW s) := by
  intro y0 d0 d1 d2 s h
  unfold f_X5_line_30 at h
  exact r_iretI hX rfl rfl (eI_ok h)
noncomputable def f_X5_line_29 (s : pS) : Option (Int × pS) := f_X5_line_30 0 s
set_option maxRecDepth 10000 in
theorem t_X5_line_29 (xs : Nat → Int) (e : Nat) (q : Int × pS) (X : List (Option pV) → List pV → Nat → pH → Prop) (hX : pm_clo 1001 xs (pCall pm_tx 1001 xs pm_P (e + 1)) (e + 1) mX5_line (eI q) X) : ∀  (d0 : Option pV) (d1 : Option pV) (d2 : Option pV) (s : pS), f_X5_line_29 s = some q → X [d0, d1, d2] [] 29 (pW s) := by
  intro d0 d1 d2 s h
  unfold f_X5_line_29 at h
  refine r_iconst hX (p2 := 30) rfl rfl rfl ?_
  exact t_X5_line_30 xs e q X hX 0 d0 d1 d2 s h
noncomputable def f_X5_line (a1 : Int) (a2 : Int) (s : pS) : Option (Int × pS) := (f_X5_isItem a1 s).bind (fun q1 => (if q1.1 = 0 then f_X5_line_29 q1.2 else (f_X5_isAxis a2 q1.2).bind (fun q2 => (if q2.1 = 0 then f_X5_line_29 q2.2 else ck (0 ≤ a2 ∧ a2 < 2) (ck (0 ≤ a1 ∧ a1 < 10) (f_X5_line_30 (sA q2.2 11 a2.toNat a1.toNat) q2.2))))))
set_option maxRecDepth 10000 in
theorem c_X5_line (xs : Nat → Int) (e : Nat) (a1 : Int) (a2 : Int) (s : pS) (q : Int × pS) (h : f_X5_line a1 a2 s = some q) : pCall pm_tx 1001 xs pm_P (e + 1 + 1) 86 [vR (cc 5 0), vI a1, vI a2] (pW s) (.inl (some (vI q.1))) (pW q.2) := by
  refine pCall_of mX5_line rfl rfl (fun X hX => ?_)
  show X [some (vR (cc 5 0)), some (vI a1), some (vI a2)] [] 0 (pW s)
  replace hX : pm_clo 1001 xs (pCall pm_tx 1001 xs pm_P (e + 1)) (e + 1) mX5_line (eI q) X := hX
  unfold f_X5_line at h
  refine r_aload_n hX (p2 := 1) rfl rfl rfl ⟨_, Or.inl rfl⟩ ?_
  refine r_iload_n hX (p2 := 2) rfl rfl rfl ?_
  obtain ⟨q1, hq1, h⟩ := bd_some h
  refine r_callv hX (p2 := 5) (v := some (vI q1.1)) (as := [vI a1]) (r := []) (st2 := [vI q1.1]) rfl rfl rfl rfl rfl (hc5 0 (by decide)) rfl rfl (c_X5_isItem xs e a1 s q1 hq1) ?_
  refine r_if hX (p2 := 29) (p3 := 8) (P := q1.1 = 0) rfl (by decide) rfl rfl (fun p6 => ?_) (fun p6 => ?_)
  · have h := it_pos h p6
    exact t_X5_line_29 xs e q X hX (some (vR (cc 5 0))) (some (vI a1)) (some (vI a2)) q1.2 h
  · have h := it_neg h p6
    refine r_iload_n hX (p2 := 9) rfl rfl rfl ?_
    obtain ⟨q2, hq2, h⟩ := bd_some h
    refine r_calls0 hX (p2 := 12) (v := some (vI q2.1)) (as := [vI a2]) (r := []) (st2 := [vI q2.1]) rfl rfl rfl rfl rfl rfl (c_X5_isAxis xs e a2 q1.2 q2 hq2) ?_
    refine r_if hX (p2 := 29) (p3 := 15) (P := q2.1 = 0) rfl (by decide) rfl rfl (fun p5 => ?_) (fun p5 => ?_)
    · have h := it_pos h p5
      exact t_X5_line_29 xs e q X hX (some (vR (cc 5 0))) (some (vI a1)) (some (vI a2)) q2.2 h
    · have h := it_neg h p5
      refine r_aload_n hX (p2 := 16) rfl rfl rfl ⟨_, Or.inl rfl⟩ ?_
      refine r_gf hX (p2 := 19) (v := vR (cr 501)) rfl rfl (hc5 0 (by decide)) rfl rfl rfl ?_
      refine r_iload_n hX (p2 := 20) rfl rfl rfl ?_
      obtain ⟨c3, h⟩ := ck_some h
      refine r_aaload hX (p2 := 21) rfl rfl hr501 rfl c3 (y := cc 0 a2.toNat) rfl ?_
      refine r_gf hX (p2 := 24) (v := vR (ca 11 a2.toNat)) rfl rfl (hc0 a2.toNat (tn_lt c3)) rfl rfl rfl ?_
      refine r_iload_n hX (p2 := 25) rfl rfl rfl ?_
      obtain ⟨c4, h⟩ := ck_some h
      refine r_iaload hX (p2 := 26) (j := a1.toNat) rfl rfl (ha11 a2.toNat (tn_lt c3)) rfl rfl c4 rfl ?_
      refine r_goto hX (p2 := 30) rfl (by decide) ?_
      exact t_X5_line_30 xs e q X hX (sA q2.2 11 a2.toNat a1.toNat) (some (vR (cc 5 0))) (some (vI a1)) (some (vI a2)) q2.2 h
noncomputable def f_X6_lineOf_33 (y0 : Int) (s : pS) : Option (Int × pS) := some (y0, s)
set_option maxRecDepth 10000 in
theorem t_X6_lineOf_33 (xs : Nat → Int) (e : Nat) (q : Int × pS) (X : List (Option pV) → List pV → Nat → pH → Prop) (hX : pm_clo 1001 xs (pCall pm_tx 1001 xs pm_P (e + 1)) (e + 1) mX6_lineOf (eI q) X) : ∀  (y0 : Int) (d0 : Option pV) (d1 : Option pV) (d2 : Option pV) (s : pS), f_X6_lineOf_33 y0 s = some q → X [d0, d1, d2] [vI y0] 33 (pW s) := by
  intro y0 d0 d1 d2 s h
  unfold f_X6_lineOf_33 at h
  exact r_iretI hX rfl rfl (eI_ok h)
noncomputable def f_X6_lineOf_19 (s : pS) : Option (Int × pS) := f_X6_lineOf_33 0 s
set_option maxRecDepth 10000 in
theorem t_X6_lineOf_19 (xs : Nat → Int) (e : Nat) (q : Int × pS) (X : List (Option pV) → List pV → Nat → pH → Prop) (hX : pm_clo 1001 xs (pCall pm_tx 1001 xs pm_P (e + 1)) (e + 1) mX6_lineOf (eI q) X) : ∀  (d0 : Option pV) (d1 : Option pV) (d2 : Option pV) (s : pS), f_X6_lineOf_19 s = some q → X [d0, d1, d2] [] 19 (pW s) := by
  intro d0 d1 d2 s h
  unfold f_X6_lineOf_19 at h
  refine r_iconst hX (p2 := 20) rfl rfl rfl ?_
  refine r_goto hX (p2 := 33) rfl (by decide) ?_
  exact t_X6_lineOf_33 xs e q X hX 0 d0 d1 d2 s h
noncomputable def f_X6_lineOf (a1 : Int) (a2 : Int) (s : pS) : Option (Int × pS) := (if a1 < 0 then f_X6_lineOf_19 s else (if (sI s 630 0) ≤ a1 then f_X6_lineOf_19 s else (f_X6_isAxis a2 s).bind (fun q1 => (if q1.1 ≠ 0 then ck (inR (2 * a1)) (ck (inR ((2 * a1) + a2)) (ck (0 ≤ ((2 * a1) + a2) ∧ ((2 * a1) + a2) < 20) (f_X6_lineOf_33 (sA q1.2 631 0 ((2 * a1) + a2).toNat) q1.2))) else f_X6_lineOf_19 q1.2))))
set_option maxRecDepth 10000 in
theorem c_X6_lineOf (xs : Nat → Int) (e : Nat) (a1 : Int) (a2 : Int) (s : pS) (q : Int × pS) (h : f_X6_lineOf a1 a2 s = some q) : pCall pm_tx 1001 xs pm_P (e + 1 + 1) 160 [vR (cc 6 0), vI a1, vI a2] (pW s) (.inl (some (vI q.1))) (pW q.2) := by
  refine pCall_of mX6_lineOf rfl rfl (fun X hX => ?_)
  show X [some (vR (cc 6 0)), some (vI a1), some (vI a2)] [] 0 (pW s)
  replace hX : pm_clo 1001 xs (pCall pm_tx 1001 xs pm_P (e + 1)) (e + 1) mX6_lineOf (eI q) X := hX
  unfold f_X6_lineOf at h
  refine r_iload_n hX (p2 := 1) rfl rfl rfl ?_
  refine r_if hX (p2 := 19) (p3 := 4) (P := a1 < 0) rfl (by decide) rfl rfl (fun p7 => ?_) (fun p7 => ?_)
  · have h := it_pos h p7
    exact t_X6_lineOf_19 xs e q X hX (some (vR (cc 6 0))) (some (vI a1)) (some (vI a2)) s h
  · have h := it_neg h p7
    refine r_iload_n hX (p2 := 5) rfl rfl rfl ?_
    refine r_aload_n hX (p2 := 6) rfl rfl rfl ⟨_, Or.inl rfl⟩ ?_
    refine r_gf hX (p2 := 9) (v := vI (sI s 630 0)) rfl rfl (hc6 0 (by decide)) rfl rfl rfl ?_
    refine r_icmp hX (p2 := 19) (p3 := 12) (P := (sI s 630 0) ≤ a1) rfl (by decide) rfl rfl (fun p6 => ?_) (fun p6 => ?_)
    · have h := it_pos h p6
      exact t_X6_lineOf_19 xs e q X hX (some (vR (cc 6 0))) (some (vI a1)) (some (vI a2)) s h
    · have h := it_neg h p6
      refine r_iload_n hX (p2 := 13) rfl rfl rfl ?_
      obtain ⟨q1, hq1, h⟩ := bd_some h
      refine r_calls0 hX (p2 := 16) (v := some (vI q1.1)) (as := [vI a2]) (r := []) (st2 := [vI q1.1]) rfl rfl rfl rfl rfl rfl (c_X6_isAxis xs e a2 s q1 hq1) ?_
      refine r_if hX (p2 := 23) (p3 := 19) (P := q1.1 ≠ 0) rfl (by decide) rfl rfl (fun p5 => ?_) (fun p5 => ?_)
      · have h := it_pos h p5
        refine r_aload_n hX (p2 := 24) rfl rfl rfl ⟨_, Or.inl rfl⟩ ?_
        refine r_gf hX (p2 := 27) (v := vR (ca 631 0)) rfl rfl (hc6 0 (by decide)) rfl rfl rfl ?_
        refine r_iconst hX (p2 := 28) rfl rfl rfl ?_
        refine r_iload_n hX (p2 := 29) rfl rfl rfl ?_
        obtain ⟨c2, h⟩ := ck_some h
        refine r_imul hX (p2 := 30) rfl rfl c2 ?_
        refine r_iload_n hX (p2 := 31) rfl rfl rfl ?_
        obtain ⟨c3, h⟩ := ck_some h
        refine r_iadd hX (p2 := 32) rfl rfl c3 ?_
        obtain ⟨c4, h⟩ := ck_some h
        refine r_iaload hX (p2 := 33) (j := ((2 * a1) + a2).toNat) rfl rfl (ha631 0 (by decide)) rfl rfl c4 rfl ?_
        exact t_X6_lineOf_33 xs e q X hX (sA q1.2 631 0 ((2 * a1) + a2).toNat) (some (vR (cc 6 0))) (some (vI a1)) (some (vI a2)) q1.2 h
      · have h := it_neg h p5
        exact t_X6_lineOf_19 xs e q X hX (some (vR (cc 6 0))) (some (vI a1)) (some (vI a2)) q1.2 h
noncomputable def f_X6_line (a1 : Int) (a2 : Int) (s : pS) : Option (Int × pS) := bs (wI s 600 0 0) (fun s1 => (f_X6_lineOf a1 a2 s1).bind (fun q2 => some (q2.1, q2.2)))
set_option maxRecDepth 10000 in
theorem c_X6_line (xs : Nat → Int) (e : Nat) (a1 : Int) (a2 : Int) (s : pS) (q : Int × pS) (h : f_X6_line a1 a2 s = some q) : pCall pm_tx 1001 xs pm_P (e + 2 + 1) 161 [vR (cc 6 0), vI a1, vI a2] (pW s) (.inl (some (vI q.1))) (pW q.2) := by
  refine pCall_of mX6_line rfl rfl (fun X hX => ?_)
  show X [some (vR (cc 6 0)), some (vI a1), some (vI a2)] [] 0 (pW s)
  replace hX : pm_clo 1001 xs (pCall pm_tx 1001 xs pm_P (e + 2)) (e + 2) mX6_line (eI q) X := hX
  unfold f_X6_line at h
  refine r_aload_n hX (p2 := 1) rfl rfl rfl ⟨_, Or.inl rfl⟩ ?_
  refine r_iconst hX (p2 := 2) rfl rfl rfl ?_
  obtain ⟨s1, hs1, h⟩ := bs_some h
  refine r_pfI hX (p2 := 5) rfl rfl (hc6 0 (by decide)) rfl rfl rfl rfl rfl rfl hs1 ?_
  refine r_aload_n hX (p2 := 6) rfl rfl rfl ⟨_, Or.inl rfl⟩ ?_
  refine r_iload_n hX (p2 := 7) rfl rfl rfl ?_
  refine r_iload_n hX (p2 := 8) rfl rfl rfl ?_
  obtain ⟨q2, hq2, h⟩ := bd_some h
  refine r_callv hX (p2 := 11) (v := some (vI q2.1)) (as := [vI a1, vI a2]) (r := []) (st2 := [vI q2.1]) rfl rfl rfl rfl rfl (hc6 0 (by decide)) rfl rfl (c_X6_lineOf xs e a1 a2 s1 q2 hq2) ?_
  exact r_iretI hX rfl rfl (eI_ok h)
noncomputable def f_X5_extent (a1 : Int) (a2 : Int) (s : pS) : Option ((UInt32 ⊕ Nat) × pS) := (f_X5_line a1 a2 s).bind (fun q1 => (if q1.1 ≠ 0 then ck (0 ≤ a2 ∧ a2 < 2) (ck (0 ≤ a1 ∧ a1 < 10) (some (Sum.inl (sB q1.2 12 a2.toNat a1.toNat), q1.2))) else some (Sum.inr 2, wN q1.2)))
set_option maxRecDepth 10000 in
theorem c_X5_extent (xs : Nat → Int) (e : Nat) (a1 : Int) (a2 : Int) (s : pS) (q : (UInt32 ⊕ Nat) × pS) (h : f_X5_extent a1 a2 s = some q) : pCall pm_tx 1001 xs pm_P (e + 7 + 1) 87 [vR (cc 5 0), vI a1, vI a2] (pW s) (oTF q.1) (pW q.2) := by
  refine pCall_of mX5_extent rfl rfl (fun X hX => ?_)
  show X [some (vR (cc 5 0)), some (vI a1), some (vI a2)] [] 0 (pW s)
  replace hX : pm_clo 1001 xs (pCall pm_tx 1001 xs pm_P (e + 7)) (e + 7) mX5_extent (eTF q) X := hX
  unfold f_X5_extent at h
  refine r_aload_n hX (p2 := 1) rfl rfl rfl ⟨_, Or.inl rfl⟩ ?_
  refine r_iload_n hX (p2 := 2) rfl rfl rfl ?_
  refine r_iload_n hX (p2 := 3) rfl rfl rfl ?_
  obtain ⟨q1, hq1, h⟩ := bd_some h
  refine r_callv hX (p2 := 6) (v := some (vI q1.1)) (as := [vI a1, vI a2]) (r := []) (st2 := [vI q1.1]) rfl rfl rfl rfl rfl (hc5 0 (by decide)) rfl rfl (c_X5_line xs (e + 5) a1 a2 s q1 hq1) ?_
  refine r_if hX (p2 := 19) (p3 := 9) (P := q1.1 ≠ 0) rfl (by decide) rfl rfl (fun p4 => ?_) (fun p4 => ?_)
  · have h := it_pos h p4
    refine r_aload_n hX (p2 := 20) rfl rfl rfl ⟨_, Or.inl rfl⟩ ?_
    refine r_gf hX (p2 := 23) (v := vR (cr 501)) rfl rfl (hc5 0 (by decide)) rfl rfl rfl ?_
    refine r_iload_n hX (p2 := 24) rfl rfl rfl ?_
    obtain ⟨c2, h⟩ := ck_some h
    refine r_aaload hX (p2 := 25) rfl rfl hr501 rfl c2 (y := cc 0 a2.toNat) rfl ?_
    refine r_gf hX (p2 := 28) (v := vR (ca 12 a2.toNat)) rfl rfl (hc0 a2.toNat (tn_lt c2)) rfl rfl rfl ?_
    refine r_iload_n hX (p2 := 29) rfl rfl rfl ?_
    obtain ⟨c3, h⟩ := ck_some h
    refine r_faload hX (p2 := 30) (j := a1.toNat) rfl rfl (ha12 a2.toNat (tn_lt c2)) rfl rfl c3 rfl ?_
    exact r_freturn hX rfl rfl (eTF_ok h)
  · have h := it_neg h p4
    exact r_throw hX rfl (by omega) rfl (eTF_no h)
noncomputable def f_L_extent (a1 : Int) (a2 : Int) (s : pS) : Option (Int × pS) := (f_X5_extent a1 a2 s).bind (fun q1 => (sel q1.1 (fun r2 => ck (vf_n64 (FP.f2d r2)) (bs (wD q1.2 (pm_up (sD q1.2) 0 (FP.f2d r2))) (fun s5 => some (0, s5)))) (fun e3 => (if e3 = 2 then some (1, q1.2) else none))))
set_option maxRecDepth 10000 in
theorem c_L_extent (xs : Nat → Int) (e : Nat) (a1 : Int) (a2 : Int) (s : pS) (q : Int × pS) (h : f_L_extent a1 a2 s = some q) : pCall pm_tx 1001 xs pm_P (e + 8 + 1) 172 [vR (cc 5 0), vI a1, vI a2, vR (ca 701 0)] (pW s) (.inl (some (vI q.1))) (pW q.2) := by
  refine pCall_of mL_extent rfl rfl (fun X hX => ?_)
  show X [some (vR (cc 5 0)), some (vI a1), some (vI a2), some (vR (ca 701 0)), none] [] 0 (pW s)
  replace hX : pm_clo 1001 xs (pCall pm_tx 1001 xs pm_P (e + 8)) (e + 8) mL_extent (eI q) X := hX
  unfold f_L_extent at h
  refine r_aload_n hX (p2 := 1) rfl rfl rfl ⟨_, Or.inl rfl⟩ ?_
  refine r_iconst hX (p2 := 2) rfl rfl rfl ?_
  refine r_aload_n hX (p2 := 3) rfl rfl rfl ⟨_, Or.inl rfl⟩ ?_
  refine r_iload_n hX (p2 := 4) rfl rfl rfl ?_
  refine r_iload_n hX (p2 := 5) rfl rfl rfl ?_
  obtain ⟨q1, hq1, h⟩ := bd_some h
  have hcq1 := (c_X5_extent xs e a1 a2 s q1 hq1)
  rcases hvq1 : q1.1 with r2 | e3
  · rw [hvq1] at h hcq1
    refine r_callv hX (p2 := 8) (v := some (vF r2)) (as := [vI a1, vI a2]) (r := [vI 0, vR (ca 701 0)]) (st2 := [vF r2, vI 0, vR (ca 701 0)]) rfl rfl rfl rfl rfl (hc5 0 (by decide)) rfl rfl hcq1 ?_
    have h := sel_l h
    obtain ⟨c4, h⟩ := ck_some h
    refine r_f2d hX (p2 := 9) rfl rfl c4 ?_
    obtain ⟨s5, hs5, h⟩ := bs_some h
    refine r_dastore hX (p2 := 10) (j := 0) rfl rfl (ha701 0 (by decide)) ⟨by decide, by decide⟩ rfl hs5 ?_
    refine r_goto hX (p2 := 17) rfl (by decide) ?_
    refine r_iconst hX (p2 := 18) rfl rfl rfl ?_
    exact r_iretI hX rfl rfl (eI_ok h)
  · rw [hvq1] at h hcq1
    have h := sel_r h
    by_cases p6 : e3 = 2
    · have h := it_pos h p6
      subst p6
      refine r_callt hX (p2 := 13) (as := [vI a1, vI a2]) (r := [vI 0, vR (ca 701 0)]) rfl rfl rfl rfl (hc5 0 (by decide)) rfl hcq1 rfl rfl ?_
      refine r_astore hX (p2 := 15) (ls2 := [some (vR (cc 5 0)), some (vI a1), some (vI a2), some (vR (ca 701 0)), some (vX 1)]) rfl rfl ⟨0, Or.inr rfl⟩ rfl rfl ?_
      refine r_iconst hX (p2 := 16) rfl rfl rfl ?_
      exact r_iretI hX rfl rfl (eI_ok h)
    have h := it_neg h p6
    cases h
noncomputable def f_X6_extent_36 (y0 : UInt32) (s : pS) : Option (UInt32 × pS) := some (y0, s)
set_option maxRecDepth 10000 in
theorem t_X6_extent_36 (xs : Nat → Int) (e : Nat) (q : UInt32 × pS) (X : List (Option pV) → List pV → Nat → pH → Prop) (hX : pm_clo 1001 xs (pCall pm_tx 1001 xs pm_P (e + 2)) (e + 2) mX6_extent (eF q) X) : ∀  (y0 : UInt32) (d0 : Option pV) (d1 : Option pV) (d2 : Option pV) (s : pS), f_X6_extent_36 y0 s = some q → X [d0, d1, d2] [vF y0] 36 (pW s) := by
  intro y0 d0 d1 d2 s h
  unfold f_X6_extent_36 at h
  exact r_freturn hX rfl rfl (eF_ok h)
noncomputable def f_X6_extent_15 (x1 : Int) (x2 : Int) (y1 : Int) (s : pS) : Option (UInt32 × pS) := (f_X6_fails y1 0 s).bind (fun q1 => (if q1.1 = 0 then ck (inR (2 * x1)) (ck (inR ((2 * x1) + x2)) (ck (0 ≤ ((2 * x1) + x2) ∧ ((2 * x1) + x2) < 20) (f_X6_extent_36 (sB q1.2 632 0 ((2 * x1) + x2).toNat) q1.2))) else f_X6_extent_36 FP.fconst0 q1.2))
set_option maxRecDepth 10000 in
theorem t_X6_extent_15 (xs : Nat → Int) (e : Nat) (q : UInt32 × pS) (X : List (Option pV) → List pV → Nat → pH → Prop) (hX : pm_clo 1001 xs (pCall pm_tx 1001 xs pm_P (e + 2)) (e + 2) mX6_extent (eF q) X) : ∀  (x1 : Int) (x2 : Int) (y1 : Int) (s : pS), f_X6_extent_15 x1 x2 y1 s = some q → X [some (vR (cc 6 0)), some (vI x1), some (vI x2)] [vI y1, vR (cc 6 0)] 15 (pW s) := by
  intro x1 x2 y1 s h
  unfold f_X6_extent_15 at h
  refine r_iconst hX (p2 := 16) rfl rfl rfl ?_
  obtain ⟨q1, hq1, h⟩ := bd_some h
  refine r_callv hX (p2 := 19) (v := some (vI q1.1)) (as := [vI y1, vI 0]) (r := []) (st2 := [vI q1.1]) rfl rfl rfl rfl rfl (hc6 0 (by decide)) rfl rfl (c_X6_fails xs (e + 1) y1 0 s q1 hq1) ?_
  refine r_if hX (p2 := 26) (p3 := 22) (P := q1.1 = 0) rfl (by decide) rfl rfl (fun p5 => ?_) (fun p5 => ?_)
  · have h := it_pos h p5
    refine r_aload_n hX (p2 := 27) rfl rfl rfl ⟨_, Or.inl rfl⟩ ?_
    refine r_gf hX (p2 := 30) (v := vR (ca 632 0)) rfl rfl (hc6 0 (by decide)) rfl rfl rfl ?_
    refine r_iconst hX (p2 := 31) rfl rfl rfl ?_
    refine r_iload_n hX (p2 := 32) rfl rfl rfl ?_
    obtain ⟨c2, h⟩ := ck_some h
    refine r_imul hX (p2 := 33) rfl rfl c2 ?_
    refine r_iload_n hX (p2 := 34) rfl rfl rfl ?_
    obtain ⟨c3, h⟩ := ck_some h
    refine r_iadd hX (p2 := 35) rfl rfl c3 ?_
    obtain ⟨c4, h⟩ := ck_some h
    refine r_faload hX (p2 := 36) (j := ((2 * x1) + x2).toNat) rfl rfl (ha632 0 (by decide)) rfl rfl c4 rfl ?_
    exact t_X6_extent_36 xs e q X hX (sB q1.2 632 0 ((2 * x1) + x2).toNat) (some (vR (cc 6 0))) (some (vI x1)) (some (vI x2)) q1.2 h
  · have h := it_neg h p5
    refine r_fconst0 hX (p2 := 23) rfl rfl ?_
    refine r_goto hX (p2 := 36) rfl (by decide) ?_
    exact t_X6_extent_36 xs e q X hX FP.fconst0 (some (vR (cc 6 0))) (some (vI x1)) (some (vI x2)) q1.2 h
noncomputable def f_X6_extent (a1 : Int) (a2 : Int) (s : pS) : Option (UInt32 × pS) := (f_X6_lineOf a1 a2 s).bind (fun q1 => (if q1.1 ≠ 0 then f_X6_extent_15 a1 a2 0 q1.2 else f_X6_extent_15 a1 a2 1 q1.2))
set_option maxRecDepth 10000 in
theorem c_X6_extent (xs : Nat → Int) (e : Nat) (a1 : Int) (a2 : Int) (s : pS) (q : UInt32 × pS) (h : f_X6_extent a1 a2 s = some q) : pCall pm_tx 1001 xs pm_P (e + 2 + 1) 162 [vR (cc 6 0), vI a1, vI a2] (pW s) (.inl (some (vF q.1))) (pW q.2) := by
  refine pCall_of mX6_extent rfl rfl (fun X hX => ?_)
  show X [some (vR (cc 6 0)), some (vI a1), some (vI a2)] [] 0 (pW s)
  replace hX : pm_clo 1001 xs (pCall pm_tx 1001 xs pm_P (e + 2)) (e + 2) mX6_extent (eF q) X := hX
  unfold f_X6_extent at h
  refine r_aload_n hX (p2 := 1) rfl rfl rfl ⟨_, Or.inl rfl⟩ ?_
  refine r_aload_n hX (p2 := 2) rfl rfl rfl ⟨_, Or.inl rfl⟩ ?_
  refine r_iload_n hX (p2 := 3) rfl rfl rfl ?_
  refine r_iload_n hX (p2 := 4) rfl rfl rfl ?_
  obtain ⟨q1, hq1, h⟩ := bd_some h
  refine r_callv hX (p2 := 7) (v := some (vI q1.1)) (as := [vI a1, vI a2]) (r := [vR (cc 6 0)]) (st2 := [vI q1.1, vR (cc 6 0)]) rfl rfl rfl rfl rfl (hc6 0 (by decide)) rfl rfl (c_X6_lineOf xs e a1 a2 s q1 hq1) ?_
  refine r_if hX (p2 := 14) (p3 := 10) (P := q1.1 ≠ 0) rfl (by decide) rfl rfl (fun p2 => ?_) (fun p2 => ?_)
  · have h := it_pos h p2
    refine r_iconst hX (p2 := 15) rfl rfl rfl ?_
    exact t_X6_extent_15 xs e q X hX a1 a2 0 q1.2 h
  · have h := it_neg h p2
    refine r_iconst hX (p2 := 11) rfl rfl rfl ?_
    refine r_goto hX (p2 := 15) rfl (by decide) ?_
    exact t_X6_extent_15 xs e q X hX a1 a2 1 q1.2 h
noncomputable def f_X0_covers_49 (i0 : Nat) (y0 : Int) (s : pS) : Option (Int × pS) := ck (y0 = 0 ∨ y0 = 1) (some (y0, s))
set_option maxRecDepth 10000 in
theorem t_X0_covers_49 (xs : Nat → Int) (e : Nat) (i0 : Nat) (hi0 : i0 < 2) (q : Int × pS) (X : List (Option pV) → List pV → Nat → pH → Prop) (hX : pm_clo 1001 xs (pCall pm_tx 1001 xs pm_P e) e mX0_covers (eI q) X) : ∀  (y0 : Int) (d0 : Option pV) (d1 : Option pV) (d2 : Option pV) (d3 : Option pV) (s : pS), f_X0_covers_49 i0 y0 s = some q → X [d0, d1, d2, d3] [vI y0] 49 (pW s) := by
  intro y0 d0 d1 d2 d3 s h
  unfold f_X0_covers_49 at h
  obtain ⟨c1, h⟩ := ck_some h
  exact r_iretZ hX rfl rfl c1 (eI_ok h)
noncomputable def f_X0_covers_48 (i0 : Nat) (s : pS) : Option (Int × pS) := f_X0_covers_49 i0 0 s
set_option maxRecDepth 10000 in
theorem t_X0_covers_48 (xs : Nat → Int) (e : Nat) (i0 : Nat) (hi0 : i0 < 2) (q : Int × pS) (X : List (Option pV) → List pV → Nat → pH → Prop) (hX : pm_clo 1001 xs (pCall pm_tx 1001 xs pm_P e) e mX0_covers (eI q) X) : ∀  (d0 : Option pV) (d1 : Option pV) (d2 : Option pV) (d3 : Option pV) (s : pS), f_X0_covers_48 i0 s = some q → X [d0, d1, d2, d3] [] 48 (pW s) := by
  intro d0 d1 d2 d3 s h
  unfold f_X0_covers_48 at h
  refine r_iconst hX (p2 := 49) rfl rfl rfl ?_
  exact t_X0_covers_49 xs e i0 hi0 q X hX 0 d0 d1 d2 d3 s h
noncomputable def f_X0_covers (i0 : Nat) (a1 : Int) (a2 : UInt32) (s : pS) : Option (Int × pS) := ck (0 ≤ a1 ∧ a1 < 10) ((if (sA s 11 i0 a1.toNat) ≠ 0 then ck (0 ≤ a1 ∧ a1 < 10) (ck (inR ((sA s 11 i0 a1.toNat) - 1)) (ck (0 ≤ ((sA s 11 i0 a1.toNat) - 1) ∧ ((sA s 11 i0 a1.toNat) - 1) < 12) (bs ((sB s 10 i0 ((sA s 11 i0 a1.toNat) - 1).toNat)) (fun v5 => (if (pm_fc .l a2 v5) < 0 then f_X0_covers_48 i0 s else ck (0 ≤ a1 ∧ a1 < 10) (ck (vf_n32 (FP.fadd v5 (sB s 12 i0 a1.toNat))) ((if 0 ≤ (pm_fc .g a2 (FP.fadd v5 (sB s 12 i0 a1.toNat))) then f_X0_covers_48 i0 s else f_X0_covers_49 i0 1 s)))))))) else some (0, s)))
set_option maxRecDepth 10000 in
theorem c_X0_covers (xs : Nat → Int) (e : Nat) (i0 : Nat) (a1 : Int) (a2 : UInt32) (hi0 : i0 < 2) (s : pS) (q : Int × pS) (h : f_X0_covers i0 a1 a2 s = some q) : pCall pm_tx 1001 xs pm_P (e + 1) 2 [vR (cc 0 i0), vI a1, vF a2] (pW s) (.inl (some (vI q.1))) (pW q.2) := by
  refine pCall_of mX0_covers rfl rfl (fun X hX => ?_)
  show X [some (vR (cc 0 i0)), some (vI a1), some (vF a2), none] [] 0 (pW s)
  replace hX : pm_clo 1001 xs (pCall pm_tx 1001 xs pm_P e) e mX0_covers (eI q) X := hX
  unfold f_X0_covers at h
  refine r_aload_n hX (p2 := 1) rfl rfl rfl ⟨_, Or.inl rfl⟩ ?_
  refine r_gf hX (p2 := 4) (v := vR (ca 11 i0)) rfl rfl (hc0 i0 hi0) rfl rfl rfl ?_
  refine r_iload_n hX (p2 := 5) rfl rfl rfl ?_
  obtain ⟨c1, h⟩ := ck_some h
  refine r_iaload hX (p2 := 6) (j := a1.toNat) rfl rfl (ha11 i0 hi0) rfl rfl c1 rfl ?_
  refine r_if hX (p2 := 11) (p3 := 9) (P := (sA s 11 i0 a1.toNat) ≠ 0) rfl (by decide) rfl rfl (fun p10 => ?_) (fun p10 => ?_)
  · have h := it_pos h p10
    refine r_aload_n hX (p2 := 12) rfl rfl rfl ⟨_, Or.inl rfl⟩ ?_
    refine r_gf hX (p2 := 15) (v := vR (ca 10 i0)) rfl rfl (hc0 i0 hi0) rfl rfl rfl ?_
    refine r_aload_n hX (p2 := 16) rfl rfl rfl ⟨_, Or.inl rfl⟩ ?_
    refine r_gf hX (p2 := 19) (v := vR (ca 11 i0)) rfl rfl (hc0 i0 hi0) rfl rfl rfl ?_
    refine r_iload_n hX (p2 := 20) rfl rfl rfl ?_
    obtain ⟨c2, h⟩ := ck_some h
    refine r_iaload hX (p2 := 21) (j := a1.toNat) rfl rfl (ha11 i0 hi0) rfl rfl c2 rfl ?_
    refine r_iconst hX (p2 := 22) rfl rfl rfl ?_
    obtain ⟨c3, h⟩ := ck_some h
    refine r_isub hX (p2 := 23) rfl rfl c3 ?_
    obtain ⟨c4, h⟩ := ck_some h
    refine r_faload hX (p2 := 24) (j := ((sA s 11 i0 a1.toNat) - 1).toNat) rfl rfl (ha10 i0 hi0) rfl rfl c4 rfl ?_
    obtain ⟨v5, hv5, h⟩ := bs_some h
    refine r_fstoreE_n hX (p2 := 25) (ls2 := [some (vR (cc 0 i0)), some (vI a1), some (vF a2), some (vF v5)]) rfl rfl hv5 rfl rfl ?_
    refine r_fload_n hX (p2 := 26) rfl rfl rfl ?_
    refine r_fload_n hX (p2 := 27) rfl rfl rfl ?_
    refine r_fcmp hX (p2 := 28) rfl rfl ?_
    refine r_if hX (p2 := 48) (p3 := 31) (P := (pm_fc .l a2 v5) < 0) rfl (by decide) rfl rfl (fun p9 => ?_) (fun p9 => ?_)
    · have h := it_pos h p9
      exact t_X0_covers_48 xs e i0 hi0 q X hX (some (vR (cc 0 i0))) (some (vI a1)) (some (vF a2)) (some (vF v5)) s h
    · have h := it_neg h p9
      refine r_fload_n hX (p2 := 32) rfl rfl rfl ?_
      refine r_fload_n hX (p2 := 33) rfl rfl rfl ?_
      refine r_aload_n hX (p2 := 34) rfl rfl rfl ⟨_, Or.inl rfl⟩ ?_
      refine r_gf hX (p2 := 37) (v := vR (ca 12 i0)) rfl rfl (hc0 i0 hi0) rfl rfl rfl ?_
      refine r_iload_n hX (p2 := 38) rfl rfl rfl ?_
      obtain ⟨c6, h⟩ := ck_some h
      refine r_faload hX (p2 := 39) (j := a1.toNat) rfl rfl (ha12 i0 hi0) rfl rfl c6 rfl ?_
      obtain ⟨c7, h⟩ := ck_some h
      refine r_fadd hX (p2 := 40) rfl rfl c7 ?_
      refine r_fcmp hX (p2 := 41) rfl rfl ?_
      refine r_if hX (p2 := 48) (p3 := 44) (P := 0 ≤ (pm_fc .g a2 (FP.fadd v5 (sB s 12 i0 a1.toNat)))) rfl (by decide) rfl rfl (fun p8 => ?_) (fun p8 => ?_)
      · have h := it_pos h p8
        exact t_X0_covers_48 xs e i0 hi0 q X hX (some (vR (cc 0 i0))) (some (vI a1)) (some (vF a2)) (some (vF v5)) s h
      · have h := it_neg h p8
        refine r_iconst hX (p2 := 45) rfl rfl rfl ?_
        refine r_goto hX (p2 := 49) rfl (by decide) ?_
        exact t_X0_covers_49 xs e i0 hi0 q X hX 1 (some (vR (cc 0 i0))) (some (vI a1)) (some (vF a2)) (some (vF v5)) s h
  · have h := it_neg h p10
    refine r_iconst hX (p2 := 10) rfl rfl rfl ?_
    exact r_iretZ hX rfl rfl (Or.inl rfl) (eI_ok h)
noncomputable def f_X5_hit_40 (K2 : UInt32 → UInt32 → Int → pS → Option (Int × pS)) (K46 : pS → Option (Int × pS)) (x1 : UInt32) (x2 : UInt32) (x3 : Int) (s : pS) : Option (Int × pS) := ck (inR (x3 + 1)) (K2 x1 x2 (x3 + 1) s)
set_option maxRecDepth 10000 in
theorem t_X5_hit_40 (xs : Nat → Int) (e : Nat) (q : Int × pS) (X : List (Option pV) → List pV → Nat → pH → Prop) (hX : pm_clo 1001 xs (pCall pm_tx 1001 xs pm_P (e + 1)) (e + 1) mX5_hit (eI q) X) (K2 : UInt32 → UInt32 → Int → pS → Option (Int × pS)) (K46 : pS → Option (Int × pS)) (hK2 : ∀ (x1 : UInt32) (x2 : UInt32) (x3 : Int) (s : pS), K2 x1 x2 x3 s = some q → X [some (vR (cc 5 0)), some (vF x1), some (vF x2), some (vI x3)] [] 2 (pW s)) (hK46 : ∀ (d0 : Option pV) (d1 : Option pV) (d2 : Option pV) (d3 : Option pV) (s : pS), K46 s = some q → X [d0, d1, d2, d3] [] 46 (pW s)) : ∀  (x1 : UInt32) (x2 : UInt32) (x3 : Int) (s : pS), f_X5_hit_40 K2 K46 x1 x2 x3 s = some q → X [some (vR (cc 5 0)), some (vF x1), some (vF x2), some (vI x3)] [] 40 (pW s) := by
  intro x1 x2 x3 s h
  unfold f_X5_hit_40 at h
  obtain ⟨c1, h⟩ := ck_some h
  refine r_iinc hX (p2 := 43) (ls2 := [some (vR (cc 5 0)), some (vF x1), some (vF x2), some (vI (x3 + 1))]) rfl rfl rfl rfl c1 rfl ?_
  refine r_goto hX (p2 := 2) rfl (by decide) ?_
  exact hK2 x1 x2 (x3 + 1) s h
noncomputable def f_X5_hit_2 (K46 : pS → Option (Int × pS)) : Nat → UInt32 → UInt32 → Int → pS → Option (Int × pS)
  | 0, _, _, _, _ => none
  | n + 1, x1, x2, x3, s => (if (sI s 504 0) ≤ x3 then K46 s else (f_X0_covers 0 x3 x1 s).bind (fun q1 => (if q1.1 = 0 then f_X5_hit_40 (f_X5_hit_2 K46 n) K46 x1 x2 x3 q1.2 else (f_X0_covers 1 x3 x2 q1.2).bind (fun q2 => (if q2.1 = 0 then f_X5_hit_40 (f_X5_hit_2 K46 n) K46 x1 x2 x3 q2.2 else some (x3, q2.2))))))
set_option maxRecDepth 10000 in
theorem t_X5_hit_2 (xs : Nat → Int) (e : Nat) (q : Int × pS) (X : List (Option pV) → List pV → Nat → pH → Prop) (hX : pm_clo 1001 xs (pCall pm_tx 1001 xs pm_P (e + 1)) (e + 1) mX5_hit (eI q) X) (K46 : pS → Option (Int × pS)) (hK46 : ∀ (d0 : Option pV) (d1 : Option pV) (d2 : Option pV) (d3 : Option pV) (s : pS), K46 s = some q → X [d0, d1, d2, d3] [] 46 (pW s)) : ∀ (n : Nat) (x1 : UInt32) (x2 : UInt32) (x3 : Int) (s : pS), f_X5_hit_2 K46 n x1 x2 x3 s = some q → X [some (vR (cc 5 0)), some (vF x1), some (vF x2), some (vI x3)] [] 2 (pW s) := by
  intro n
  induction n with
  | zero =>
    intro x1 x2 x3 s h
    rw [f_X5_hit_2] at h
    cases h
  | succ n ih =>
    intro x1 x2 x3 s h
    rw [f_X5_hit_2] at h
    refine r_iload_n hX (p2 := 3) rfl rfl rfl ?_
    refine r_aload_n hX (p2 := 4) rfl rfl rfl ⟨_, Or.inl rfl⟩ ?_
    refine r_gf hX (p2 := 7) (v := vI (sI s 504 0)) rfl rfl (hc5 0 (by decide)) rfl rfl rfl ?_
    refine r_icmp hX (p2 := 46) (p3 := 10) (P := (sI s 504 0) ≤ x3) rfl (by decide) rfl rfl (fun p5 => ?_) (fun p5 => ?_)
    · have h := it_pos h p5
      exact hK46 (some (vR (cc 5 0))) (some (vF x1)) (some (vF x2)) (some (vI x3)) s h
    · have h := it_neg h p5
      refine r_aload_n hX (p2 := 11) rfl rfl rfl ⟨_, Or.inl rfl⟩ ?_
      refine r_gf hX (p2 := 14) (v := vR (cr 501)) rfl rfl (hc5 0 (by decide)) rfl rfl rfl ?_
      refine r_iconst hX (p2 := 15) rfl rfl rfl ?_
      refine r_aaload hX (p2 := 16) rfl rfl hr501 rfl ⟨by decide, by decide⟩ (y := cc 0 0) rfl ?_
      refine r_iload_n hX (p2 := 17) rfl rfl rfl ?_
      refine r_fload_n hX (p2 := 18) rfl rfl rfl ?_
      obtain ⟨q1, hq1, h⟩ := bd_some h
      refine r_callv hX (p2 := 21) (v := some (vI q1.1)) (as := [vI x3, vF x1]) (r := []) (st2 := [vI q1.1]) rfl rfl rfl rfl rfl (hc0 0 (by decide)) rfl rfl (c_X0_covers xs e 0 x3 x1 (by decide) s q1 hq1) ?_
      refine r_if hX (p2 := 40) (p3 := 24) (P := q1.1 = 0) rfl (by decide) rfl rfl (fun p4 => ?_) (fun p4 => ?_)
      · have h := it_pos h p4
        exact t_X5_hit_40 xs e q X hX _ _ ih hK46 x1 x2 x3 q1.2 h
      · have h := it_neg h p4
        refine r_aload_n hX (p2 := 25) rfl rfl rfl ⟨_, Or.inl rfl⟩ ?_
        refine r_gf hX (p2 := 28) (v := vR (cr 501)) rfl rfl (hc5 0 (by decide)) rfl rfl rfl ?_
        refine r_iconst hX (p2 := 29) rfl rfl rfl ?_
        refine r_aaload hX (p2 := 30) rfl rfl hr501 rfl ⟨by decide, by decide⟩ (y := cc 0 1) rfl ?_
        refine r_iload_n hX (p2 := 31) rfl rfl rfl ?_
        refine r_fload_n hX (p2 := 32) rfl rfl rfl ?_
        obtain ⟨q2, hq2, h⟩ := bd_some h
        refine r_callv hX (p2 := 35) (v := some (vI q2.1)) (as := [vI x3, vF x2]) (r := []) (st2 := [vI q2.1]) rfl rfl rfl rfl rfl (hc0 1 (by decide)) rfl rfl (c_X0_covers xs e 1 x3 x2 (by decide) q1.2 q2 hq2) ?_
        refine r_if hX (p2 := 40) (p3 := 38) (P := q2.1 = 0) rfl (by decide) rfl rfl (fun p3 => ?_) (fun p3 => ?_)
        · have h := it_pos h p3
          exact t_X5_hit_40 xs e q X hX _ _ ih hK46 x1 x2 x3 q2.2 h
        · have h := it_neg h p3
          refine r_iload_n hX (p2 := 39) rfl rfl rfl ?_
          exact r_iretI hX rfl rfl (eI_ok h)
noncomputable def f_X5_hit (a1 : UInt32) (a2 : UInt32) (s : pS) : Option (Int × pS) := f_X5_hit_2 (fun s1 => some ((-1), s1)) 400 a1 a2 0 s
set_option maxRecDepth 10000 in
theorem c_X5_hit (xs : Nat → Int) (e : Nat) (a1 : UInt32) (a2 : UInt32) (s : pS) (q : Int × pS) (h : f_X5_hit a1 a2 s = some q) : pCall pm_tx 1001 xs pm_P (e + 1 + 1) 88 [vR (cc 5 0), vF a1, vF a2] (pW s) (.inl (some (vI q.1))) (pW q.2) := by
  refine pCall_of mX5_hit rfl rfl (fun X hX => ?_)
  show X [some (vR (cc 5 0)), some (vF a1), some (vF a2), none] [] 0 (pW s)
  replace hX : pm_clo 1001 xs (pCall pm_tx 1001 xs pm_P (e + 1)) (e + 1) mX5_hit (eI q) X := hX
  unfold f_X5_hit at h
  refine r_iconst hX (p2 := 1) rfl rfl rfl ?_
  refine r_istore_n hX (p2 := 2) (ls2 := [some (vR (cc 5 0)), some (vF a1), some (vF a2), some (vI 0)]) rfl rfl rfl rfl ?_
  refine t_X5_hit_2 xs e q X hX _ (fun d0 d1 d2 d3 s1 h => ?_) 400 a1 a2 0 s h
  refine r_iconst hX (p2 := 47) rfl rfl rfl ?_
  exact r_iretI hX rfl rfl (eI_ok h)
noncomputable def f_X6_covers_48 (y0 : Int) (s : pS) : Option (Int × pS) := ck (y0 = 0 ∨ y0 = 1) (some (y0, s))
set_option maxRecDepth 10000 in
theorem t_X6_covers_48 (xs : Nat → Int) (e : Nat) (q : Int × pS) (X : List (Option pV) → List pV → Nat → pH → Prop) (hX : pm_clo 1001 xs (pCall pm_tx 1001 xs pm_P (e + 1)) (e + 1) mX6_covers (eI q) X) : ∀  (y0 : Int) (d0 : Option pV) (d1 : Option pV) (d2 : Option pV) (d3 : Option pV) (d4 : Option pV) (s : pS), f_X6_covers_48 y0 s = some q → X [d0, d1, d2, d3, d4] [vI y0] 48 (pW s) := by
  intro y0 d0 d1 d2 d3 d4 s h
  unfold f_X6_covers_48 at h
  obtain ⟨c1, h⟩ := ck_some h
  exact r_iretZ hX rfl rfl c1 (eI_ok h)
noncomputable def f_X6_covers_47 (s : pS) : Option (Int × pS) := f_X6_covers_48 0 s
set_option maxRecDepth 10000 in
theorem t_X6_covers_47 (xs : Nat → Int) (e : Nat) (q : Int × pS) (X : List (Option pV) → List pV → Nat → pH → Prop) (hX : pm_clo 1001 xs (pCall pm_tx 1001 xs pm_P (e + 1)) (e + 1) mX6_covers (eI q) X) : ∀  (d0 : Option pV) (d1 : Option pV) (d2 : Option pV) (d3 : Option pV) (d4 : Option pV) (s : pS), f_X6_covers_47 s = some q → X [d0, d1, d2, d3, d4] [] 47 (pW s) := by
  intro d0 d1 d2 d3 d4 s h
  unfold f_X6_covers_47 at h
  refine r_iconst hX (p2 := 48) rfl rfl rfl ?_
  exact t_X6_covers_48 xs e q X hX 0 d0 d1 d2 d3 d4 s h
noncomputable def f_X6_covers (a1 : Int) (a2 : Int) (a3 : UInt32) (s : pS) : Option (Int × pS) := ck (inR (12 * a2)) ((f_X6_firstOf a2 a1 s).bind (fun q2 => ck (inR ((12 * a2) + q2.1)) (ck (0 ≤ ((12 * a2) + q2.1) ∧ ((12 * a2) + q2.1) < 24) (bs ((sB q2.2 637 0 ((12 * a2) + q2.1).toNat)) (fun v5 => (if (pm_fc .l a3 v5) < 0 then f_X6_covers_47 q2.2 else ck (inR (2 * a1)) (ck (inR ((2 * a1) + a2)) (ck (0 ≤ ((2 * a1) + a2) ∧ ((2 * a1) + a2) < 20) (ck (vf_n32 (FP.fadd v5 (sB q2.2 632 0 ((2 * a1) + a2).toNat))) ((if 0 ≤ (pm_fc .g a3 (FP.fadd v5 (sB q2.2 632 0 ((2 * a1) + a2).toNat))) then f_X6_covers_47 q2.2 else f_X6_covers_48 1 q2.2)))))))))))
set_option maxRecDepth 10000 in
theorem c_X6_covers (xs : Nat → Int) (e : Nat) (a1 : Int) (a2 : Int) (a3 : UInt32) (s : pS) (q : Int × pS) (h : f_X6_covers a1 a2 a3 s = some q) : pCall pm_tx 1001 xs pm_P (e + 1 + 1) 163 [vR (cc 6 0), vI a1, vI a2, vF a3] (pW s) (.inl (some (vI q.1))) (pW q.2) := by
  refine pCall_of mX6_covers rfl rfl (fun X hX => ?_)
  show X [some (vR (cc 6 0)), some (vI a1), some (vI a2), some (vF a3), none] [] 0 (pW s)
  replace hX : pm_clo 1001 xs (pCall pm_tx 1001 xs pm_P (e + 1)) (e + 1) mX6_covers (eI q) X := hX
  unfold f_X6_covers at h
  refine r_aload_n hX (p2 := 1) rfl rfl rfl ⟨_, Or.inl rfl⟩ ?_
  refine r_gf hX (p2 := 4) (v := vR (ca 637 0)) rfl rfl (hc6 0 (by decide)) rfl rfl rfl ?_
  refine r_bipush hX (p2 := 6) rfl rfl rfl ?_
  refine r_iload_n hX (p2 := 7) rfl rfl rfl ?_
  obtain ⟨c1, h⟩ := ck_some h
  refine r_imul hX (p2 := 8) rfl rfl c1 ?_
  refine r_aload_n hX (p2 := 9) rfl rfl rfl ⟨_, Or.inl rfl⟩ ?_
  refine r_iload_n hX (p2 := 10) rfl rfl rfl ?_
  refine r_iload_n hX (p2 := 11) rfl rfl rfl ?_
  obtain ⟨q2, hq2, h⟩ := bd_some h
  refine r_callv hX (p2 := 14) (v := some (vI q2.1)) (as := [vI a2, vI a1]) (r := [vI (12 * a2), vR (ca 637 0)]) (st2 := [vI q2.1, vI (12 * a2), vR (ca 637 0)]) rfl rfl rfl rfl rfl (hc6 0 (by decide)) rfl rfl (c_X6_firstOf xs e a2 a1 s q2 hq2) ?_
  obtain ⟨c3, h⟩ := ck_some h
  refine r_iadd hX (p2 := 15) rfl rfl c3 ?_
  obtain ⟨c4, h⟩ := ck_some h
  refine r_faload hX (p2 := 16) (j := ((12 * a2) + q2.1).toNat) rfl rfl (ha637 0 (by decide)) rfl rfl c4 rfl ?_
  obtain ⟨v5, hv5, h⟩ := bs_some h
  refine r_fstoreE hX (p2 := 18) (ls2 := [some (vR (cc 6 0)), some (vI a1), some (vI a2), some (vF a3), some (vF v5)]) rfl rfl hv5 rfl rfl ?_
  refine r_fload_n hX (p2 := 19) rfl rfl rfl ?_
  refine r_fload hX (p2 := 21) rfl rfl rfl ?_
  refine r_fcmp hX (p2 := 22) rfl rfl ?_
  refine r_if hX (p2 := 47) (p3 := 25) (P := (pm_fc .l a3 v5) < 0) rfl (by decide) rfl rfl (fun p11 => ?_) (fun p11 => ?_)
  · have h := it_pos h p11
    exact t_X6_covers_47 xs e q X hX (some (vR (cc 6 0))) (some (vI a1)) (some (vI a2)) (some (vF a3)) (some (vF v5)) q2.2 h
  · have h := it_neg h p11
    refine r_fload_n hX (p2 := 26) rfl rfl rfl ?_
    refine r_fload hX (p2 := 28) rfl rfl rfl ?_
    refine r_aload_n hX (p2 := 29) rfl rfl rfl ⟨_, Or.inl rfl⟩ ?_
    refine r_gf hX (p2 := 32) (v := vR (ca 632 0)) rfl rfl (hc6 0 (by decide)) rfl rfl rfl ?_
    refine r_iconst hX (p2 := 33) rfl rfl rfl ?_
    refine r_iload_n hX (p2 := 34) rfl rfl rfl ?_
    obtain ⟨c6, h⟩ := ck_some h
    refine r_imul hX (p2 := 35) rfl rfl c6 ?_
    refine r_iload_n hX (p2 := 36) rfl rfl rfl ?_
    obtain ⟨c7, h⟩ := ck_some h
    refine r_iadd hX (p2 := 37) rfl rfl c7 ?_
    obtain ⟨c8, h⟩ := ck_some h
    refine r_faload hX (p2 := 38) (j := ((2 * a1) + a2).toNat) rfl rfl (ha632 0 (by decide)) rfl rfl c8 rfl ?_
    obtain ⟨c9, h⟩ := ck_some h
    refine r_fadd hX (p2 := 39) rfl rfl c9 ?_
    refine r_fcmp hX (p2 := 40) rfl rfl ?_
    refine r_if hX (p2 := 47) (p3 := 43) (P := 0 ≤ (pm_fc .g a3 (FP.fadd v5 (sB q2.2 632 0 ((2 * a1) + a2).toNat)))) rfl (by decide) rfl rfl (fun p10 => ?_) (fun p10 => ?_)
    · have h := it_pos h p10
      exact t_X6_covers_47 xs e q X hX (some (vR (cc 6 0))) (some (vI a1)) (some (vI a2)) (some (vF a3)) (some (vF v5)) q2.2 h
    · have h := it_neg h p10
      refine r_iconst hX (p2 := 44) rfl rfl rfl ?_
      refine r_goto hX (p2 := 48) rfl (by decide) ?_
      exact t_X6_covers_48 xs e q X hX 1 (some (vR (cc 6 0))) (some (vI a1)) (some (vI a2)) (some (vF a3)) (some (vF v5)) q2.2 h
noncomputable def f_X6_hit_48 (K7 : UInt32 → UInt32 → Int → pS → Option (Int × pS)) (K54 : pS → Option (Int × pS)) (x1 : UInt32) (x2 : UInt32) (x3 : Int) (s : pS) : Option (Int × pS) := ck (inR (x3 + 1)) (K7 x1 x2 (x3 + 1) s)
set_option maxRecDepth 10000 in
theorem t_X6_hit_48 (xs : Nat → Int) (e : Nat) (q : Int × pS) (X : List (Option pV) → List pV → Nat → pH → Prop) (hX : pm_clo 1001 xs (pCall pm_tx 1001 xs pm_P (e + 2)) (e + 2) mX6_hit (eI q) X) (K7 : UInt32 → UInt32 → Int → pS → Option (Int × pS)) (K54 : pS → Option (Int × pS)) (hK7 : ∀ (x1 : UInt32) (x2 : UInt32) (x3 : Int) (s : pS), K7 x1 x2 x3 s = some q → X [some (vR (cc 6 0)), some (vF x1), some (vF x2), some (vI x3)] [] 7 (pW s)) (hK54 : ∀ (d0 : Option pV) (d1 : Option pV) (d2 : Option pV) (d3 : Option pV) (s : pS), K54 s = some q → X [d0, d1, d2, d3] [] 54 (pW s)) : ∀  (x1 : UInt32) (x2 : UInt32) (x3 : Int) (s : pS), f_X6_hit_48 K7 K54 x1 x2 x3 s = some q → X [some (vR (cc 6 0)), some (vF x1), some (vF x2), some (vI x3)] [] 48 (pW s) := by
  intro x1 x2 x3 s h
  unfold f_X6_hit_48 at h
  obtain ⟨c1, h⟩ := ck_some h
  refine r_iinc hX (p2 := 51) (ls2 := [some (vR (cc 6 0)), some (vF x1), some (vF x2), some (vI (x3 + 1))]) rfl rfl rfl rfl c1 rfl ?_
  refine r_goto hX (p2 := 7) rfl (by decide) ?_
  exact hK7 x1 x2 (x3 + 1) s h
noncomputable def f_X6_hit_7 (K54 : pS → Option (Int × pS)) : Nat → UInt32 → UInt32 → Int → pS → Option (Int × pS)
  | 0, _, _, _, _ => none
  | n + 1, x1, x2, x3, s => (if (sI s 630 0) ≤ x3 then K54 s else ck (inR (2 * x3)) (ck (0 ≤ (2 * x3) ∧ (2 * x3) < 20) ((if (sA s 631 0 (2 * x3).toNat) ≤ 0 then f_X6_hit_48 (f_X6_hit_7 K54 n) K54 x1 x2 x3 s else (f_X6_covers x3 0 x1 s).bind (fun q3 => (if q3.1 = 0 then f_X6_hit_48 (f_X6_hit_7 K54 n) K54 x1 x2 x3 q3.2 else (f_X6_covers x3 1 x2 q3.2).bind (fun q4 => (if q4.1 = 0 then f_X6_hit_48 (f_X6_hit_7 K54 n) K54 x1 x2 x3 q4.2 else some (x3, q4.2)))))))))
set_option maxRecDepth 10000 in
theorem t_X6_hit_7 (xs : Nat → Int) (e : Nat) (q : Int × pS) (X : List (Option pV) → List pV → Nat → pH → Prop) (hX : pm_clo 1001 xs (pCall pm_tx 1001 xs pm_P (e + 2)) (e + 2) mX6_hit (eI q) X) (K54 : pS → Option (Int × pS)) (hK54 : ∀ (d0 : Option pV) (d1 : Option pV) (d2 : Option pV) (d3 : Option pV) (s : pS), K54 s = some q → X [d0, d1, d2, d3] [] 54 (pW s)) : ∀ (n : Nat) (x1 : UInt32) (x2 : UInt32) (x3 : Int) (s : pS), f_X6_hit_7 K54 n x1 x2 x3 s = some q → X [some (vR (cc 6 0)), some (vF x1), some (vF x2), some (vI x3)] [] 7 (pW s) := by
  intro n
  induction n with
  | zero =>
    intro x1 x2 x3 s h
    rw [f_X6_hit_7] at h
    cases h
  | succ n ih =>
    intro x1 x2 x3 s h
    rw [f_X6_hit_7] at h
    refine r_iload_n hX (p2 := 8) rfl rfl rfl ?_
    refine r_aload_n hX (p2 := 9) rfl rfl rfl ⟨_, Or.inl rfl⟩ ?_
    refine r_gf hX (p2 := 12) (v := vI (sI s 630 0)) rfl rfl (hc6 0 (by decide)) rfl rfl rfl ?_
    refine r_icmp hX (p2 := 54) (p3 := 15) (P := (sI s 630 0) ≤ x3) rfl (by decide) rfl rfl (fun p8 => ?_) (fun p8 => ?_)
    · have h := it_pos h p8
      exact hK54 (some (vR (cc 6 0))) (some (vF x1)) (some (vF x2)) (some (vI x3)) s h
    · have h := it_neg h p8
      refine r_aload_n hX (p2 := 16) rfl rfl rfl ⟨_, Or.inl rfl⟩ ?_
      refine r_gf hX (p2 := 19) (v := vR (ca 631 0)) rfl rfl (hc6 0 (by decide)) rfl rfl rfl ?_
      refine r_iconst hX (p2 := 20) rfl rfl rfl ?_
      refine r_iload_n hX (p2 := 21) rfl rfl rfl ?_
      obtain ⟨c1, h⟩ := ck_some h
      refine r_imul hX (p2 := 22) rfl rfl c1 ?_
      obtain ⟨c2, h⟩ := ck_some h
      refine r_iaload hX (p2 := 23) (j := (2 * x3).toNat) rfl rfl (ha631 0 (by decide)) rfl rfl c2 rfl ?_
      refine r_if hX (p2 := 48) (p3 := 26) (P := (sA s 631 0 (2 * x3).toNat) ≤ 0) rfl (by decide) rfl rfl (fun p7 => ?_) (fun p7 => ?_)
      · have h := it_pos h p7
        exact t_X6_hit_48 xs e q X hX _ _ ih hK54 x1 x2 x3 s h
      · have h := it_neg h p7
        refine r_aload_n hX (p2 := 27) rfl rfl rfl ⟨_, Or.inl rfl⟩ ?_
        refine r_iload_n hX (p2 := 28) rfl rfl rfl ?_
        refine r_iconst hX (p2 := 29) rfl rfl rfl ?_
        refine r_fload_n hX (p2 := 30) rfl rfl rfl ?_
        obtain ⟨q3, hq3, h⟩ := bd_some h
        refine r_callv hX (p2 := 33) (v := some (vI q3.1)) (as := [vI x3, vI 0, vF x1]) (r := []) (st2 := [vI q3.1]) rfl rfl rfl rfl rfl (hc6 0 (by decide)) rfl rfl (c_X6_covers xs e x3 0 x1 s q3 hq3) ?_
        refine r_if hX (p2 := 48) (p3 := 36) (P := q3.1 = 0) rfl (by decide) rfl rfl (fun p6 => ?_) (fun p6 => ?_)
        · have h := it_pos h p6
          exact t_X6_hit_48 xs e q X hX _ _ ih hK54 x1 x2 x3 q3.2 h
        · have h := it_neg h p6
          refine r_aload_n hX (p2 := 37) rfl rfl rfl ⟨_, Or.inl rfl⟩ ?_
          refine r_iload_n hX (p2 := 38) rfl rfl rfl ?_
          refine r_iconst hX (p2 := 39) rfl rfl rfl ?_
          refine r_fload_n hX (p2 := 40) rfl rfl rfl ?_
          obtain ⟨q4, hq4, h⟩ := bd_some h
          refine r_callv hX (p2 := 43) (v := some (vI q4.1)) (as := [vI x3, vI 1, vF x2]) (r := []) (st2 := [vI q4.1]) rfl rfl rfl rfl rfl (hc6 0 (by decide)) rfl rfl (c_X6_covers xs e x3 1 x2 q3.2 q4 hq4) ?_
          refine r_if hX (p2 := 48) (p3 := 46) (P := q4.1 = 0) rfl (by decide) rfl rfl (fun p5 => ?_) (fun p5 => ?_)
          · have h := it_pos h p5
            exact t_X6_hit_48 xs e q X hX _ _ ih hK54 x1 x2 x3 q4.2 h
          · have h := it_neg h p5
            refine r_iload_n hX (p2 := 47) rfl rfl rfl ?_
            exact r_iretI hX rfl rfl (eI_ok h)
noncomputable def f_X6_hit (a1 : UInt32) (a2 : UInt32) (s : pS) : Option (Int × pS) := bs (wI s 600 0 0) (fun s1 => f_X6_hit_7 (fun s2 => some ((-1), s2)) 400 a1 a2 0 s1)
set_option maxRecDepth 10000 in
theorem c_X6_hit (xs : Nat → Int) (e : Nat) (a1 : UInt32) (a2 : UInt32) (s : pS) (q : Int × pS) (h : f_X6_hit a1 a2 s = some q) : pCall pm_tx 1001 xs pm_P (e + 2 + 1) 164 [vR (cc 6 0), vF a1, vF a2] (pW s) (.inl (some (vI q.1))) (pW q.2) := by
  refine pCall_of mX6_hit rfl rfl (fun X hX => ?_)
  show X [some (vR (cc 6 0)), some (vF a1), some (vF a2), none] [] 0 (pW s)
  replace hX : pm_clo 1001 xs (pCall pm_tx 1001 xs pm_P (e + 2)) (e + 2) mX6_hit (eI q) X := hX
  unfold f_X6_hit at h
  refine r_aload_n hX (p2 := 1) rfl rfl rfl ⟨_, Or.inl rfl⟩ ?_
  refine r_iconst hX (p2 := 2) rfl rfl rfl ?_
  obtain ⟨s1, hs1, h⟩ := bs_some h
  refine r_pfI hX (p2 := 5) rfl rfl (hc6 0 (by decide)) rfl rfl rfl rfl rfl rfl hs1 ?_
  refine r_iconst hX (p2 := 6) rfl rfl rfl ?_
  refine r_istore_n hX (p2 := 7) (ls2 := [some (vR (cc 6 0)), some (vF a1), some (vF a2), some (vI 0)]) rfl rfl rfl rfl ?_
  refine t_X6_hit_7 xs e q X hX _ (fun d0 d1 d2 d3 s2 h => ?_) 400 a1 a2 0 s1 h
  refine r_iconst hX (p2 := 55) rfl rfl rfl ?_
  exact r_iretI hX rfl rfl (eI_ok h)
noncomputable def f_X5_free_20 (y0 : UInt32) (s : pS) : Option (UInt32 × pS) := some (y0, s)
set_option maxRecDepth 10000 in
theorem t_X5_free_20 (xs : Nat → Int) (e : Nat) (q : UInt32 × pS) (X : List (Option pV) → List pV → Nat → pH → Prop) (hX : pm_clo 1001 xs (pCall pm_tx 1001 xs pm_P (e + 1)) (e + 1) mX5_free (eF q) X) : ∀  (y0 : UInt32) (d0 : Option pV) (d1 : Option pV) (s : pS), f_X5_free_20 y0 s = some q → X [d0, d1] [vF y0] 20 (pW s) := by
  intro y0 d0 d1 s h
  unfold f_X5_free_20 at h
  exact r_freturn hX rfl rfl (eF_ok h)
noncomputable def f_X5_free (a1 : Int) (s : pS) : Option (UInt32 × pS) := (f_X5_isAxis a1 s).bind (fun q1 => (if q1.1 = 0 then f_X5_free_20 FP.fconst0 q1.2 else ck (0 ≤ a1 ∧ a1 < 2) (f_X5_free_20 (sF q1.2 13 a1.toNat) q1.2)))
set_option maxRecDepth 10000 in
theorem c_X5_free (xs : Nat → Int) (e : Nat) (a1 : Int) (s : pS) (q : UInt32 × pS) (h : f_X5_free a1 s = some q) : pCall pm_tx 1001 xs pm_P (e + 1 + 1) 89 [vR (cc 5 0), vI a1] (pW s) (.inl (some (vF q.1))) (pW q.2) := by
  refine pCall_of mX5_free rfl rfl (fun X hX => ?_)
  show X [some (vR (cc 5 0)), some (vI a1)] [] 0 (pW s)
  replace hX : pm_clo 1001 xs (pCall pm_tx 1001 xs pm_P (e + 1)) (e + 1) mX5_free (eF q) X := hX
  unfold f_X5_free at h
  refine r_iload_n hX (p2 := 1) rfl rfl rfl ?_
  obtain ⟨q1, hq1, h⟩ := bd_some h
  refine r_calls0 hX (p2 := 4) (v := some (vI q1.1)) (as := [vI a1]) (r := []) (st2 := [vI q1.1]) rfl rfl rfl rfl rfl rfl (c_X5_isAxis xs e a1 s q1 hq1) ?_
  refine r_if hX (p2 := 19) (p3 := 7) (P := q1.1 = 0) rfl (by decide) rfl rfl (fun p3 => ?_) (fun p3 => ?_)
  · have h := it_pos h p3
    refine r_fconst0 hX (p2 := 20) rfl rfl ?_
    exact t_X5_free_20 xs e q X hX FP.fconst0 (some (vR (cc 5 0))) (some (vI a1)) q1.2 h
  · have h := it_neg h p3
    refine r_aload_n hX (p2 := 8) rfl rfl rfl ⟨_, Or.inl rfl⟩ ?_
    refine r_gf hX (p2 := 11) (v := vR (cr 501)) rfl rfl (hc5 0 (by decide)) rfl rfl rfl ?_
    refine r_iload_n hX (p2 := 12) rfl rfl rfl ?_
    obtain ⟨c2, h⟩ := ck_some h
    refine r_aaload hX (p2 := 13) rfl rfl hr501 rfl c2 (y := cc 0 a1.toNat) rfl ?_
    refine r_gf hX (p2 := 16) (v := vF (sF q1.2 13 a1.toNat)) rfl rfl (hc0 a1.toNat (tn_lt c2)) rfl rfl rfl ?_
    refine r_goto hX (p2 := 20) rfl (by decide) ?_
    exact t_X5_free_20 xs e q X hX (sF q1.2 13 a1.toNat) (some (vR (cc 5 0))) (some (vI a1)) q1.2 h
noncomputable def f_X6_free_29 (y0 : UInt32) (s : pS) : Option (UInt32 × pS) := some (y0, s)
set_option maxRecDepth 10000 in
theorem t_X6_free_29 (xs : Nat → Int) (e : Nat) (q : UInt32 × pS) (X : List (Option pV) → List pV → Nat → pH → Prop) (hX : pm_clo 1001 xs (pCall pm_tx 1001 xs pm_P (e + 1)) (e + 1) mX6_free (eF q) X) : ∀  (y0 : UInt32) (d0 : Option pV) (d1 : Option pV) (s : pS), f_X6_free_29 y0 s = some q → X [d0, d1] [vF y0] 29 (pW s) := by
  intro y0 d0 d1 s h
  unfold f_X6_free_29 at h
  exact r_freturn hX rfl rfl (eF_ok h)
noncomputable def f_X6_free_19 (s : pS) : Option (UInt32 × pS) := f_X6_free_29 FP.fconst0 s
set_option maxRecDepth 10000 in
theorem t_X6_free_19 (xs : Nat → Int) (e : Nat) (q : UInt32 × pS) (X : List (Option pV) → List pV → Nat → pH → Prop) (hX : pm_clo 1001 xs (pCall pm_tx 1001 xs pm_P (e + 1)) (e + 1) mX6_free (eF q) X) : ∀  (d0 : Option pV) (d1 : Option pV) (s : pS), f_X6_free_19 s = some q → X [d0, d1] [] 19 (pW s) := by
  intro d0 d1 s h
  unfold f_X6_free_19 at h
  refine r_fconst0 hX (p2 := 20) rfl rfl ?_
  refine r_goto hX (p2 := 29) rfl (by decide) ?_
  exact t_X6_free_29 xs e q X hX FP.fconst0 d0 d1 s h
noncomputable def f_X6_free (a1 : Int) (s : pS) : Option (UInt32 × pS) := bs (wI s 600 0 0) (fun s1 => (f_X6_isAxis a1 s1).bind (fun q2 => (if q2.1 = 0 then f_X6_free_19 q2.2 else (if (sI q2.2 629 0) ≠ 0 then ck (0 ≤ a1 ∧ a1 < 2) (f_X6_free_29 (sB q2.2 638 0 a1.toNat) q2.2) else f_X6_free_19 q2.2))))
set_option maxRecDepth 10000 in
theorem c_X6_free (xs : Nat → Int) (e : Nat) (a1 : Int) (s : pS) (q : UInt32 × pS) (h : f_X6_free a1 s = some q) : pCall pm_tx 1001 xs pm_P (e + 1 + 1) 165 [vR (cc 6 0), vI a1] (pW s) (.inl (some (vF q.1))) (pW q.2) := by
  refine pCall_of mX6_free rfl rfl (fun X hX => ?_)
  show X [some (vR (cc 6 0)), some (vI a1)] [] 0 (pW s)
  replace hX : pm_clo 1001 xs (pCall pm_tx 1001 xs pm_P (e + 1)) (e + 1) mX6_free (eF q) X := hX
  unfold f_X6_free at h
  refine r_aload_n hX (p2 := 1) rfl rfl rfl ⟨_, Or.inl rfl⟩ ?_
  refine r_iconst hX (p2 := 2) rfl rfl rfl ?_
  obtain ⟨s1, hs1, h⟩ := bs_some h
  refine r_pfI hX (p2 := 5) rfl rfl (hc6 0 (by decide)) rfl rfl rfl rfl rfl rfl hs1 ?_
  refine r_iload_n hX (p2 := 6) rfl rfl rfl ?_
  obtain ⟨q2, hq2, h⟩ := bd_some h
  refine r_calls0 hX (p2 := 9) (v := some (vI q2.1)) (as := [vI a1]) (r := []) (st2 := [vI q2.1]) rfl rfl rfl rfl rfl rfl (c_X6_isAxis xs e a1 s1 q2 hq2) ?_
  refine r_if hX (p2 := 19) (p3 := 12) (P := q2.1 = 0) rfl (by decide) rfl rfl (fun p5 => ?_) (fun p5 => ?_)
  · have h := it_pos h p5
    exact t_X6_free_19 xs e q X hX (some (vR (cc 6 0))) (some (vI a1)) q2.2 h
  · have h := it_neg h p5
    refine r_aload_n hX (p2 := 13) rfl rfl rfl ⟨_, Or.inl rfl⟩ ?_
    refine r_gf hX (p2 := 16) (v := vI (sI q2.2 629 0)) rfl rfl (hc6 0 (by decide)) rfl rfl rfl ?_
    refine r_if hX (p2 := 23) (p3 := 19) (P := (sI q2.2 629 0) ≠ 0) rfl (by decide) rfl rfl (fun p4 => ?_) (fun p4 => ?_)
    · have h := it_pos h p4
      refine r_aload_n hX (p2 := 24) rfl rfl rfl ⟨_, Or.inl rfl⟩ ?_
      refine r_gf hX (p2 := 27) (v := vR (ca 638 0)) rfl rfl (hc6 0 (by decide)) rfl rfl rfl ?_
      refine r_iload_n hX (p2 := 28) rfl rfl rfl ?_
      obtain ⟨c3, h⟩ := ck_some h
      refine r_faload hX (p2 := 29) (j := a1.toNat) rfl rfl (ha638 0 (by decide)) rfl rfl c3 rfl ?_
      exact t_X6_free_29 xs e q X hX (sB q2.2 638 0 a1.toNat) (some (vR (cc 6 0))) (some (vI a1)) q2.2 h
    · have h := it_neg h p4
      exact t_X6_free_19 xs e q X hX (some (vR (cc 6 0))) (some (vI a1)) q2.2 h
noncomputable def f_X5_flow (a1 : Int) (a2 : Int) (s : pS) : Option (pS) := ck (a1 = 0 ∨ a1 = 1) (bs (wI s 506 0 a1) (fun s2 => ck (a2 = 0 ∨ a2 = 1) (bs (wI s2 507 0 a2) (fun s4 => some s4))))
set_option maxRecDepth 10000 in
theorem c_X5_flow (xs : Nat → Int) (e : Nat) (a1 : Int) (a2 : Int) (s : pS) (q : pS) (h : f_X5_flow a1 a2 s = some q) : pCall pm_tx 1001 xs pm_P (e + 1) 79 [vR (cc 5 0), vI a1, vI a2] (pW s) (.inl none) (pW q) := by
  refine pCall_of mX5_flow rfl rfl (fun X hX => ?_)
  show X [some (vR (cc 5 0)), some (vI a1), some (vI a2)] [] 0 (pW s)
  replace hX : pm_clo 1001 xs (pCall pm_tx 1001 xs pm_P e) e mX5_flow (eU q) X := hX
  unfold f_X5_flow at h
  refine r_aload_n hX (p2 := 1) rfl rfl rfl ⟨_, Or.inl rfl⟩ ?_
  refine r_iload_n hX (p2 := 2) rfl rfl rfl ?_
  obtain ⟨c1, h⟩ := ck_some h
  obtain ⟨s2, hs2, h⟩ := bs_some h
  refine r_pfZ hX (p2 := 5) rfl rfl (hc5 0 (by decide)) rfl rfl rfl rfl rfl rfl hs2 c1 ?_
  refine r_aload_n hX (p2 := 6) rfl rfl rfl ⟨_, Or.inl rfl⟩ ?_
  refine r_iload_n hX (p2 := 7) rfl rfl rfl ?_
  obtain ⟨c3, h⟩ := ck_some h
  obtain ⟨s4, hs4, h⟩ := bs_some h
  refine r_pfZ hX (p2 := 10) rfl rfl (hc5 0 (by decide)) rfl rfl rfl rfl rfl rfl hs4 c3 ?_
  exact r_return hX rfl rfl (eU_ok h)
noncomputable def f_X6_flow_15 (x2 : Int) (y1 : Int) (s : pS) : Option (pS) := bs (wI s 624 0 y1) (fun s1 => ck (x2 = 0 ∨ x2 = 1) (bs (wI s1 625 0 x2) (fun s3 => some s3)))
set_option maxRecDepth 10000 in
theorem t_X6_flow_15 (xs : Nat → Int) (e : Nat) (q : pS) (X : List (Option pV) → List pV → Nat → pH → Prop) (hX : pm_clo 1001 xs (pCall pm_tx 1001 xs pm_P e) e mX6_flow (eU q) X) : ∀  (x2 : Int) (y1 : Int) (d1 : Option pV) (s : pS), f_X6_flow_15 x2 y1 s = some q → X [some (vR (cc 6 0)), d1, some (vI x2)] [vI y1, vR (cc 6 0)] 15 (pW s) := by
  intro x2 y1 d1 s h
  unfold f_X6_flow_15 at h
  obtain ⟨s1, hs1, h⟩ := bs_some h
  refine r_pfI hX (p2 := 18) rfl rfl (hc6 0 (by decide)) rfl rfl rfl rfl rfl rfl hs1 ?_
  refine r_aload_n hX (p2 := 19) rfl rfl rfl ⟨_, Or.inl rfl⟩ ?_
  refine r_iload_n hX (p2 := 20) rfl rfl rfl ?_
  obtain ⟨c2, h⟩ := ck_some h
  obtain ⟨s3, hs3, h⟩ := bs_some h
  refine r_pfZ hX (p2 := 23) rfl rfl (hc6 0 (by decide)) rfl rfl rfl rfl rfl rfl hs3 c2 ?_
  exact r_return hX rfl rfl (eU_ok h)
noncomputable def f_X6_flow (a1 : Int) (a2 : Int) (s : pS) : Option (pS) := bs (wI s 600 0 0) (fun s1 => (if a1 = 0 then f_X6_flow_15 a2 1 s1 else f_X6_flow_15 a2 0 s1))
set_option maxRecDepth 10000 in
theorem c_X6_flow (xs : Nat → Int) (e : Nat) (a1 : Int) (a2 : Int) (s : pS) (q : pS) (h : f_X6_flow a1 a2 s = some q) : pCall pm_tx 1001 xs pm_P (e + 1) 127 [vR (cc 6 0), vI a1, vI a2] (pW s) (.inl none) (pW q) := by
  refine pCall_of mX6_flow rfl rfl (fun X hX => ?_)
  show X [some (vR (cc 6 0)), some (vI a1), some (vI a2)] [] 0 (pW s)
  replace hX : pm_clo 1001 xs (pCall pm_tx 1001 xs pm_P e) e mX6_flow (eU q) X := hX
  unfold f_X6_flow at h
  refine r_aload_n hX (p2 := 1) rfl rfl rfl ⟨_, Or.inl rfl⟩ ?_
  refine r_iconst hX (p2 := 2) rfl rfl rfl ?_
  obtain ⟨s1, hs1, h⟩ := bs_some h
  refine r_pfI hX (p2 := 5) rfl rfl (hc6 0 (by decide)) rfl rfl rfl rfl rfl rfl hs1 ?_
  refine r_aload_n hX (p2 := 6) rfl rfl rfl ⟨_, Or.inl rfl⟩ ?_
  refine r_iload_n hX (p2 := 7) rfl rfl rfl ?_
  refine r_if hX (p2 := 14) (p3 := 10) (P := a1 = 0) rfl (by decide) rfl rfl (fun p2 => ?_) (fun p2 => ?_)
  · have h := it_pos h p2
    refine r_iconst hX (p2 := 15) rfl rfl rfl ?_
    exact t_X6_flow_15 xs e q X hX a2 1 (some (vI a1)) s1 h
  · have h := it_neg h p2
    refine r_iconst hX (p2 := 11) rfl rfl rfl ?_
    refine r_goto hX (p2 := 15) rfl (by decide) ?_
    exact t_X6_flow_15 xs e q X hX a2 0 (some (vI a1)) s1 h
noncomputable def f_L_law_1011 (L : Nat) (xs : Nat → Int) (K28 : Int → pS → Option (Int × pS)) (K681 : pS → Option (Int × pS)) (K771 : pS → Option (Int × pS)) (K898 : pS → Option (Int × pS)) (K1006 : UInt64 → UInt64 → pS → Option (Int × pS)) (K1017 : pS → Option (Int × pS)) (x5 : Int) (s : pS) : Option (Int × pS) := ck (inR (x5 + 5)) (K28 (x5 + 5) s)
set_option maxRecDepth 10000 in
theorem t_L_law_1011 {L : Nat} {xs : Nat → Int} (hL : L ≤ 1000) (q : Int × pS) (X : List (Option pV) → List pV → Nat → pH → Prop) (hX : pm_clo L xs (pCall pm_tx 1001 xs pm_P 14) 14 mL_law (eI q) X) (K28 : Int → pS → Option (Int × pS)) (K681 : pS → Option (Int × pS)) (K771 : pS → Option (Int × pS)) (K898 : pS → Option (Int × pS)) (K1006 : UInt64 → UInt64 → pS → Option (Int × pS)) (K1017 : pS → Option (Int × pS)) (hK28 : ∀ (x5 : Int) (d6 : Option pV) (d7 : Option pV) (d8 : Option pV) (d9 : Option pV) (s : pS), K28 x5 s = some q → X [some (vX 2), some (vR (cc 5 0)), some (vR (cc 6 0)), some (vR (ca 700 0)), some (vR (ca 701 0)), some (vI x5), d6, d7, d8, d9] [] 28 (pW s)) (hK681 : ∀ (d0 : Option pV) (d1 : Option pV) (d2 : Option pV) (d3 : Option pV) (d4 : Option pV) (d5 : Option pV) (d6 : Option pV) (d7 : Option pV) (d8 : Option pV) (d9 : Option pV) (s : pS), K681 s = some q → X [d0, d1, d2, d3, d4, d5, d6, d7, d8, d9] [] 681 (pW s)) (hK771 : ∀ (d0 : Option pV) (d1 : Option pV) (d2 : Option pV) (d3 : Option pV) (d4 : Option pV) (d5 : Option pV) (d6 : Option pV) (d7 : Option pV) (d8 : Option pV) (d9 : Option pV) (s : pS), K771 s = some q → X [d0, d1, d2, d3, d4, d5, d6, d7, d8, d9] [] 771 (pW s)) (hK898 : ∀ (d0 : Option pV) (d1 : Option pV) (d2 : Option pV) (d3 : Option pV) (d4 : Option pV) (d5 : Option pV) (d6 : Option pV) (d7 : Option pV) (d8 : Option pV) (d9 : Option pV) (s : pS), K898 s = some q → X [d0, d1, d2, d3, d4, d5, d6, d7, d8, d9] [] 898 (pW s)) (hK1006 : ∀ (x6 : UInt64) (x8 : UInt64) (d0 : Option pV) (d1 : Option pV) (d2 : Option pV) (d3 : Option pV) (d4 : Option pV) (d5 : Option pV) (s : pS), K1006 x6 x8 s = some q → X [d0, d1, d2, d3, d4, d5, some (vD x6), none, some (vD x8), none] [] 1006 (pW s)) (hK1017 : ∀ (d0 : Option pV) (d1 : Option pV) (d2 : Option pV) (d3 : Option pV) (d4 : Option pV) (d5 : Option pV) (d6 : Option pV) (d7 : Option pV) (d8 : Option pV) (d9 : Option pV) (s : pS), K1017 s = some q → X [d0, d1, d2, d3, d4, d5, d6, d7, d8, d9] [] 1017 (pW s)) : ∀  (x5 : Int) (d6 : Option pV) (d7 : Option pV) (d8 : Option pV) (d9 : Option pV) (s : pS), f_L_law_1011 L xs K28 K681 K771 K898 K1006 K1017 x5 s = some q → X [some (vX 2), some (vR (cc 5 0)), some (vR (cc 6 0)), some (vR (ca 700 0)), some (vR (ca 701 0)), some (vI x5), d6, d7, d8, d9] [] 1011 (pW s) := by
  intro x5 d6 d7 d8 d9 s h
  unfold f_L_law_1011 at h
  obtain ⟨c1, h⟩ := ck_some h
  refine r_iinc hX (p2 := 1014) (ls2 := [some (vX 2), some (vR (cc 5 0)), some (vR (cc 6 0)), some (vR (ca 700 0)), some (vR (ca 701 0)), some (vI (x5 + 5)), d6, d7, d8, d9]) rfl rfl rfl rfl c1 rfl ?_
  refine r_goto hX (p2 := 28) rfl (by decide) ?_
  exact hK28 (x5 + 5) d6 d7 d8 d9 s h
noncomputable def f_L_law_204 (L : Nat) (xs : Nat → Int) (K28 : Int → pS → Option (Int × pS)) (K681 : pS → Option (Int × pS)) (K771 : pS → Option (Int × pS)) (K898 : pS → Option (Int × pS)) (K1006 : UInt64 → UInt64 → pS → Option (Int × pS)) (K1017 : pS → Option (Int × pS)) (x5 : Int) (s : pS) : Option (Int × pS) := f_L_law_1011 L xs K28 K681 K771 K898 K1006 K1017 x5 s
set_option maxRecDepth 10000 in
theorem t_L_law_204 {L : Nat} {xs : Nat → Int} (hL : L ≤ 1000) (q : Int × pS) (X : List (Option pV) → List pV → Nat → pH → Prop) (hX : pm_clo L xs (pCall pm_tx 1001 xs pm_P 14) 14 mL_law (eI q) X) (K28 : Int → pS → Option (Int × pS)) (K681 : pS → Option (Int × pS)) (K771 : pS → Option (Int × pS)) (K898 : pS → Option (Int × pS)) (K1006 : UInt64 → UInt64 → pS → Option (Int × pS)) (K1017 : pS → Option (Int × pS)) (hK28 : ∀ (x5 : Int) (d6 : Option pV) (d7 : Option pV) (d8 : Option pV) (d9 : Option pV) (s : pS), K28 x5 s = some q → X [some (vX 2), some (vR (cc 5 0)), some (vR (cc 6 0)), some (vR (ca 700 0)), some (vR (ca 701 0)), some (vI x5), d6, d7, d8, d9] [] 28 (pW s)) (hK681 : ∀ (d0 : Option pV) (d1 : Option pV) (d2 : Option pV) (d3 : Option pV) (d4 : Option pV) (d5 : Option pV) (d6 : Option pV) (d7 : Option pV) (d8 : Option pV) (d9 : Option pV) (s : pS), K681 s = some q → X [d0, d1, d2, d3, d4, d5, d6, d7, d8, d9] [] 681 (pW s)) (hK771 : ∀ (d0 : Option pV) (d1 : Option pV) (d2 : Option pV) (d3 : Option pV) (d4 : Option pV) (d5 : Option pV) (d6 : Option pV) (d7 : Option pV) (d8 : Option pV) (d9 : Option pV) (s : pS), K771 s = some q → X [d0, d1, d2, d3, d4, d5, d6, d7, d8, d9] [] 771 (pW s)) (hK898 : ∀ (d0 : Option pV) (d1 : Option pV) (d2 : Option pV) (d3 : Option pV) (d4 : Option pV) (d5 : Option pV) (d6 : Option pV) (d7 : Option pV) (d8 : Option pV) (d9 : Option pV) (s : pS), K898 s = some q → X [d0, d1, d2, d3, d4, d5, d6, d7, d8, d9] [] 898 (pW s)) (hK1006 : ∀ (x6 : UInt64) (x8 : UInt64) (d0 : Option pV) (d1 : Option pV) (d2 : Option pV) (d3 : Option pV) (d4 : Option pV) (d5 : Option pV) (s : pS), K1006 x6 x8 s = some q → X [d0, d1, d2, d3, d4, d5, some (vD x6), none, some (vD x8), none] [] 1006 (pW s)) (hK1017 : ∀ (d0 : Option pV) (d1 : Option pV) (d2 : Option pV) (d3 : Option pV) (d4 : Option pV) (d5 : Option pV) (d6 : Option pV) (d7 : Option pV) (d8 : Option pV) (d9 : Option pV) (s : pS), K1017 s = some q → X [d0, d1, d2, d3, d4, d5, d6, d7, d8, d9] [] 1017 (pW s)) : ∀  (x5 : Int) (d6 : Option pV) (d7 : Option pV) (d8 : Option pV) (d9 : Option pV) (s : pS), f_L_law_204 L xs K28 K681 K771 K898 K1006 K1017 x5 s = some q → X [some (vX 2), some (vR (cc 5 0)), some (vR (cc 6 0)), some (vR (ca 700 0)), some (vR (ca 701 0)), some (vI x5), d6, d7, d8, d9] [] 204 (pW s) := by
  intro x5 d6 d7 d8 d9 s h
  unfold f_L_law_204 at h
  refine r_goto hX (p2 := 1011) rfl (by decide) ?_
  exact t_L_law_1011 hL q X hX _ _ _ _ _ _ hK28 hK681 hK771 hK898 hK1006 hK1017 x5 d6 d7 d8 d9 s h
noncomputable def f_L_law_309 (L : Nat) (xs : Nat → Int) (K28 : Int → pS → Option (Int × pS)) (K681 : pS → Option (Int × pS)) (K771 : pS → Option (Int × pS)) (K898 : pS → Option (Int × pS)) (K1006 : UInt64 → UInt64 → pS → Option (Int × pS)) (K1017 : pS → Option (Int × pS)) (x5 : Int) (s : pS) : Option (Int × pS) := f_L_law_1011 L xs K28 K681 K771 K898 K1006 K1017 x5 s
set_option maxRecDepth 10000 in
theorem t_L_law_309 {L : Nat} {xs : Nat → Int} (hL : L ≤ 1000) (q : Int × pS) (X : List (Option pV) → List pV → Nat → pH → Prop) (hX : pm_clo L xs (pCall pm_tx 1001 xs pm_P 14) 14 mL_law (eI q) X) (K28 : Int → pS → Option (Int × pS)) (K681 : pS → Option (Int × pS)) (K771 : pS → Option (Int × pS)) (K898 : pS → Option (Int × pS)) (K1006 : UInt64 → UInt64 → pS → Option (Int × pS)) (K1017 : pS → Option (Int × pS)) (hK28 : ∀ (x5 : Int) (d6 : Option pV) (d7 : Option pV) (d8 : Option pV) (d9 : Option pV) (s : pS), K28 x5 s = some q → X [some (vX 2), some (vR (cc 5 0)), some (vR (cc 6 0)), some (vR (ca 700 0)), some (vR (ca 701 0)), some (vI x5), d6, d7, d8, d9] [] 28 (pW s)) (hK681 : ∀ (d0 : Option pV) (d1 : Option pV) (d2 : Option pV) (d3 : Option pV) (d4 : Option pV) (d5 : Option pV) (d6 : Option pV) (d7 : Option pV) (d8 : Option pV) (d9 : Option pV) (s : pS), K681 s = some q → X [d0, d1, d2, d3, d4, d5, d6, d7, d8, d9] [] 681 (pW s)) (hK771 : ∀ (d0 : Option pV) (d1 : Option pV) (d2 : Option pV) (d3 : Option pV) (d4 : Option pV) (d5 : Option pV) (d6 : Option pV) (d7 : Option pV) (d8 : Option pV) (d9 : Option pV) (s : pS), K771 s = some q → X [d0, d1, d2, d3, d4, d5, d6, d7, d8, d9] [] 771 (pW s)) (hK898 : ∀ (d0 : Option pV) (d1 : Option pV) (d2 : Option pV) (d3 : Option pV) (d4 : Option pV) (d5 : Option pV) (d6 : Option pV) (d7 : Option pV) (d8 : Option pV) (d9 : Option pV) (s : pS), K898 s = some q → X [d0, d1, d2, d3, d4, d5, d6, d7, d8, d9] [] 898 (pW s)) (hK1006 : ∀ (x6 : UInt64) (x8 : UInt64) (d0 : Option pV) (d1 : Option pV) (d2 : Option pV) (d3 : Option pV) (d4 : Option pV) (d5 : Option pV) (s : pS), K1006 x6 x8 s = some q → X [d0, d1, d2, d3, d4, d5, some (vD x6), none, some (vD x8), none] [] 1006 (pW s)) (hK1017 : ∀ (d0 : Option pV) (d1 : Option pV) (d2 : Option pV) (d3 : Option pV) (d4 : Option pV) (d5 : Option pV) (d6 : Option pV) (d7 : Option pV) (d8 : Option pV) (d9 : Option pV) (s : pS), K1017 s = some q → X [d0, d1, d2, d3, d4, d5, d6, d7, d8, d9] [] 1017 (pW s)) : ∀  (x5 : Int) (d6 : Option pV) (d7 : Option pV) (d8 : Option pV) (d9 : Option pV) (s : pS), f_L_law_309 L xs K28 K681 K771 K898 K1006 K1017 x5 s = some q → X [some (vX 2), some (vR (cc 5 0)), some (vR (cc 6 0)), some (vR (ca 700 0)), some (vR (ca 701 0)), some (vI x5), d6, d7, d8, d9] [] 309 (pW s) := by
  intro x5 d6 d7 d8 d9 s h
  unfold f_L_law_309 at h
  refine r_goto hX (p2 := 1011) rfl (by decide) ?_
  exact t_L_law_1011 hL q X hX _ _ _ _ _ _ hK28 hK681 hK771 hK898 hK1006 hK1017 x5 d6 d7 d8 d9 s h
noncomputable def f_L_law_450 (L : Nat) (xs : Nat → Int) (K28 : Int → pS → Option (Int × pS)) (K681 : pS → Option (Int × pS)) (K771 : pS → Option (Int × pS)) (K898 : pS → Option (Int × pS)) (K1006 : UInt64 → UInt64 → pS → Option (Int × pS)) (K1017 : pS → Option (Int × pS)) (x5 : Int) (y1 : Int) (y2 : Int) (s : pS) : Option (Int × pS) := (f_X6_flow y1 y2 s).bind (fun q1 => f_L_law_1011 L xs K28 K681 K771 K898 K1006 K1017 x5 q1)
set_option maxRecDepth 10000 in
theorem t_L_law_450 {L : Nat} {xs : Nat → Int} (hL : L ≤ 1000) (q : Int × pS) (X : List (Option pV) → List pV → Nat → pH → Prop) (hX : pm_clo L xs (pCall pm_tx 1001 xs pm_P 14) 14 mL_law (eI q) X) (K28 : Int → pS → Option (Int × pS)) (K681 : pS → Option (Int × pS)) (K771 : pS → Option (Int × pS)) (K898 : pS → Option (Int × pS)) (K1006 : UInt64 → UInt64 → pS → Option (Int × pS)) (K1017 : pS → Option (Int × pS)) (hK28 : ∀ (x5 : Int) (d6 : Option pV) (d7 : Option pV) (d8 : Option pV) (d9 : Option pV) (s : pS), K28 x5 s = some q → X [some (vX 2), some (vR (cc 5 0)), some (vR (cc 6 0)), some (vR (ca 700 0)), some (vR (ca 701 0)), some (vI x5), d6, d7, d8, d9] [] 28 (pW s)) (hK681 : ∀ (d0 : Option pV) (d1 : Option pV) (d2 : Option pV) (d3 : Option pV) (d4 : Option pV) (d5 : Option pV) (d6 : Option pV) (d7 : Option pV) (d8 : Option pV) (d9 : Option pV) (s : pS), K681 s = some q → X [d0, d1, d2, d3, d4, d5, d6, d7, d8, d9] [] 681 (pW s)) (hK771 : ∀ (d0 : Option pV) (d1 : Option pV) (d2 : Option pV) (d3 : Option pV) (d4 : Option pV) (d5 : Option pV) (d6 : Option pV) (d7 : Option pV) (d8 : Option pV) (d9 : Option pV) (s : pS), K771 s = some q → X [d0, d1, d2, d3, d4, d5, d6, d7, d8, d9] [] 771 (pW s)) (hK898 : ∀ (d0 : Option pV) (d1 : Option pV) (d2 : Option pV) (d3 : Option pV) (d4 : Option pV) (d5 : Option pV) (d6 : Option pV) (d7 : Option pV) (d8 : Option pV) (d9 : Option pV) (s : pS), K898 s = some q → X [d0, d1, d2, d3, d4, d5, d6, d7, d8, d9] [] 898 (pW s)) (hK1006 : ∀ (x6 : UInt64) (x8 : UInt64) (d0 : Option pV) (d1 : Option pV) (d2 : Option pV) (d3 : Option pV) (d4 : Option pV) (d5 : Option pV) (s : pS), K1006 x6 x8 s = some q → X [d0, d1, d2, d3, d4, d5, some (vD x6), none, some (vD x8), none] [] 1006 (pW s)) (hK1017 : ∀ (d0 : Option pV) (d1 : Option pV) (d2 : Option pV) (d3 : Option pV) (d4 : Option pV) (d5 : Option pV) (d6 : Option pV) (d7 : Option pV) (d8 : Option pV) (d9 : Option pV) (s : pS), K1017 s = some q → X [d0, d1, d2, d3, d4, d5, d6, d7, d8, d9] [] 1017 (pW s)) : ∀  (x5 : Int) (y1 : Int) (y2 : Int) (d6 : Option pV) (d7 : Option pV) (d8 : Option pV) (d9 : Option pV) (s : pS), f_L_law_450 L xs K28 K681 K771 K898 K1006 K1017 x5 y1 y2 s = some q → X [some (vX 2), some (vR (cc 5 0)), some (vR (cc 6 0)), some (vR (ca 700 0)), some (vR (ca 701 0)), some (vI x5), d6, d7, d8, d9] [vI y2, vI y1, vR (cc 6 0)] 450 (pW s) := by
  intro x5 y1 y2 d6 d7 d8 d9 s h
  unfold f_L_law_450 at h
  obtain ⟨q1, hq1, h⟩ := bd_some h
  refine r_callv hX (p2 := 453) (v := none) (as := [vI y1, vI y2]) (r := []) (st2 := []) rfl rfl rfl rfl rfl (hc6 0 (by decide)) rfl rfl (c_X6_flow xs 13 y1 y2 s q1 hq1) ?_
  refine r_goto hX (p2 := 1011) rfl (by decide) ?_
  exact t_L_law_1011 hL q X hX _ _ _ _ _ _ hK28 hK681 hK771 hK898 hK1006 hK1017 x5 d6 d7 d8 d9 q1 h
noncomputable def f_L_law_436 (L : Nat) (xs : Nat → Int) (K28 : Int → pS → Option (Int × pS)) (K681 : pS → Option (Int × pS)) (K771 : pS → Option (Int × pS)) (K898 : pS → Option (Int × pS)) (K1006 : UInt64 → UInt64 → pS → Option (Int × pS)) (K1017 : pS → Option (Int × pS)) (x5 : Int) (y1 : Int) (s : pS) : Option (Int × pS) := ck (inR (x5 + 2)) (ck (0 ≤ (x5 + 2) ∧ (x5 + 2) < (L : Int)) ((if (xs (x5 + 2).toNat) = 0 then f_L_law_450 L xs K28 K681 K771 K898 K1006 K1017 x5 y1 0 s else f_L_law_450 L xs K28 K681 K771 K898 K1006 K1017 x5 y1 1 s)))
set_option maxRecDepth 10000 in
theorem t_L_law_436 {L : Nat} {xs : Nat → Int} (hL : L ≤ 1000) (q : Int × pS) (X : List (Option pV) → List pV → Nat → pH → Prop) (hX : pm_clo L xs (pCall pm_tx 1001 xs pm_P 14) 14 mL_law (eI q) X) (K28 : Int → pS → Option (Int × pS)) (K681 : pS → Option (Int × pS)) (K771 : pS → Option (Int × pS)) (K898 : pS → Option (Int × pS)) (K1006 : UInt64 → UInt64 → pS → Option (Int × pS)) (K1017 : pS → Option (Int × pS)) (hK28 : ∀ (x5 : Int) (d6 : Option pV) (d7 : Option pV) (d8 : Option pV) (d9 : Option pV) (s : pS), K28 x5 s = some q → X [some (vX 2), some (vR (cc 5 0)), some (vR (cc 6 0)), some (vR (ca 700 0)), some (vR (ca 701 0)), some (vI x5), d6, d7, d8, d9] [] 28 (pW s)) (hK681 : ∀ (d0 : Option pV) (d1 : Option pV) (d2 : Option pV) (d3 : Option pV) (d4 : Option pV) (d5 : Option pV) (d6 : Option pV) (d7 : Option pV) (d8 : Option pV) (d9 : Option pV) (s : pS), K681 s = some q → X [d0, d1, d2, d3, d4, d5, d6, d7, d8, d9] [] 681 (pW s)) (hK771 : ∀ (d0 : Option pV) (d1 : Option pV) (d2 : Option pV) (d3 : Option pV) (d4 : Option pV) (d5 : Option pV) (d6 : Option pV) (d7 : Option pV) (d8 : Option pV) (d9 : Option pV) (s : pS), K771 s = some q → X [d0, d1, d2, d3, d4, d5, d6, d7, d8, d9] [] 771 (pW s)) (hK898 : ∀ (d0 : Option pV) (d1 : Option pV) (d2 : Option pV) (d3 : Option pV) (d4 : Option pV) (d5 : Option pV) (d6 : Option pV) (d7 : Option pV) (d8 : Option pV) (d9 : Option pV) (s : pS), K898 s = some q → X [d0, d1, d2, d3, d4, d5, d6, d7, d8, d9] [] 898 (pW s)) (hK1006 : ∀ (x6 : UInt64) (x8 : UInt64) (d0 : Option pV) (d1 : Option pV) (d2 : Option pV) (d3 : Option pV) (d4 : Option pV) (d5 : Option pV) (s : pS), K1006 x6 x8 s = some q → X [d0, d1, d2, d3, d4, d5, some (vD x6), none, some (vD x8), none] [] 1006 (pW s)) (hK1017 : ∀ (d0 : Option pV) (d1 : Option pV) (d2 : Option pV) (d3 : Option pV) (d4 : Option pV) (d5 : Option pV) (d6 : Option pV) (d7 : Option pV) (d8 : Option pV) (d9 : Option pV) (s : pS), K1017 s = some q → X [d0, d1, d2, d3, d4, d5, d6, d7, d8, d9] [] 1017 (pW s)) : ∀  (x5 : Int) (y1 : Int) (d6 : Option pV) (d7 : Option pV) (d8 : Option pV) (d9 : Option pV) (s : pS), f_L_law_436 L xs K28 K681 K771 K898 K1006 K1017 x5 y1 s = some q → X [some (vX 2), some (vR (cc 5 0)), some (vR (cc 6 0)), some (vR (ca 700 0)), some (vR (ca 701 0)), some (vI x5), d6, d7, d8, d9] [vI y1, vR (cc 6 0)] 436 (pW s) := by
  intro x5 y1 d6 d7 d8 d9 s h
  unfold f_L_law_436 at h
  refine r_aload_n hX (p2 := 437) rfl rfl rfl ⟨1, Or.inr rfl⟩ ?_
  refine r_iload hX (p2 := 439) rfl rfl rfl ?_
  refine r_iconst hX (p2 := 440) rfl rfl rfl ?_
  obtain ⟨c1, h⟩ := ck_some h
  refine r_iadd hX (p2 := 441) rfl rfl c1 ?_
  obtain ⟨c2, h⟩ := ck_some h
  refine r_xload hX (p2 := 442) rfl rfl hL c2 ?_
  refine r_if hX (p2 := 449) (p3 := 445) (P := (xs (x5 + 2).toNat) = 0) rfl (by decide) rfl rfl (fun p3 => ?_) (fun p3 => ?_)
  · have h := it_pos h p3
    refine r_iconst hX (p2 := 450) rfl rfl rfl ?_
    exact t_L_law_450 hL q X hX _ _ _ _ _ _ hK28 hK681 hK771 hK898 hK1006 hK1017 x5 y1 0 d6 d7 d8 d9 s h
  · have h := it_neg h p3
    refine r_iconst hX (p2 := 446) rfl rfl rfl ?_
    refine r_goto hX (p2 := 450) rfl (by decide) ?_
    exact t_L_law_450 hL q X hX _ _ _ _ _ _ hK28 hK681 hK771 hK898 hK1006 hK1017 x5 y1 1 d6 d7 d8 d9 s h
noncomputable def f_L_law_418 (L : Nat) (xs : Nat → Int) (K28 : Int → pS → Option (Int × pS)) (K681 : pS → Option (Int × pS)) (K771 : pS → Option (Int × pS)) (K898 : pS → Option (Int × pS)) (K1006 : UInt64 → UInt64 → pS → Option (Int × pS)) (K1017 : pS → Option (Int × pS)) (x5 : Int) (y1 : Int) (y2 : Int) (s : pS) : Option (Int × pS) := (f_X5_flow y1 y2 s).bind (fun q1 => ck (inR (x5 + 1)) (ck (0 ≤ (x5 + 1) ∧ (x5 + 1) < (L : Int)) ((if (xs (x5 + 1).toNat) = 0 then f_L_law_436 L xs K28 K681 K771 K898 K1006 K1017 x5 0 q1 else f_L_law_436 L xs K28 K681 K771 K898 K1006 K1017 x5 1 q1))))
set_option maxRecDepth 10000 in
theorem t_L_law_418 {L : Nat} {xs : Nat → Int} (hL : L ≤ 1000) (q : Int × pS) (X : List (Option pV) → List pV → Nat → pH → Prop) (hX : pm_clo L xs (pCall pm_tx 1001 xs pm_P 14) 14 mL_law (eI q) X) (K28 : Int → pS → Option (Int × pS)) (K681 : pS → Option (Int × pS)) (K771 : pS → Option (Int × pS)) (K898 : pS → Option (Int × pS)) (K1006 : UInt64 → UInt64 → pS → Option (Int × pS)) (K1017 : pS → Option (Int × pS)) (hK28 : ∀ (x5 : Int) (d6 : Option pV) (d7 : Option pV) (d8 : Option pV) (d9 : Option pV) (s : pS), K28 x5 s = some q → X [some (vX 2), some (vR (cc 5 0)), some (vR (cc 6 0)), some (vR (ca 700 0)), some (vR (ca 701 0)), some (vI x5), d6, d7, d8, d9] [] 28 (pW s)) (hK681 : ∀ (d0 : Option pV) (d1 : Option pV) (d2 : Option pV) (d3 : Option pV) (d4 : Option pV) (d5 : Option pV) (d6 : Option pV) (d7 : Option pV) (d8 : Option pV) (d9 : Option pV) (s : pS), K681 s = some q → X [d0, d1, d2, d3, d4, d5, d6, d7, d8, d9] [] 681 (pW s)) (hK771 : ∀ (d0 : Option pV) (d1 : Option pV) (d2 : Option pV) (d3 : Option pV) (d4 : Option pV) (d5 : Option pV) (d6 : Option pV) (d7 : Option pV) (d8 : Option pV) (d9 : Option pV) (s : pS), K771 s = some q → X [d0, d1, d2, d3, d4, d5, d6, d7, d8, d9] [] 771 (pW s)) (hK898 : ∀ (d0 : Option pV) (d1 : Option pV) (d2 : Option pV) (d3 : Option pV) (d4 : Option pV) (d5 : Option pV) (d6 : Option pV) (d7 : Option pV) (d8 : Option pV) (d9 : Option pV) (s : pS), K898 s = some q → X [d0, d1, d2, d3, d4, d5, d6, d7, d8, d9] [] 898 (pW s)) (hK1006 : ∀ (x6 : UInt64) (x8 : UInt64) (d0 : Option pV) (d1 : Option pV) (d2 : Option pV) (d3 : Option pV) (d4 : Option pV) (d5 : Option pV) (s : pS), K1006 x6 x8 s = some q → X [d0, d1, d2, d3, d4, d5, some (vD x6), none, some (vD x8), none] [] 1006 (pW s)) (hK1017 : ∀ (d0 : Option pV) (d1 : Option pV) (d2 : Option pV) (d3 : Option pV) (d4 : Option pV) (d5 : Option pV) (d6 : Option pV) (d7 : Option pV) (d8 : Option pV) (d9 : Option pV) (s : pS), K1017 s = some q → X [d0, d1, d2, d3, d4, d5, d6, d7, d8, d9] [] 1017 (pW s)) : ∀  (x5 : Int) (y1 : Int) (y2 : Int) (d6 : Option pV) (d7 : Option pV) (d8 : Option pV) (d9 : Option pV) (s : pS), f_L_law_418 L xs K28 K681 K771 K898 K1006 K1017 x5 y1 y2 s = some q → X [some (vX 2), some (vR (cc 5 0)), some (vR (cc 6 0)), some (vR (ca 700 0)), some (vR (ca 701 0)), some (vI x5), d6, d7, d8, d9] [vI y2, vI y1, vR (cc 5 0)] 418 (pW s) := by
  intro x5 y1 y2 d6 d7 d8 d9 s h
  unfold f_L_law_418 at h
  obtain ⟨q1, hq1, h⟩ := bd_some h
  refine r_callv hX (p2 := 421) (v := none) (as := [vI y1, vI y2]) (r := []) (st2 := []) rfl rfl rfl rfl rfl (hc5 0 (by decide)) rfl rfl (c_X5_flow xs 13 y1 y2 s q1 hq1) ?_
  refine r_aload_n hX (p2 := 422) rfl rfl rfl ⟨_, Or.inl rfl⟩ ?_
  refine r_aload_n hX (p2 := 423) rfl rfl rfl ⟨1, Or.inr rfl⟩ ?_
  refine r_iload hX (p2 := 425) rfl rfl rfl ?_
  refine r_iconst hX (p2 := 426) rfl rfl rfl ?_
  obtain ⟨c2, h⟩ := ck_some h
  refine r_iadd hX (p2 := 427) rfl rfl c2 ?_
  obtain ⟨c3, h⟩ := ck_some h
  refine r_xload hX (p2 := 428) rfl rfl hL c3 ?_
  refine r_if hX (p2 := 435) (p3 := 431) (P := (xs (x5 + 1).toNat) = 0) rfl (by decide) rfl rfl (fun p4 => ?_) (fun p4 => ?_)
  · have h := it_pos h p4
    refine r_iconst hX (p2 := 436) rfl rfl rfl ?_
    exact t_L_law_436 hL q X hX _ _ _ _ _ _ hK28 hK681 hK771 hK898 hK1006 hK1017 x5 0 d6 d7 d8 d9 q1 h
  · have h := it_neg h p4
    refine r_iconst hX (p2 := 432) rfl rfl rfl ?_
    refine r_goto hX (p2 := 436) rfl (by decide) ?_
    exact t_L_law_436 hL q X hX _ _ _ _ _ _ hK28 hK681 hK771 hK898 hK1006 hK1017 x5 1 d6 d7 d8 d9 q1 h
noncomputable def f_L_law_404 (L : Nat) (xs : Nat → Int) (K28 : Int → pS → Option (Int × pS)) (K681 : pS → Option (Int × pS)) (K771 : pS → Option (Int × pS)) (K898 : pS → Option (Int × pS)) (K1006 : UInt64 → UInt64 → pS → Option (Int × pS)) (K1017 : pS → Option (Int × pS)) (x5 : Int) (y1 : Int) (s : pS) : Option (Int × pS) := ck (inR (x5 + 2)) (ck (0 ≤ (x5 + 2) ∧ (x5 + 2) < (L : Int)) ((if (xs (x5 + 2).toNat) = 0 then f_L_law_418 L xs K28 K681 K771 K898 K1006 K1017 x5 y1 0 s else f_L_law_418 L xs K28 K681 K771 K898 K1006 K1017 x5 y1 1 s)))
set_option maxRecDepth 10000 in
theorem t_L_law_404 {L : Nat} {xs : Nat → Int} (hL : L ≤ 1000) (q : Int × pS) (X : List (Option pV) → List pV → Nat → pH → Prop) (hX : pm_clo L xs (pCall pm_tx 1001 xs pm_P 14) 14 mL_law (eI q) X) (K28 : Int → pS → Option (Int × pS)) (K681 : pS → Option (Int × pS)) (K771 : pS → Option (Int × pS)) (K898 : pS → Option (Int × pS)) (K1006 : UInt64 → UInt64 → pS → Option (Int × pS)) (K1017 : pS → Option (Int × pS)) (hK28 : ∀ (x5 : Int) (d6 : Option pV) (d7 : Option pV) (d8 : Option pV) (d9 : Option pV) (s : pS), K28 x5 s = some q → X [some (vX 2), some (vR (cc 5 0)), some (vR (cc 6 0)), some (vR (ca 700 0)), some (vR (ca 701 0)), some (vI x5), d6, d7, d8, d9] [] 28 (pW s)) (hK681 : ∀ (d0 : Option pV) (d1 : Option pV) (d2 : Option pV) (d3 : Option pV) (d4 : Option pV) (d5 : Option pV) (d6 : Option pV) (d7 : Option pV) (d8 : Option pV) (d9 : Option pV) (s : pS), K681 s = some q → X [d0, d1, d2, d3, d4, d5, d6, d7, d8, d9] [] 681 (pW s)) (hK771 : ∀ (d0 : Option pV) (d1 : Option pV) (d2 : Option pV) (d3 : Option pV) (d4 : Option pV) (d5 : Option pV) (d6 : Option pV) (d7 : Option pV) (d8 : Option pV) (d9 : Option pV) (s : pS), K771 s = some q → X [d0, d1, d2, d3, d4, d5, d6, d7, d8, d9] [] 771 (pW s)) (hK898 : ∀ (d0 : Option pV) (d1 : Option pV) (d2 : Option pV) (d3 : Option pV) (d4 : Option pV) (d5 : Option pV) (d6 : Option pV) (d7 : Option pV) (d8 : Option pV) (d9 : Option pV) (s : pS), K898 s = some q → X [d0, d1, d2, d3, d4, d5, d6, d7, d8, d9] [] 898 (pW s)) (hK1006 : ∀ (x6 : UInt64) (x8 : UInt64) (d0 : Option pV) (d1 : Option pV) (d2 : Option pV) (d3 : Option pV) (d4 : Option pV) (d5 : Option pV) (s : pS), K1006 x6 x8 s = some q → X [d0, d1, d2, d3, d4, d5, some (vD x6), none, some (vD x8), none] [] 1006 (pW s)) (hK1017 : ∀ (d0 : Option pV) (d1 : Option pV) (d2 : Option pV) (d3 : Option pV) (d4 : Option pV) (d5 : Option pV) (d6 : Option pV) (d7 : Option pV) (d8 : Option pV) (d9 : Option pV) (s : pS), K1017 s = some q → X [d0, d1, d2, d3, d4, d5, d6, d7, d8, d9] [] 1017 (pW s)) : ∀  (x5 : Int) (y1 : Int) (d6 : Option pV) (d7 : Option pV) (d8 : Option pV) (d9 : Option pV) (s : pS), f_L_law_404 L xs K28 K681 K771 K898 K1006 K1017 x5 y1 s = some q → X [some (vX 2), some (vR (cc 5 0)), some (vR (cc 6 0)), some (vR (ca 700 0)), some (vR (ca 701 0)), some (vI x5), d6, d7, d8, d9] [vI y1, vR (cc 5 0)] 404 (pW s) := by
  intro x5 y1 d6 d7 d8 d9 s h
  unfold f_L_law_404 at h
  refine r_aload_n hX (p2 := 405) rfl rfl rfl ⟨1, Or.inr rfl⟩ ?_
  refine r_iload hX (p2 := 407) rfl rfl rfl ?_
  refine r_iconst hX (p2 := 408) rfl rfl rfl ?_
  obtain ⟨c1, h⟩ := ck_some h
  refine r_iadd hX (p2 := 409) rfl rfl c1 ?_
  obtain ⟨c2, h⟩ := ck_some h
  refine r_xload hX (p2 := 410) rfl rfl hL c2 ?_
  refine r_if hX (p2 := 417) (p3 := 413) (P := (xs (x5 + 2).toNat) = 0) rfl (by decide) rfl rfl (fun p3 => ?_) (fun p3 => ?_)
  · have h := it_pos h p3
    refine r_iconst hX (p2 := 418) rfl rfl rfl ?_
    exact t_L_law_418 hL q X hX _ _ _ _ _ _ hK28 hK681 hK771 hK898 hK1006 hK1017 x5 y1 0 d6 d7 d8 d9 s h
  · have h := it_neg h p3
    refine r_iconst hX (p2 := 414) rfl rfl rfl ?_
    refine r_goto hX (p2 := 418) rfl (by decide) ?_
    exact t_L_law_418 hL q X hX _ _ _ _ _ _ hK28 hK681 hK771 hK898 hK1006 hK1017 x5 y1 1 d6 d7 d8 d9 s h
noncomputable def f_L_law_683 (L : Nat) (xs : Nat → Int) (K28 : Int → pS → Option (Int × pS)) (K681 : pS → Option (Int × pS)) (K771 : pS → Option (Int × pS)) (K898 : pS → Option (Int × pS)) (K1006 : UInt64 → UInt64 → pS → Option (Int × pS)) (K1017 : pS → Option (Int × pS)) (x5 : Int) (s : pS) : Option (Int × pS) := f_L_law_1011 L xs K28 K681 K771 K898 K1006 K1017 x5 s
set_option maxRecDepth 10000 in
theorem t_L_law_683 {L : Nat} {xs : Nat → Int} (hL : L ≤ 1000) (q : Int × pS) (X : List (Option pV) → List pV → Nat → pH → Prop) (hX : pm_clo L xs (pCall pm_tx 1001 xs pm_P 14) 14 mL_law (eI q) X) (K28 : Int → pS → Option (Int × pS)) (K681 : pS → Option (Int × pS)) (K771 : pS → Option (Int × pS)) (K898 : pS → Option (Int × pS)) (K1006 : UInt64 → UInt64 → pS → Option (Int × pS)) (K1017 : pS → Option (Int × pS)) (hK28 : ∀ (x5 : Int) (d6 : Option pV) (d7 : Option pV) (d8 : Option pV) (d9 : Option pV) (s : pS), K28 x5 s = some q → X [some (vX 2), some (vR (cc 5 0)), some (vR (cc 6 0)), some (vR (ca 700 0)), some (vR (ca 701 0)), some (vI x5), d6, d7, d8, d9] [] 28 (pW s)) (hK681 : ∀ (d0 : Option pV) (d1 : Option pV) (d2 : Option pV) (d3 : Option pV) (d4 : Option pV) (d5 : Option pV) (d6 : Option pV) (d7 : Option pV) (d8 : Option pV) (d9 : Option pV) (s : pS), K681 s = some q → X [d0, d1, d2, d3, d4, d5, d6, d7, d8, d9] [] 681 (pW s)) (hK771 : ∀ (d0 : Option pV) (d1 : Option pV) (d2 : Option pV) (d3 : Option pV) (d4 : Option pV) (d5 : Option pV) (d6 : Option pV) (d7 : Option pV) (d8 : Option pV) (d9 : Option pV) (s : pS), K771 s = some q → X [d0, d1, d2, d3, d4, d5, d6, d7, d8, d9] [] 771 (pW s)) (hK898 : ∀ (d0 : Option pV) (d1 : Option pV) (d2 : Option pV) (d3 : Option pV) (d4 : Option pV) (d5 : Option pV) (d6 : Option pV) (d7 : Option pV) (d8 : Option pV) (d9 : Option pV) (s : pS), K898 s = some q → X [d0, d1, d2, d3, d4, d5, d6, d7, d8, d9] [] 898 (pW s)) (hK1006 : ∀ (x6 : UInt64) (x8 : UInt64) (d0 : Option pV) (d1 : Option pV) (d2 : Option pV) (d3 : Option pV) (d4 : Option pV) (d5 : Option pV) (s : pS), K1006 x6 x8 s = some q → X [d0, d1, d2, d3, d4, d5, some (vD x6), none, some (vD x8), none] [] 1006 (pW s)) (hK1017 : ∀ (d0 : Option pV) (d1 : Option pV) (d2 : Option pV) (d3 : Option pV) (d4 : Option pV) (d5 : Option pV) (d6 : Option pV) (d7 : Option pV) (d8 : Option pV) (d9 : Option pV) (s : pS), K1017 s = some q → X [d0, d1, d2, d3, d4, d5, d6, d7, d8, d9] [] 1017 (pW s)) : ∀  (x5 : Int) (d6 : Option pV) (d7 : Option pV) (d8 : Option pV) (d9 : Option pV) (s : pS), f_L_law_683 L xs K28 K681 K771 K898 K1006 K1017 x5 s = some q → X [some (vX 2), some (vR (cc 5 0)), some (vR (cc 6 0)), some (vR (ca 700 0)), some (vR (ca 701 0)), some (vI x5), d6, d7, d8, d9] [] 683 (pW s) := by
  intro x5 d6 d7 d8 d9 s h
  unfold f_L_law_683 at h
  refine r_goto hX (p2 := 1011) rfl (by decide) ?_
  exact t_L_law_1011 hL q X hX _ _ _ _ _ _ hK28 hK681 hK771 hK898 hK1006 hK1017 x5 d6 d7 d8 d9 s h
noncomputable def f_L_law_773 (L : Nat) (xs : Nat → Int) (K28 : Int → pS → Option (Int × pS)) (K681 : pS → Option (Int × pS)) (K771 : pS → Option (Int × pS)) (K898 : pS → Option (Int × pS)) (K1006 : UInt64 → UInt64 → pS → Option (Int × pS)) (K1017 : pS → Option (Int × pS)) (x5 : Int) (s : pS) : Option (Int × pS) := f_L_law_1011 L xs K28 K681 K771 K898 K1006 K1017 x5 s
set_option maxRecDepth 10000 in
theorem t_L_law_773 {L : Nat} {xs : Nat → Int} (hL : L ≤ 1000) (q : Int × pS) (X : List (Option pV) → List pV → Nat → pH → Prop) (hX : pm_clo L xs (pCall pm_tx 1001 xs pm_P 14) 14 mL_law (eI q) X) (K28 : Int → pS → Option (Int × pS)) (K681 : pS → Option (Int × pS)) (K771 : pS → Option (Int × pS)) (K898 : pS → Option (Int × pS)) (K1006 : UInt64 → UInt64 → pS → Option (Int × pS)) (K1017 : pS → Option (Int × pS)) (hK28 : ∀ (x5 : Int) (d6 : Option pV) (d7 : Option pV) (d8 : Option pV) (d9 : Option pV) (s : pS), K28 x5 s = some q → X [some (vX 2), some (vR (cc 5 0)), some (vR (cc 6 0)), some (vR (ca 700 0)), some (vR (ca 701 0)), some (vI x5), d6, d7, d8, d9] [] 28 (pW s)) (hK681 : ∀ (d0 : Option pV) (d1 : Option pV) (d2 : Option pV) (d3 : Option pV) (d4 : Option pV) (d5 : Option pV) (d6 : Option pV) (d7 : Option pV) (d8 : Option pV) (d9 : Option pV) (s : pS), K681 s = some q → X [d0, d1, d2, d3, d4, d5, d6, d7, d8, d9] [] 681 (pW s)) (hK771 : ∀ (d0 : Option pV) (d1 : Option pV) (d2 : Option pV) (d3 : Option pV) (d4 : Option pV) (d5 : Option pV) (d6 : Option pV) (d7 : Option pV) (d8 : Option pV) (d9 : Option pV) (s : pS), K771 s = some q → X [d0, d1, d2, d3, d4, d5, d6, d7, d8, d9] [] 771 (pW s)) (hK898 : ∀ (d0 : Option pV) (d1 : Option pV) (d2 : Option pV) (d3 : Option pV) (d4 : Option pV) (d5 : Option pV) (d6 : Option pV) (d7 : Option pV) (d8 : Option pV) (d9 : Option pV) (s : pS), K898 s = some q → X [d0, d1, d2, d3, d4, d5, d6, d7, d8, d9] [] 898 (pW s)) (hK1006 : ∀ (x6 : UInt64) (x8 : UInt64) (d0 : Option pV) (d1 : Option pV) (d2 : Option pV) (d3 : Option pV) (d4 : Option pV) (d5 : Option pV) (s : pS), K1006 x6 x8 s = some q → X [d0, d1, d2, d3, d4, d5, some (vD x6), none, some (vD x8), none] [] 1006 (pW s)) (hK1017 : ∀ (d0 : Option pV) (d1 : Option pV) (d2 : Option pV) (d3 : Option pV) (d4 : Option pV) (d5 : Option pV) (d6 : Option pV) (d7 : Option pV) (d8 : Option pV) (d9 : Option pV) (s : pS), K1017 s = some q → X [d0, d1, d2, d3, d4, d5, d6, d7, d8, d9] [] 1017 (pW s)) : ∀  (x5 : Int) (d6 : Option pV) (d7 : Option pV) (d8 : Option pV) (d9 : Option pV) (s : pS), f_L_law_773 L xs K28 K681 K771 K898 K1006 K1017 x5 s = some q → X [some (vX 2), some (vR (cc 5 0)), some (vR (cc 6 0)), some (vR (ca 700 0)), some (vR (ca 701 0)), some (vI x5), d6, d7, d8, d9] [] 773 (pW s) := by
  intro x5 d6 d7 d8 d9 s h
  unfold f_L_law_773 at h
  refine r_goto hX (p2 := 1011) rfl (by decide) ?_
  exact t_L_law_1011 hL q X hX _ _ _ _ _ _ hK28 hK681 hK771 hK898 hK1006 hK1017 x5 d6 d7 d8 d9 s h
noncomputable def f_L_law_900 (L : Nat) (xs : Nat → Int) (K28 : Int → pS → Option (Int × pS)) (K681 : pS → Option (Int × pS)) (K771 : pS → Option (Int × pS)) (K898 : pS → Option (Int × pS)) (K1006 : UInt64 → UInt64 → pS → Option (Int × pS)) (K1017 : pS → Option (Int × pS)) (x5 : Int) (s : pS) : Option (Int × pS) := f_L_law_1011 L xs K28 K681 K771 K898 K1006 K1017 x5 s
set_option maxRecDepth 10000 in
theorem t_L_law_900 {L : Nat} {xs : Nat → Int} (hL : L ≤ 1000) (q : Int × pS) (X : List (Option pV) → List pV → Nat → pH → Prop) (hX : pm_clo L xs (pCall pm_tx 1001 xs pm_P 14) 14 mL_law (eI q) X) (K28 : Int → pS → Option (Int × pS)) (K681 : pS → Option (Int × pS)) (K771 : pS → Option (Int × pS)) (K898 : pS → Option (Int × pS)) (K1006 : UInt64 → UInt64 → pS → Option (Int × pS)) (K1017 : pS → Option (Int × pS)) (hK28 : ∀ (x5 : Int) (d6 : Option pV) (d7 : Option pV) (d8 : Option pV) (d9 : Option pV) (s : pS), K28 x5 s = some q → X [some (vX 2), some (vR (cc 5 0)), some (vR (cc 6 0)), some (vR (ca 700 0)), some (vR (ca 701 0)), some (vI x5), d6, d7, d8, d9] [] 28 (pW s)) (hK681 : ∀ (d0 : Option pV) (d1 : Option pV) (d2 : Option pV) (d3 : Option pV) (d4 : Option pV) (d5 : Option pV) (d6 : Option pV) (d7 : Option pV) (d8 : Option pV) (d9 : Option pV) (s : pS), K681 s = some q → X [d0, d1, d2, d3, d4, d5, d6, d7, d8, d9] [] 681 (pW s)) (hK771 : ∀ (d0 : Option pV) (d1 : Option pV) (d2 : Option pV) (d3 : Option pV) (d4 : Option pV) (d5 : Option pV) (d6 : Option pV) (d7 : Option pV) (d8 : Option pV) (d9 : Option pV) (s : pS), K771 s = some q → X [d0, d1, d2, d3, d4, d5, d6, d7, d8, d9] [] 771 (pW s)) (hK898 : ∀ (d0 : Option pV) (d1 : Option pV) (d2 : Option pV) (d3 : Option pV) (d4 : Option pV) (d5 : Option pV) (d6 : Option pV) (d7 : Option pV) (d8 : Option pV) (d9 : Option pV) (s : pS), K898 s = some q → X [d0, d1, d2, d3, d4, d5, d6, d7, d8, d9] [] 898 (pW s)) (hK1006 : ∀ (x6 : UInt64) (x8 : UInt64) (d0 : Option pV) (d1 : Option pV) (d2 : Option pV) (d3 : Option pV) (d4 : Option pV) (d5 : Option pV) (s : pS), K1006 x6 x8 s = some q → X [d0, d1, d2, d3, d4, d5, some (vD x6), none, some (vD x8), none] [] 1006 (pW s)) (hK1017 : ∀ (d0 : Option pV) (d1 : Option pV) (d2 : Option pV) (d3 : Option pV) (d4 : Option pV) (d5 : Option pV) (d6 : Option pV) (d7 : Option pV) (d8 : Option pV) (d9 : Option pV) (s : pS), K1017 s = some q → X [d0, d1, d2, d3, d4, d5, d6, d7, d8, d9] [] 1017 (pW s)) : ∀  (x5 : Int) (d6 : Option pV) (d7 : Option pV) (d8 : Option pV) (d9 : Option pV) (s : pS), f_L_law_900 L xs K28 K681 K771 K898 K1006 K1017 x5 s = some q → X [some (vX 2), some (vR (cc 5 0)), some (vR (cc 6 0)), some (vR (ca 700 0)), some (vR (ca 701 0)), some (vI x5), d6, d7, d8, d9] [] 900 (pW s) := by
  intro x5 d6 d7 d8 d9 s h
  unfold f_L_law_900 at h
  refine r_goto hX (p2 := 1011) rfl (by decide) ?_
  exact t_L_law_1011 hL q X hX _ _ _ _ _ _ hK28 hK681 hK771 hK898 hK1006 hK1017 x5 d6 d7 d8 d9 s h
noncomputable def f_L_law_1008 (L : Nat) (xs : Nat → Int) (K28 : Int → pS → Option (Int × pS)) (K681 : pS → Option (Int × pS)) (K771 : pS → Option (Int × pS)) (K898 : pS → Option (Int × pS)) (K1006 : UInt64 → UInt64 → pS → Option (Int × pS)) (K1017 : pS → Option (Int × pS)) (x5 : Int) (x6 : UInt64) (x8 : UInt64) (s : pS) : Option (Int × pS) := f_L_law_1011 L xs K28 K681 K771 K898 K1006 K1017 x5 s
set_option maxRecDepth 10000 in
theorem t_L_law_1008 {L : Nat} {xs : Nat → Int} (hL : L ≤ 1000) (q : Int × pS) (X : List (Option pV) → List pV → Nat → pH → Prop) (hX : pm_clo L xs (pCall pm_tx 1001 xs pm_P 14) 14 mL_law (eI q) X) (K28 : Int → pS → Option (Int × pS)) (K681 : pS → Option (Int × pS)) (K771 : pS → Option (Int × pS)) (K898 : pS → Option (Int × pS)) (K1006 : UInt64 → UInt64 → pS → Option (Int × pS)) (K1017 : pS → Option (Int × pS)) (hK28 : ∀ (x5 : Int) (d6 : Option pV) (d7 : Option pV) (d8 : Option pV) (d9 : Option pV) (s : pS), K28 x5 s = some q → X [some (vX 2), some (vR (cc 5 0)), some (vR (cc 6 0)), some (vR (ca 700 0)), some (vR (ca 701 0)), some (vI x5), d6, d7, d8, d9] [] 28 (pW s)) (hK681 : ∀ (d0 : Option pV) (d1 : Option pV) (d2 : Option pV) (d3 : Option pV) (d4 : Option pV) (d5 : Option pV) (d6 : Option pV) (d7 : Option pV) (d8 : Option pV) (d9 : Option pV) (s : pS), K681 s = some q → X [d0, d1, d2, d3, d4, d5, d6, d7, d8, d9] [] 681 (pW s)) (hK771 : ∀ (d0 : Option pV) (d1 : Option pV) (d2 : Option pV) (d3 : Option pV) (d4 : Option pV) (d5 : Option pV) (d6 : Option pV) (d7 : Option pV) (d8 : Option pV) (d9 : Option pV) (s : pS), K771 s = some q → X [d0, d1, d2, d3, d4, d5, d6, d7, d8, d9] [] 771 (pW s)) (hK898 : ∀ (d0 : Option pV) (d1 : Option pV) (d2 : Option pV) (d3 : Option pV) (d4 : Option pV) (d5 : Option pV) (d6 : Option pV) (d7 : Option pV) (d8 : Option pV) (d9 : Option pV) (s : pS), K898 s = some q → X [d0, d1, d2, d3, d4, d5, d6, d7, d8, d9] [] 898 (pW s)) (hK1006 : ∀ (x6 : UInt64) (x8 : UInt64) (d0 : Option pV) (d1 : Option pV) (d2 : Option pV) (d3 : Option pV) (d4 : Option pV) (d5 : Option pV) (s : pS), K1006 x6 x8 s = some q → X [d0, d1, d2, d3, d4, d5, some (vD x6), none, some (vD x8), none] [] 1006 (pW s)) (hK1017 : ∀ (d0 : Option pV) (d1 : Option pV) (d2 : Option pV) (d3 : Option pV) (d4 : Option pV) (d5 : Option pV) (d6 : Option pV) (d7 : Option pV) (d8 : Option pV) (d9 : Option pV) (s : pS), K1017 s = some q → X [d0, d1, d2, d3, d4, d5, d6, d7, d8, d9] [] 1017 (pW s)) : ∀  (x5 : Int) (x6 : UInt64) (x8 : UInt64) (s : pS), f_L_law_1008 L xs K28 K681 K771 K898 K1006 K1017 x5 x6 x8 s = some q → X [some (vX 2), some (vR (cc 5 0)), some (vR (cc 6 0)), some (vR (ca 700 0)), some (vR (ca 701 0)), some (vI x5), some (vD x6), none, some (vD x8), none] [] 1008 (pW s) := by
  intro x5 x6 x8 s h
  unfold f_L_law_1008 at h
  refine r_goto hX (p2 := 1011) rfl (by decide) ?_
  exact t_L_law_1011 hL q X hX _ _ _ _ _ _ hK28 hK681 hK771 hK898 hK1006 hK1017 x5 (some (vD x6)) none (some (vD x8)) none s h
noncomputable def f_L_law_28 (L : Nat) (xs : Nat → Int) (K681 : pS → Option (Int × pS)) (K771 : pS → Option (Int × pS)) (K898 : pS → Option (Int × pS)) (K1006 : UInt64 → UInt64 → pS → Option (Int × pS)) (K1017 : pS → Option (Int × pS)) : Nat → Int → pS → Option (Int × pS)
  | 0, _, _ => none
  | n + 1, x5, s => ck (inR ((L : Int) - 5)) ((if ((L : Int) - 5) < x5 then K1017 s else ck (0 ≤ x5 ∧ x5 < (L : Int)) ((if ((xs x5.toNat) % 16) = 0 then ck (inR (x5 + 1)) (ck (0 ≤ (x5 + 1) ∧ (x5 + 1) < (L : Int)) ((f_X5_write ((xs (x5 + 1).toNat) % 65536) s).bind (fun q5 => ck (inR (x5 + 1)) (ck (0 ≤ (x5 + 1) ∧ (x5 + 1) < (L : Int)) ((f_X6_write ((xs (x5 + 1).toNat) % 65536) q5.2).bind (fun q8 => (if q5.1 = q8.1 then f_L_law_1011 L xs (f_L_law_28 L xs K681 K771 K898 K1006 K1017 n) K681 K771 K898 K1006 K1017 x5 q8.2 else some (0, q8.2)))))))) else (if ((xs x5.toNat) % 16) = 1 then ck (inR (x5 + 1)) (ck (0 ≤ (x5 + 1) ∧ (x5 + 1) < (L : Int)) ((f_L_template (xs (x5 + 1).toNat) s).bind (fun q13 => ck (inR (x5 + 1)) (ck (0 ≤ (x5 + 1) ∧ (x5 + 1) < (L : Int)) ((f_X6_template (xs (x5 + 1).toNat) q13.2).bind (fun q16 => (f_X6_thrown q16.2).bind (fun q17 => (if q17.1 = q13.1 then (if q13.1 ≠ 0 then f_L_law_204 L xs (f_L_law_28 L xs K681 K771 K898 K1006 K1017 n) K681 K771 K898 K1006 K1017 x5 q17.2 else (if (pm_lc (sA q17.2 700 0 0) q16.1) = 0 then f_L_law_204 L xs (f_L_law_28 L xs K681 K771 K898 K1006 K1017 n) K681 K771 K898 K1006 K1017 x5 q17.2 else some (0, q17.2))) else some (0, q17.2))))))))) else (if ((xs x5.toNat) % 16) = 2 then (f_X5_place s).bind (fun q22 => (f_X6_place q22.2).bind (fun q23 => (if q22.1 = q23.1 then f_L_law_1011 L xs (f_L_law_28 L xs K681 K771 K898 K1006 K1017 n) K681 K771 K898 K1006 K1017 x5 q23.2 else some (0, q23.2)))) else (if ((xs x5.toNat) % 16) = 3 then ck (inR (x5 + 1)) (ck (0 ≤ (x5 + 1) ∧ (x5 + 1) < (L : Int)) (ck (inR (x5 + 2)) (ck (0 ≤ (x5 + 2) ∧ (x5 + 2) < (L : Int)) (ck (inR (x5 + 3)) (ck (0 ≤ (x5 + 3) ∧ (x5 + 3) < (L : Int)) (ck (inR (x5 + 4)) (ck (0 ≤ (x5 + 4) ∧ (x5 + 4) < (L : Int)) ((f_L_item (xs (x5 + 1).toNat) (xs (x5 + 2).toNat) (xs (x5 + 3).toNat) (xs (x5 + 4).toNat) s).bind (fun q34 => ck (inR (x5 + 1)) (ck (0 ≤ (x5 + 1) ∧ (x5 + 1) < (L : Int)) (ck (inR (x5 + 2)) (ck (0 ≤ (x5 + 2) ∧ (x5 + 2) < (L : Int)) (ck (inR (x5 + 3)) (ck (0 ≤ (x5 + 3) ∧ (x5 + 3) < (L : Int)) (ck (inR (x5 + 4)) (ck (0 ≤ (x5 + 4) ∧ (x5 + 4) < (L : Int)) ((f_X6_item (xs (x5 + 1).toNat) (xs (x5 + 2).toNat) (xs (x5 + 3).toNat) (xs (x5 + 4).toNat) q34.2).bind (fun q43 => (f_X6_thrown q43.2).bind (fun q44 => (if q44.1 = q34.1 then (if q34.1 ≠ 0 then f_L_law_309 L xs (f_L_law_28 L xs K681 K771 K898 K1006 K1017 n) K681 K771 K898 K1006 K1017 x5 q44.2 else (if (pm_lc (sA q44.2 700 0 0) q43.1) = 0 then f_L_law_309 L xs (f_L_law_28 L xs K681 K771 K898 K1006 K1017 n) K681 K771 K898 K1006 K1017 x5 q44.2 else some (0, q44.2))) else some (0, q44.2))))))))))))))))))))) else (if ((xs x5.toNat) % 16) = 4 then ck (inR (x5 + 1)) (ck (0 ≤ (x5 + 1) ∧ (x5 + 1) < (L : Int)) (ck (inR (x5 + 2)) (ck (0 ≤ (x5 + 2) ∧ (x5 + 2) < (L : Int)) (ck (inR (x5 + 3)) (ck (0 ≤ (x5 + 3) ∧ (x5 + 3) < (L : Int)) (ck (vf_n32 (FP.fmul (FP.i2f (Int32.ofInt (xs (x5 + 3).toNat))) (UInt32.ofNat 1040187392))) (ck (inR (x5 + 4)) (ck (0 ≤ (x5 + 4) ∧ (x5 + 4) < (L : Int)) (ck (vf_n32 (FP.fmul (FP.i2f (Int32.ofInt (xs (x5 + 4).toNat))) (UInt32.ofNat 1040187392))) ((f_X5_need (xs (x5 + 1).toNat) (xs (x5 + 2).toNat) (FP.fmul (FP.i2f (Int32.ofInt (xs (x5 + 3).toNat))) (UInt32.ofNat 1040187392)) (FP.fmul (FP.i2f (Int32.ofInt (xs (x5 + 4).toNat))) (UInt32.ofNat 1040187392)) s).bind (fun q59 => ck (inR (x5 + 1)) (ck (0 ≤ (x5 + 1) ∧ (x5 + 1) < (L : Int)) (ck (inR (x5 + 2)) (ck (0 ≤ (x5 + 2) ∧ (x5 + 2) < (L : Int)) (ck (inR (x5 + 3)) (ck (0 ≤ (x5 + 3) ∧ (x5 + 3) < (L : Int)) (ck (vf_n32 (FP.fmul (FP.i2f (Int32.ofInt (xs (x5 + 3).toNat))) (UInt32.ofNat 1040187392))) (ck (inR (x5 + 4)) (ck (0 ≤ (x5 + 4) ∧ (x5 + 4) < (L : Int)) (ck (vf_n32 (FP.fmul (FP.i2f (Int32.ofInt (xs (x5 + 4).toNat))) (UInt32.ofNat 1040187392))) ((f_X6_need (xs (x5 + 1).toNat) (xs (x5 + 2).toNat) (FP.fmul (FP.i2f (Int32.ofInt (xs (x5 + 3).toNat))) (UInt32.ofNat 1040187392)) (FP.fmul (FP.i2f (Int32.ofInt (xs (x5 + 4).toNat))) (UInt32.ofNat 1040187392)) q59.2).bind (fun q70 => (if q59.1 = q70.1 then f_L_law_1011 L xs (f_L_law_28 L xs K681 K771 K898 K1006 K1017 n) K681 K771 K898 K1006 K1017 x5 q70.2 else some (0, q70.2)))))))))))))))))))))))) else (if ((xs x5.toNat) % 16) = 5 then ck (inR (x5 + 1)) (ck (0 ≤ (x5 + 1) ∧ (x5 + 1) < (L : Int)) ((if (xs (x5 + 1).toNat) = 0 then f_L_law_404 L xs (f_L_law_28 L xs K681 K771 K898 K1006 K1017 n) K681 K771 K898 K1006 K1017 x5 0 s else f_L_law_404 L xs (f_L_law_28 L xs K681 K771 K898 K1006 K1017 n) K681 K771 K898 K1006 K1017 x5 1 s))) else (if ((xs x5.toNat) % 16) = 6 then ck (inR (x5 + 1)) (ck (0 ≤ (x5 + 1) ∧ (x5 + 1) < (L : Int)) (ck (inR (x5 + 2)) (ck (0 ≤ (x5 + 2) ∧ (x5 + 2) < (L : Int)) (ck (vf_n32 (FP.fmul (FP.i2f (Int32.ofInt (xs (x5 + 2).toNat))) (UInt32.ofNat 1040187392))) (ck (inR (x5 + 3)) (ck (0 ≤ (x5 + 3) ∧ (x5 + 3) < (L : Int)) (ck (vf_n32 (FP.fmul (FP.i2f (Int32.ofInt (xs (x5 + 3).toNat))) (UInt32.ofNat 1040187392))) ((f_X5_room (xs (x5 + 1).toNat) (FP.fmul (FP.i2f (Int32.ofInt (xs (x5 + 2).toNat))) (UInt32.ofNat 1040187392)) (FP.fmul (FP.i2f (Int32.ofInt (xs (x5 + 3).toNat))) (UInt32.ofNat 1040187392)) s).bind (fun q85 => ck (inR (x5 + 1)) (ck (0 ≤ (x5 + 1) ∧ (x5 + 1) < (L : Int)) (ck (inR (x5 + 2)) (ck (0 ≤ (x5 + 2) ∧ (x5 + 2) < (L : Int)) (ck (vf_n32 (FP.fmul (FP.i2f (Int32.ofInt (xs (x5 + 2).toNat))) (UInt32.ofNat 1040187392))) (ck (inR (x5 + 3)) (ck (0 ≤ (x5 + 3) ∧ (x5 + 3) < (L : Int)) (ck (vf_n32 (FP.fmul (FP.i2f (Int32.ofInt (xs (x5 + 3).toNat))) (UInt32.ofNat 1040187392))) ((f_X6_room (xs (x5 + 1).toNat) (FP.fmul (FP.i2f (Int32.ofInt (xs (x5 + 2).toNat))) (UInt32.ofNat 1040187392)) (FP.fmul (FP.i2f (Int32.ofInt (xs (x5 + 3).toNat))) (UInt32.ofNat 1040187392)) q85.2).bind (fun q94 => (if q85.1 = q94.1 then f_L_law_1011 L xs (f_L_law_28 L xs K681 K771 K898 K1006 K1017 n) K681 K771 K898 K1006 K1017 x5 q94.2 else some (0, q94.2)))))))))))))))))))) else (if ((xs x5.toNat) % 16) = 7 then ck (inR (x5 + 1)) (ck (0 ≤ (x5 + 1) ∧ (x5 + 1) < (L : Int)) (ck (inR (x5 + 2)) (ck (0 ≤ (x5 + 2) ∧ (x5 + 2) < (L : Int)) ((f_X5_put (xs (x5 + 1).toNat) (xs (x5 + 2).toNat) s).bind (fun q101 => ck (inR (x5 + 1)) (ck (0 ≤ (x5 + 1) ∧ (x5 + 1) < (L : Int)) (ck (inR (x5 + 2)) (ck (0 ≤ (x5 + 2) ∧ (x5 + 2) < (L : Int)) ((f_X6_put (xs (x5 + 1).toNat) (xs (x5 + 2).toNat) q101.2).bind (fun q106 => (if q101.1 = q106.1 then f_L_law_1011 L xs (f_L_law_28 L xs K681 K771 K898 K1006 K1017 n) K681 K771 K898 K1006 K1017 x5 q106.2 else some (0, q106.2)))))))))))) else (if ((xs x5.toNat) % 16) = 8 then (f_X5_layout s).bind (fun q109 => (f_X6_layout q109.2).bind (fun q110 => (if q109.1 = q110.1 then f_L_law_1011 L xs (f_L_law_28 L xs K681 K771 K898 K1006 K1017 n) K681 K771 K898 K1006 K1017 x5 q110.2 else some (0, q110.2)))) else (if ((xs x5.toNat) % 16) = 9 then ck (inR (x5 + 1)) (ck (0 ≤ (x5 + 1) ∧ (x5 + 1) < (L : Int)) ((f_X5_tracks (xs (x5 + 1).toNat) s).bind (fun q115 => ck (inR (x5 + 1)) (ck (0 ≤ (x5 + 1) ∧ (x5 + 1) < (L : Int)) ((f_X6_tracks (xs (x5 + 1).toNat) q115.2).bind (fun q118 => (if q115.1 = q118.1 then f_L_law_1011 L xs (f_L_law_28 L xs K681 K771 K898 K1006 K1017 n) K681 K771 K898 K1006 K1017 x5 q118.2 else some (0, q118.2)))))))) else (if ((xs x5.toNat) % 16) = 10 then ck (inR (x5 + 1)) (ck (0 ≤ (x5 + 1) ∧ (x5 + 1) < (L : Int)) (ck (inR (x5 + 2)) (ck (0 ≤ (x5 + 2) ∧ (x5 + 2) < (L : Int)) ((f_L_size (xs (x5 + 1).toNat) (xs (x5 + 2).toNat) s).bind (fun q125 => ck (inR (x5 + 1)) (ck (0 ≤ (x5 + 1) ∧ (x5 + 1) < (L : Int)) (ck (inR (x5 + 2)) (ck (0 ≤ (x5 + 2) ∧ (x5 + 2) < (L : Int)) ((f_X6_size (xs (x5 + 1).toNat) (xs (x5 + 2).toNat) q125.2).bind (fun q130 => (f_X6_thrown q130.2).bind (fun q131 => (if q131.1 = q125.1 then (if q125.1 ≠ 0 then f_L_law_683 L xs (f_L_law_28 L xs K681 K771 K898 K1006 K1017 n) K681 K771 K898 K1006 K1017 x5 q131.2 else ck (vf_n64 (FP.f2d q130.1)) ((if (pm_dc .l (sD q131.2 0) (FP.f2d q130.1)) = 0 then f_L_law_683 L xs (f_L_law_28 L xs K681 K771 K898 K1006 K1017 n) K681 K771 K898 K1006 K1017 x5 q131.2 else (if (pm_dc .l (sD q131.2 0) (sD q131.2 0)) = 0 then K681 q131.2 else (if (pm_fc .l q130.1 q130.1) ≠ 0 then f_L_law_683 L xs (f_L_law_28 L xs K681 K771 K898 K1006 K1017 n) K681 K771 K898 K1006 K1017 x5 q131.2 else K681 q131.2))))) else some (0, q131.2))))))))))))) else (if ((xs x5.toNat) % 16) = 11 then ck (inR (x5 + 1)) (ck (0 ≤ (x5 + 1) ∧ (x5 + 1) < (L : Int)) (ck (inR (x5 + 2)) (ck (0 ≤ (x5 + 2) ∧ (x5 + 2) < (L : Int)) ((f_L_at (xs (x5 + 1).toNat) (xs (x5 + 2).toNat) s).bind (fun q143 => ck (inR (x5 + 1)) (ck (0 ≤ (x5 + 1) ∧ (x5 + 1) < (L : Int)) (ck (inR (x5 + 2)) (ck (0 ≤ (x5 + 2) ∧ (x5 + 2) < (L : Int)) ((f_X6_at (xs (x5 + 1).toNat) (xs (x5 + 2).toNat) q143.2).bind (fun q148 => (f_X6_thrown q148.2).bind (fun q149 => (if q149.1 = q143.1 then (if q143.1 ≠ 0 then f_L_law_773 L xs (f_L_law_28 L xs K681 K771 K898 K1006 K1017 n) K681 K771 K898 K1006 K1017 x5 q149.2 else ck (vf_n64 (FP.f2d q148.1)) ((if (pm_dc .l (sD q149.2 0) (FP.f2d q148.1)) = 0 then f_L_law_773 L xs (f_L_law_28 L xs K681 K771 K898 K1006 K1017 n) K681 K771 K898 K1006 K1017 x5 q149.2 else (if (pm_dc .l (sD q149.2 0) (sD q149.2 0)) = 0 then K771 q149.2 else (if (pm_fc .l q148.1 q148.1) ≠ 0 then f_L_law_773 L xs (f_L_law_28 L xs K681 K771 K898 K1006 K1017 n) K681 K771 K898 K1006 K1017 x5 q149.2 else K771 q149.2))))) else some (0, q149.2))))))))))))) else (if ((xs x5.toNat) % 16) = 12 then ck (inR (x5 + 1)) (ck (0 ≤ (x5 + 1) ∧ (x5 + 1) < (L : Int)) (ck (inR (x5 + 2)) (ck (0 ≤ (x5 + 2) ∧ (x5 + 2) < (L : Int)) ((f_X5_line (xs (x5 + 1).toNat) (xs (x5 + 2).toNat) s).bind (fun q161 => ck (inR (x5 + 1)) (ck (0 ≤ (x5 + 1) ∧ (x5 + 1) < (L : Int)) (ck (inR (x5 + 2)) (ck (0 ≤ (x5 + 2) ∧ (x5 + 2) < (L : Int)) ((f_X6_line (xs (x5 + 1).toNat) (xs (x5 + 2).toNat) q161.2).bind (fun q166 => (if q161.1 = q166.1 then f_L_law_1011 L xs (f_L_law_28 L xs K681 K771 K898 K1006 K1017 n) K681 K771 K898 K1006 K1017 x5 q166.2 else some (0, q166.2)))))))))))) else (if ((xs x5.toNat) % 16) = 13 then ck (inR (x5 + 1)) (ck (0 ≤ (x5 + 1) ∧ (x5 + 1) < (L : Int)) (ck (inR (x5 + 2)) (ck (0 ≤ (x5 + 2) ∧ (x5 + 2) < (L : Int)) ((f_L_extent (xs (x5 + 1).toNat) (xs (x5 + 2).toNat) s).bind (fun q173 => ck (inR (x5 + 1)) (ck (0 ≤ (x5 + 1) ∧ (x5 + 1) < (L : Int)) (ck (inR (x5 + 2)) (ck (0 ≤ (x5 + 2) ∧ (x5 + 2) < (L : Int)) ((f_X6_extent (xs (x5 + 1).toNat) (xs (x5 + 2).toNat) q173.2).bind (fun q178 => (f_X6_thrown q178.2).bind (fun q179 => (if q179.1 = q173.1 then (if q173.1 ≠ 0 then f_L_law_900 L xs (f_L_law_28 L xs K681 K771 K898 K1006 K1017 n) K681 K771 K898 K1006 K1017 x5 q179.2 else ck (vf_n64 (FP.f2d q178.1)) ((if (pm_dc .l (sD q179.2 0) (FP.f2d q178.1)) = 0 then f_L_law_900 L xs (f_L_law_28 L xs K681 K771 K898 K1006 K1017 n) K681 K771 K898 K1006 K1017 x5 q179.2 else (if (pm_dc .l (sD q179.2 0) (sD q179.2 0)) = 0 then K898 q179.2 else (if (pm_fc .l q178.1 q178.1) ≠ 0 then f_L_law_900 L xs (f_L_law_28 L xs K681 K771 K898 K1006 K1017 n) K681 K771 K898 K1006 K1017 x5 q179.2 else K898 q179.2))))) else some (0, q179.2))))))))))))) else (if ((xs x5.toNat) % 16) = 14 then ck (inR (x5 + 1)) (ck (0 ≤ (x5 + 1) ∧ (x5 + 1) < (L : Int)) (ck (vf_n32 (FP.fmul (FP.i2f (Int32.ofInt (xs (x5 + 1).toNat))) (UInt32.ofNat 1040187392))) (ck (inR (x5 + 2)) (ck (0 ≤ (x5 + 2) ∧ (x5 + 2) < (L : Int)) (ck (vf_n32 (FP.fmul (FP.i2f (Int32.ofInt (xs (x5 + 2).toNat))) (UInt32.ofNat 1040187392))) ((f_X5_hit (FP.fmul (FP.i2f (Int32.ofInt (xs (x5 + 1).toNat))) (UInt32.ofNat 1040187392)) (FP.fmul (FP.i2f (Int32.ofInt (xs (x5 + 2).toNat))) (UInt32.ofNat 1040187392)) s).bind (fun q193 => ck (inR (x5 + 1)) (ck (0 ≤ (x5 + 1) ∧ (x5 + 1) < (L : Int)) (ck (vf_n32 (FP.fmul (FP.i2f (Int32.ofInt (xs (x5 + 1).toNat))) (UInt32.ofNat 1040187392))) (ck (inR (x5 + 2)) (ck (0 ≤ (x5 + 2) ∧ (x5 + 2) < (L : Int)) (ck (vf_n32 (FP.fmul (FP.i2f (Int32.ofInt (xs (x5 + 2).toNat))) (UInt32.ofNat 1040187392))) ((f_X6_hit (FP.fmul (FP.i2f (Int32.ofInt (xs (x5 + 1).toNat))) (UInt32.ofNat 1040187392)) (FP.fmul (FP.i2f (Int32.ofInt (xs (x5 + 2).toNat))) (UInt32.ofNat 1040187392)) q193.2).bind (fun q200 => (if q193.1 = q200.1 then f_L_law_1011 L xs (f_L_law_28 L xs K681 K771 K898 K1006 K1017 n) K681 K771 K898 K1006 K1017 x5 q200.2 else some (0, q200.2)))))))))))))))) else (if ((xs x5.toNat) % 16) = 15 then ck (inR (x5 + 1)) (ck (0 ≤ (x5 + 1) ∧ (x5 + 1) < (L : Int)) ((f_X5_free (xs (x5 + 1).toNat) s).bind (fun q205 => ck (vf_n64 (FP.f2d q205.1)) (bs ((FP.f2d q205.1)) (fun v207 => ck (inR (x5 + 1)) (ck (0 ≤ (x5 + 1) ∧ (x5 + 1) < (L : Int)) ((f_X6_free (xs (x5 + 1).toNat) q205.2).bind (fun q210 => ck (vf_n64 (FP.f2d q210.1)) (bs ((FP.f2d q210.1)) (fun v212 => (if (pm_dc .l v207 v212) = 0 then f_L_law_1008 L xs (f_L_law_28 L xs K681 K771 K898 K1006 K1017 n) K681 K771 K898 K1006 K1017 x5 v207 v212 q210.2 else (if (pm_dc .l v207 v207) = 0 then K1006 v207 v212 q210.2 else (if (pm_dc .l v212 v212) ≠ 0 then f_L_law_1008 L xs (f_L_law_28 L xs K681 K771 K898 K1006 K1017 n) K681 K771 K898 K1006 K1017 x5 v207 v212 q210.2 else K1006 v207 v212 q210.2))))))))))))) else none)))))))))))))))))))
set_option maxRecDepth 10000 in
theorem t_L_law_28 {L : Nat} {xs : Nat → Int} (hL : L ≤ 1000) (q : Int × pS) (X : List (Option pV) → List pV → Nat → pH → Prop) (hX : pm_clo L xs (pCall pm_tx 1001 xs pm_P 14) 14 mL_law (eI q) X) (K681 : pS → Option (Int × pS)) (K771 : pS → Option (Int × pS)) (K898 : pS → Option (Int × pS)) (K1006 : UInt64 → UInt64 → pS → Option (Int × pS)) (K1017 : pS → Option (Int × pS)) (hK681 : ∀ (d0 : Option pV) (d1 : Option pV) (d2 : Option pV) (d3 : Option pV) (d4 : Option pV) (d5 : Option pV) (d6 : Option pV) (d7 : Option pV) (d8 : Option pV) (d9 : Option pV) (s : pS), K681 s = some q → X [d0, d1, d2, d3, d4, d5, d6, d7, d8, d9] [] 681 (pW s)) (hK771 : ∀ (d0 : Option pV) (d1 : Option pV) (d2 : Option pV) (d3 : Option pV) (d4 : Option pV) (d5 : Option pV) (d6 : Option pV) (d7 : Option pV) (d8 : Option pV) (d9 : Option pV) (s : pS), K771 s = some q → X [d0, d1, d2, d3, d4, d5, d6, d7, d8, d9] [] 771 (pW s)) (hK898 : ∀ (d0 : Option pV) (d1 : Option pV) (d2 : Option pV) (d3 : Option pV) (d4 : Option pV) (d5 : Option pV) (d6 : Option pV) (d7 : Option pV) (d8 : Option pV) (d9 : Option pV) (s : pS), K898 s = some q → X [d0, d1, d2, d3, d4, d5, d6, d7, d8, d9] [] 898 (pW s)) (hK1006 : ∀ (x6 : UInt64) (x8 : UInt64) (d0 : Option pV) (d1 : Option pV) (d2 : Option pV) (d3 : Option pV) (d4 : Option pV) (d5 : Option pV) (s : pS), K1006 x6 x8 s = some q → X [d0, d1, d2, d3, d4, d5, some (vD x6), none, some (vD x8), none] [] 1006 (pW s)) (hK1017 : ∀ (d0 : Option pV) (d1 : Option pV) (d2 : Option pV) (d3 : Option pV) (d4 : Option pV) (d5 : Option pV) (d6 : Option pV) (d7 : Option pV) (d8 : Option pV) (d9 : Option pV) (s : pS), K1017 s = some q → X [d0, d1, d2, d3, d4, d5, d6, d7, d8, d9] [] 1017 (pW s)) : ∀ (n : Nat) (x5 : Int) (d6 : Option pV) (d7 : Option pV) (d8 : Option pV) (d9 : Option pV) (s : pS), f_L_law_28 L xs K681 K771 K898 K1006 K1017 n x5 s = some q → X [some (vX 2), some (vR (cc 5 0)), some (vR (cc 6 0)), some (vR (ca 700 0)), some (vR (ca 701 0)), some (vI x5), d6, d7, d8, d9] [] 28 (pW s) := by
  intro n
  induction n with
  | zero =>
    intro x5 d6 d7 d8 d9 s h
    rw [f_L_law_28] at h
    cases h
  | succ n ih =>
    intro x5 d6 d7 d8 d9 s h
    rw [f_L_law_28] at h
    refine r_iload hX (p2 := 30) rfl rfl rfl ?_
    refine r_aload_n hX (p2 := 31) rfl rfl rfl ⟨1, Or.inr rfl⟩ ?_
    refine r_xlen hX (p2 := 32) rfl rfl hL ?_
    refine r_iconst hX (p2 := 33) rfl rfl rfl ?_
    obtain ⟨c1, h⟩ := ck_some h
    refine r_isub hX (p2 := 34) rfl rfl c1 ?_
    refine r_icmp hX (p2 := 1017) (p3 := 37) (P := ((L : Int) - 5) < x5) rfl (by decide) rfl rfl (fun p217 => ?_) (fun p217 => ?_)
    · have h := it_pos h p217
      exact hK1017 (some (vX 2)) (some (vR (cc 5 0))) (some (vR (cc 6 0))) (some (vR (ca 700 0))) (some (vR (ca 701 0))) (some (vI x5)) d6 d7 d8 d9 s h
    · have h := it_neg h p217
      refine r_aload_n hX (p2 := 38) rfl rfl rfl ⟨1, Or.inr rfl⟩ ?_
      refine r_iload hX (p2 := 40) rfl rfl rfl ?_
      obtain ⟨c2, h⟩ := ck_some h
      refine r_xload hX (p2 := 41) rfl rfl hL c2 ?_
      refine r_bipush hX (p2 := 43) rfl rfl rfl ?_
      refine r_iand hX (p2 := 44) rfl rfl ?_
      by_cases p10 : ((xs x5.toNat) % 16) = 0
      · have h := it_pos h p10
        refine r_tsw hX (p2 := 124) rfl 0 p10 (by decide) (by decide) rfl (by decide) ?_
        refine r_aload_n hX (p2 := 125) rfl rfl rfl ⟨_, Or.inl rfl⟩ ?_
        refine r_aload_n hX (p2 := 126) rfl rfl rfl ⟨1, Or.inr rfl⟩ ?_
        refine r_iload hX (p2 := 128) rfl rfl rfl ?_
        refine r_iconst hX (p2 := 129) rfl rfl rfl ?_
        obtain ⟨c3, h⟩ := ck_some h
        refine r_iadd hX (p2 := 130) rfl rfl c3 ?_
        obtain ⟨c4, h⟩ := ck_some h
        refine r_xload hX (p2 := 131) rfl rfl hL c4 ?_
        refine r_i2c hX (p2 := 132) rfl rfl ?_
        obtain ⟨q5, hq5, h⟩ := bd_some h
        refine r_callv hX (p2 := 135) (v := some (vI q5.1)) (as := [vI ((xs (x5 + 1).toNat) % 65536)]) (r := []) (st2 := [vI q5.1]) rfl rfl rfl rfl rfl (hc5 0 (by decide)) rfl rfl (c_X5_write xs 12 ((xs (x5 + 1).toNat) % 65536) s q5 hq5) ?_
        refine r_aload_n hX (p2 := 136) rfl rfl rfl ⟨_, Or.inl rfl⟩ ?_
        refine r_aload_n hX (p2 := 137) rfl rfl rfl ⟨1, Or.inr rfl⟩ ?_
        refine r_iload hX (p2 := 139) rfl rfl rfl ?_
        refine r_iconst hX (p2 := 140) rfl rfl rfl ?_
        obtain ⟨c6, h⟩ := ck_some h
        refine r_iadd hX (p2 := 141) rfl rfl c6 ?_
        obtain ⟨c7, h⟩ := ck_some h
        refine r_xload hX (p2 := 142) rfl rfl hL c7 ?_
        refine r_i2c hX (p2 := 143) rfl rfl ?_
        obtain ⟨q8, hq8, h⟩ := bd_some h
        refine r_callv hX (p2 := 146) (v := some (vI q8.1)) (as := [vI ((xs (x5 + 1).toNat) % 65536)]) (r := [vI q5.1]) (st2 := [vI q8.1, vI q5.1]) rfl rfl rfl rfl rfl (hc6 0 (by decide)) rfl rfl (c_X6_write xs 13 ((xs (x5 + 1).toNat) % 65536) q5.2 q8 hq8) ?_
        refine r_icmp hX (p2 := 1011) (p3 := 149) (P := q5.1 = q8.1) rfl (by decide) rfl rfl (fun p9 => ?_) (fun p9 => ?_)
        · have h := it_pos h p9
          exact t_L_law_1011 hL q X hX _ _ _ _ _ _ ih hK681 hK771 hK898 hK1006 hK1017 x5 d6 d7 d8 d9 q8.2 h
        · have h := it_neg h p9
          refine r_iconst hX (p2 := 150) rfl rfl rfl ?_
          exact r_iretZ hX rfl rfl (Or.inl rfl) (eI_ok h)
      have h := it_neg h p10
      by_cases p21 : ((xs x5.toNat) % 16) = 1
      · have h := it_pos h p21
        refine r_tsw hX (p2 := 151) rfl 1 p21 (by decide) (by decide) rfl (by decide) ?_
        refine r_aload_n hX (p2 := 152) rfl rfl rfl ⟨_, Or.inl rfl⟩ ?_
        refine r_aload_n hX (p2 := 153) rfl rfl rfl ⟨1, Or.inr rfl⟩ ?_
        refine r_iload hX (p2 := 155) rfl rfl rfl ?_
        refine r_iconst hX (p2 := 156) rfl rfl rfl ?_
        obtain ⟨c11, h⟩ := ck_some h
        refine r_iadd hX (p2 := 157) rfl rfl c11 ?_
        obtain ⟨c12, h⟩ := ck_some h
        refine r_xload hX (p2 := 158) rfl rfl hL c12 ?_
        refine r_aload_n hX (p2 := 159) rfl rfl rfl ⟨_, Or.inl rfl⟩ ?_
        obtain ⟨q13, hq13, h⟩ := bd_some h
        refine r_calls5 hX (p2 := 162) (v := some (vI q13.1)) (as := [vR (cc 5 0), vI (xs (x5 + 1).toNat), vR (ca 700 0)]) (r := []) (st2 := [vI q13.1]) rfl rfl rfl rfl rfl rfl (c_L_template xs 3 (xs (x5 + 1).toNat) s q13 hq13) ?_
        refine r_istore hX (p2 := 164) (ls2 := [some (vX 2), some (vR (cc 5 0)), some (vR (cc 6 0)), some (vR (ca 700 0)), some (vR (ca 701 0)), some (vI x5), some (vI q13.1), d7, d8, d9]) rfl rfl rfl rfl ?_
        refine r_aload_n hX (p2 := 165) rfl rfl rfl ⟨_, Or.inl rfl⟩ ?_
        refine r_aload_n hX (p2 := 166) rfl rfl rfl ⟨1, Or.inr rfl⟩ ?_
        refine r_iload hX (p2 := 168) rfl rfl rfl ?_
        refine r_iconst hX (p2 := 169) rfl rfl rfl ?_
        obtain ⟨c14, h⟩ := ck_some h
        refine r_iadd hX (p2 := 170) rfl rfl c14 ?_
        obtain ⟨c15, h⟩ := ck_some h
        refine r_xload hX (p2 := 171) rfl rfl hL c15 ?_
        obtain ⟨q16, hq16, h⟩ := bd_some h
        refine r_callv hX (p2 := 174) (v := some (vI q16.1)) (as := [vI (xs (x5 + 1).toNat)]) (r := []) (st2 := [vI q16.1]) rfl rfl rfl rfl rfl (hc6 0 (by decide)) rfl rfl (c_X6_template xs 4 (xs (x5 + 1).toNat) q13.2 q16 hq16) ?_
        refine r_istore hX (p2 := 176) (ls2 := [some (vX 2), some (vR (cc 5 0)), some (vR (cc 6 0)), some (vR (ca 700 0)), some (vR (ca 701 0)), some (vI x5), some (vI q13.1), some (vI q16.1), d8, d9]) rfl rfl rfl rfl ?_
        refine r_aload_n hX (p2 := 177) rfl rfl rfl ⟨_, Or.inl rfl⟩ ?_
        obtain ⟨q17, hq17, h⟩ := bd_some h
        refine r_callv hX (p2 := 180) (v := some (vI q17.1)) (as := []) (r := []) (st2 := [vI q17.1]) rfl rfl rfl rfl rfl (hc6 0 (by decide)) rfl rfl (c_X6_thrown xs 13 q16.2 q17 hq17) ?_
        refine r_iload hX (p2 := 182) rfl rfl rfl ?_
        refine r_icmp hX (p2 := 187) (p3 := 185) (P := q17.1 = q13.1) rfl (by decide) rfl rfl (fun p20 => ?_) (fun p20 => ?_)
        · have h := it_pos h p20
          refine r_iload hX (p2 := 189) rfl rfl rfl ?_
          refine r_if hX (p2 := 204) (p3 := 192) (P := q13.1 ≠ 0) rfl (by decide) rfl rfl (fun p19 => ?_) (fun p19 => ?_)
          · have h := it_pos h p19
            exact t_L_law_204 hL q X hX _ _ _ _ _ _ ih hK681 hK771 hK898 hK1006 hK1017 x5 (some (vI q13.1)) (some (vI q16.1)) d8 d9 q17.2 h
          · have h := it_neg h p19
            refine r_aload_n hX (p2 := 193) rfl rfl rfl ⟨_, Or.inl rfl⟩ ?_
            refine r_iconst hX (p2 := 194) rfl rfl rfl ?_
            refine r_laload hX (p2 := 195) (j := 0) rfl rfl (ha700 0 (by decide)) rfl rfl ⟨by decide, by decide⟩ rfl ?_
            refine r_iload hX (p2 := 197) rfl rfl rfl ?_
            refine r_i2l hX (p2 := 198) rfl rfl ?_
            refine r_lcmp hX (p2 := 199) rfl rfl ?_
            refine r_if hX (p2 := 204) (p3 := 202) (P := (pm_lc (sA q17.2 700 0 0) q16.1) = 0) rfl (by decide) rfl rfl (fun p18 => ?_) (fun p18 => ?_)
            · have h := it_pos h p18
              exact t_L_law_204 hL q X hX _ _ _ _ _ _ ih hK681 hK771 hK898 hK1006 hK1017 x5 (some (vI q13.1)) (some (vI q16.1)) d8 d9 q17.2 h
            · have h := it_neg h p18
              refine r_iconst hX (p2 := 203) rfl rfl rfl ?_
              exact r_iretZ hX rfl rfl (Or.inl rfl) (eI_ok h)
        · have h := it_neg h p20
          refine r_iconst hX (p2 := 186) rfl rfl rfl ?_
          exact r_iretZ hX rfl rfl (Or.inl rfl) (eI_ok h)
      have h := it_neg h p21
      by_cases p25 : ((xs x5.toNat) % 16) = 2
      · have h := it_pos h p25
        refine r_tsw hX (p2 := 207) rfl 2 p25 (by decide) (by decide) rfl (by decide) ?_
        refine r_aload_n hX (p2 := 208) rfl rfl rfl ⟨_, Or.inl rfl⟩ ?_
        obtain ⟨q22, hq22, h⟩ := bd_some h
        refine r_callv hX (p2 := 211) (v := some (vI q22.1)) (as := []) (r := []) (st2 := [vI q22.1]) rfl rfl rfl rfl rfl (hc5 0 (by decide)) rfl rfl (c_X5_place xs 13 s q22 hq22) ?_
        refine r_aload_n hX (p2 := 212) rfl rfl rfl ⟨_, Or.inl rfl⟩ ?_
        obtain ⟨q23, hq23, h⟩ := bd_some h
        refine r_callv hX (p2 := 215) (v := some (vI q23.1)) (as := []) (r := [vI q22.1]) (st2 := [vI q23.1, vI q22.1]) rfl rfl rfl rfl rfl (hc6 0 (by decide)) rfl rfl (c_X6_place xs 13 q22.2 q23 hq23) ?_
        refine r_icmp hX (p2 := 1011) (p3 := 218) (P := q22.1 = q23.1) rfl (by decide) rfl rfl (fun p24 => ?_) (fun p24 => ?_)
        · have h := it_pos h p24
          exact t_L_law_1011 hL q X hX _ _ _ _ _ _ ih hK681 hK771 hK898 hK1006 hK1017 x5 d6 d7 d8 d9 q23.2 h
        · have h := it_neg h p24
          refine r_iconst hX (p2 := 219) rfl rfl rfl ?_
          exact r_iretZ hX rfl rfl (Or.inl rfl) (eI_ok h)
      have h := it_neg h p25
      by_cases p48 : ((xs x5.toNat) % 16) = 3
      · have h := it_pos h p48
        refine r_tsw hX (p2 := 220) rfl 3 p48 (by decide) (by decide) rfl (by decide) ?_
        refine r_aload_n hX (p2 := 221) rfl rfl rfl ⟨_, Or.inl rfl⟩ ?_
        refine r_aload_n hX (p2 := 222) rfl rfl rfl ⟨1, Or.inr rfl⟩ ?_
        refine r_iload hX (p2 := 224) rfl rfl rfl ?_
        refine r_iconst hX (p2 := 225) rfl rfl rfl ?_
        obtain ⟨c26, h⟩ := ck_some h
        refine r_iadd hX (p2 := 226) rfl rfl c26 ?_
        obtain ⟨c27, h⟩ := ck_some h
        refine r_xload hX (p2 := 227) rfl rfl hL c27 ?_
        refine r_aload_n hX (p2 := 228) rfl rfl rfl ⟨1, Or.inr rfl⟩ ?_
        refine r_iload hX (p2 := 230) rfl rfl rfl ?_
        refine r_iconst hX (p2 := 231) rfl rfl rfl ?_
        obtain ⟨c28, h⟩ := ck_some h
        refine r_iadd hX (p2 := 232) rfl rfl c28 ?_
        obtain ⟨c29, h⟩ := ck_some h
        refine r_xload hX (p2 := 233) rfl rfl hL c29 ?_
        refine r_aload_n hX (p2 := 234) rfl rfl rfl ⟨1, Or.inr rfl⟩ ?_
        refine r_iload hX (p2 := 236) rfl rfl rfl ?_
        refine r_iconst hX (p2 := 237) rfl rfl rfl ?_
        obtain ⟨c30, h⟩ := ck_some h
        refine r_iadd hX (p2 := 238) rfl rfl c30 ?_
        obtain ⟨c31, h⟩ := ck_some h
        refine r_xload hX (p2 := 239) rfl rfl hL c31 ?_
        refine r_aload_n hX (p2 := 240) rfl rfl rfl ⟨1, Or.inr rfl⟩ ?_
        refine r_iload hX (p2 := 242) rfl rfl rfl ?_
        refine r_iconst hX (p2 := 243) rfl rfl rfl ?_
        obtain ⟨c32, h⟩ := ck_some h
        refine r_iadd hX (p2 := 244) rfl rfl c32 ?_
        obtain ⟨c33, h⟩ := ck_some h
        refine r_xload hX (p2 := 245) rfl rfl hL c33 ?_
        refine r_aload_n hX (p2 := 246) rfl rfl rfl ⟨_, Or.inl rfl⟩ ?_
        obtain ⟨q34, hq34, h⟩ := bd_some h
        refine r_calls5 hX (p2 := 249) (v := some (vI q34.1)) (as := [vR (cc 5 0), vI (xs (x5 + 1).toNat), vI (xs (x5 + 2).toNat), vI (xs (x5 + 3).toNat), vI (xs (x5 + 4).toNat), vR (ca 700 0)]) (r := []) (st2 := [vI q34.1]) rfl rfl rfl rfl rfl rfl (c_L_item xs 5 (xs (x5 + 1).toNat) (xs (x5 + 2).toNat) (xs (x5 + 3).toNat) (xs (x5 + 4).toNat) s q34 hq34) ?_
        refine r_istore hX (p2 := 251) (ls2 := [some (vX 2), some (vR (cc 5 0)), some (vR (cc 6 0)), some (vR (ca 700 0)), some (vR (ca 701 0)), some (vI x5), some (vI q34.1), d7, d8, d9]) rfl rfl rfl rfl ?_
        refine r_aload_n hX (p2 := 252) rfl rfl rfl ⟨_, Or.inl rfl⟩ ?_
        refine r_aload_n hX (p2 := 253) rfl rfl rfl ⟨1, Or.inr rfl⟩ ?_
        refine r_iload hX (p2 := 255) rfl rfl rfl ?_
        refine r_iconst hX (p2 := 256) rfl rfl rfl ?_
        obtain ⟨c35, h⟩ := ck_some h
        refine r_iadd hX (p2 := 257) rfl rfl c35 ?_
        obtain ⟨c36, h⟩ := ck_some h
        refine r_xload hX (p2 := 258) rfl rfl hL c36 ?_
        refine r_aload_n hX (p2 := 259) rfl rfl rfl ⟨1, Or.inr rfl⟩ ?_
        refine r_iload hX (p2 := 261) rfl rfl rfl ?_
        refine r_iconst hX (p2 := 262) rfl rfl rfl ?_
        obtain ⟨c37, h⟩ := ck_some h
        refine r_iadd hX (p2 := 263) rfl rfl c37 ?_
        obtain ⟨c38, h⟩ := ck_some h
        refine r_xload hX (p2 := 264) rfl rfl hL c38 ?_
        refine r_aload_n hX (p2 := 265) rfl rfl rfl ⟨1, Or.inr rfl⟩ ?_
        refine r_iload hX (p2 := 267) rfl rfl rfl ?_
        refine r_iconst hX (p2 := 268) rfl rfl rfl ?_
        obtain ⟨c39, h⟩ := ck_some h
        refine r_iadd hX (p2 := 269) rfl rfl c39 ?_
        obtain ⟨c40, h⟩ := ck_some h
        refine r_xload hX (p2 := 270) rfl rfl hL c40 ?_
        refine r_aload_n hX (p2 := 271) rfl rfl rfl ⟨1, Or.inr rfl⟩ ?_
        refine r_iload hX (p2 := 273) rfl rfl rfl ?_
        refine r_iconst hX (p2 := 274) rfl rfl rfl ?_
        obtain ⟨c41, h⟩ := ck_some h
        refine r_iadd hX (p2 := 275) rfl rfl c41 ?_
        obtain ⟨c42, h⟩ := ck_some h
        refine r_xload hX (p2 := 276) rfl rfl hL c42 ?_
        obtain ⟨q43, hq43, h⟩ := bd_some h
        refine r_callv hX (p2 := 279) (v := some (vI q43.1)) (as := [vI (xs (x5 + 1).toNat), vI (xs (x5 + 2).toNat), vI (xs (x5 + 3).toNat), vI (xs (x5 + 4).toNat)]) (r := []) (st2 := [vI q43.1]) rfl rfl rfl rfl rfl (hc6 0 (by decide)) rfl rfl (c_X6_item xs 11 (xs (x5 + 1).toNat) (xs (x5 + 2).toNat) (xs (x5 + 3).toNat) (xs (x5 + 4).toNat) q34.2 q43 hq43) ?_
        refine r_istore hX (p2 := 281) (ls2 := [some (vX 2), some (vR (cc 5 0)), some (vR (cc 6 0)), some (vR (ca 700 0)), some (vR (ca 701 0)), some (vI x5), some (vI q34.1), some (vI q43.1), d8, d9]) rfl rfl rfl rfl ?_
        refine r_aload_n hX (p2 := 282) rfl rfl rfl ⟨_, Or.inl rfl⟩ ?_
        obtain ⟨q44, hq44, h⟩ := bd_some h
        refine r_callv hX (p2 := 285) (v := some (vI q44.1)) (as := []) (r := []) (st2 := [vI q44.1]) rfl rfl rfl rfl rfl (hc6 0 (by decide)) rfl rfl (c_X6_thrown xs 13 q43.2 q44 hq44) ?_
        refine r_iload hX (p2 := 287) rfl rfl rfl ?_
        refine r_icmp hX (p2 := 292) (p3 := 290) (P := q44.1 = q34.1) rfl (by decide) rfl rfl (fun p47 => ?_) (fun p47 => ?_)
        · have h := it_pos h p47
          refine r_iload hX (p2 := 294) rfl rfl rfl ?_
          refine r_if hX (p2 := 309) (p3 := 297) (P := q34.1 ≠ 0) rfl (by decide) rfl rfl (fun p46 => ?_) (fun p46 => ?_)
          · have h := it_pos h p46
            exact t_L_law_309 hL q X hX _ _ _ _ _ _ ih hK681 hK771 hK898 hK1006 hK1017 x5 (some (vI q34.1)) (some (vI q43.1)) d8 d9 q44.2 h
          · have h := it_neg h p46
            refine r_aload_n hX (p2 := 298) rfl rfl rfl ⟨_, Or.inl rfl⟩ ?_
            refine r_iconst hX (p2 := 299) rfl rfl rfl ?_
            refine r_laload hX (p2 := 300) (j := 0) rfl rfl (ha700 0 (by decide)) rfl rfl ⟨by decide, by decide⟩ rfl ?_
            refine r_iload hX (p2 := 302) rfl rfl rfl ?_
            refine r_i2l hX (p2 := 303) rfl rfl ?_
            refine r_lcmp hX (p2 := 304) rfl rfl ?_
            refine r_if hX (p2 := 309) (p3 := 307) (P := (pm_lc (sA q44.2 700 0 0) q43.1) = 0) rfl (by decide) rfl rfl (fun p45 => ?_) (fun p45 => ?_)
            · have h := it_pos h p45
              exact t_L_law_309 hL q X hX _ _ _ _ _ _ ih hK681 hK771 hK898 hK1006 hK1017 x5 (some (vI q34.1)) (some (vI q43.1)) d8 d9 q44.2 h
            · have h := it_neg h p45
              refine r_iconst hX (p2 := 308) rfl rfl rfl ?_
              exact r_iretZ hX rfl rfl (Or.inl rfl) (eI_ok h)
        · have h := it_neg h p47
          refine r_iconst hX (p2 := 291) rfl rfl rfl ?_
          exact r_iretZ hX rfl rfl (Or.inl rfl) (eI_ok h)
      have h := it_neg h p48
      by_cases p72 : ((xs x5.toNat) % 16) = 4
      · have h := it_pos h p72
        refine r_tsw hX (p2 := 312) rfl 4 p72 (by decide) (by decide) rfl (by decide) ?_
        refine r_aload_n hX (p2 := 313) rfl rfl rfl ⟨_, Or.inl rfl⟩ ?_
        refine r_aload_n hX (p2 := 314) rfl rfl rfl ⟨1, Or.inr rfl⟩ ?_
        refine r_iload hX (p2 := 316) rfl rfl rfl ?_
        refine r_iconst hX (p2 := 317) rfl rfl rfl ?_
        obtain ⟨c49, h⟩ := ck_some h
        refine r_iadd hX (p2 := 318) rfl rfl c49 ?_
        obtain ⟨c50, h⟩ := ck_some h
        refine r_xload hX (p2 := 319) rfl rfl hL c50 ?_
        refine r_aload_n hX (p2 := 320) rfl rfl rfl ⟨1, Or.inr rfl⟩ ?_
        refine r_iload hX (p2 := 322) rfl rfl rfl ?_
        refine r_iconst hX (p2 := 323) rfl rfl rfl ?_
        obtain ⟨c51, h⟩ := ck_some h
        refine r_iadd hX (p2 := 324) rfl rfl c51 ?_
        obtain ⟨c52, h⟩ := ck_some h
        refine r_xload hX (p2 := 325) rfl rfl hL c52 ?_
        refine r_aload_n hX (p2 := 326) rfl rfl rfl ⟨1, Or.inr rfl⟩ ?_
        refine r_iload hX (p2 := 328) rfl rfl rfl ?_
        refine r_iconst hX (p2 := 329) rfl rfl rfl ?_
        obtain ⟨c53, h⟩ := ck_some h
        refine r_iadd hX (p2 := 330) rfl rfl c53 ?_
        obtain ⟨c54, h⟩ := ck_some h
        refine r_xload hX (p2 := 331) rfl rfl hL c54 ?_
        refine r_i2f hX (p2 := 332) rfl rfl ?_
        refine r_ldcF hX (p2 := 334) (x := UInt32.ofNat 1040187392) rfl rfl rfl rfl ?_
        obtain ⟨c55, h⟩ := ck_some h
        refine r_fmul hX (p2 := 335) rfl rfl c55 ?_
        refine r_aload_n hX (p2 := 336) rfl rfl rfl ⟨1, Or.inr rfl⟩ ?_
        refine r_iload hX (p2 := 338) rfl rfl rfl ?_
        refine r_iconst hX (p2 := 339) rfl rfl rfl ?_
        obtain ⟨c56, h⟩ := ck_some h
        refine r_iadd hX (p2 := 340) rfl rfl c56 ?_
        obtain ⟨c57, h⟩ := ck_some h
        refine r_xload hX (p2 := 341) rfl rfl hL c57 ?_
        refine r_i2f hX (p2 := 342) rfl rfl ?_
        refine r_ldcF hX (p2 := 344) (x := UInt32.ofNat 1040187392) rfl rfl rfl rfl ?_
        obtain ⟨c58, h⟩ := ck_some h
        refine r_fmul hX (p2 := 345) rfl rfl c58 ?_
        obtain ⟨q59, hq59, h⟩ := bd_some h
        refine r_callv hX (p2 := 348) (v := some (vI q59.1)) (as := [vI (xs (x5 + 1).toNat), vI (xs (x5 + 2).toNat), vF (FP.fmul (FP.i2f (Int32.ofInt (xs (x5 + 3).toNat))) (UInt32.ofNat 1040187392)), vF (FP.fmul (FP.i2f (Int32.ofInt (xs (x5 + 4).toNat))) (UInt32.ofNat 1040187392))]) (r := []) (st2 := [vI q59.1]) rfl rfl rfl rfl rfl (hc5 0 (by decide)) rfl rfl (c_X5_need xs 12 (xs (x5 + 1).toNat) (xs (x5 + 2).toNat) (FP.fmul (FP.i2f (Int32.ofInt (xs (x5 + 3).toNat))) (UInt32.ofNat 1040187392)) (FP.fmul (FP.i2f (Int32.ofInt (xs (x5 + 4).toNat))) (UInt32.ofNat 1040187392)) s q59 hq59) ?_
        refine r_aload_n hX (p2 := 349) rfl rfl rfl ⟨_, Or.inl rfl⟩ ?_
        refine r_aload_n hX (p2 := 350) rfl rfl rfl ⟨1, Or.inr rfl⟩ ?_
        refine r_iload hX (p2 := 352) rfl rfl rfl ?_
        refine r_iconst hX (p2 := 353) rfl rfl rfl ?_
        obtain ⟨c60, h⟩ := ck_some h
        refine r_iadd hX (p2 := 354) rfl rfl c60 ?_
        obtain ⟨c61, h⟩ := ck_some h
        refine r_xload hX (p2 := 355) rfl rfl hL c61 ?_
        refine r_aload_n hX (p2 := 356) rfl rfl rfl ⟨1, Or.inr rfl⟩ ?_
        refine r_iload hX (p2 := 358) rfl rfl rfl ?_
        refine r_iconst hX (p2 := 359) rfl rfl rfl ?_
        obtain ⟨c62, h⟩ := ck_some h
        refine r_iadd hX (p2 := 360) rfl rfl c62 ?_
        obtain ⟨c63, h⟩ := ck_some h
        refine r_xload hX (p2 := 361) rfl rfl hL c63 ?_
        refine r_aload_n hX (p2 := 362) rfl rfl rfl ⟨1, Or.inr rfl⟩ ?_
        refine r_iload hX (p2 := 364) rfl rfl rfl ?_
        refine r_iconst hX (p2 := 365) rfl rfl rfl ?_
        obtain ⟨c64, h⟩ := ck_some h
        refine r_iadd hX (p2 := 366) rfl rfl c64 ?_
        obtain ⟨c65, h⟩ := ck_some h
        refine r_xload hX (p2 := 367) rfl rfl hL c65 ?_
        refine r_i2f hX (p2 := 368) rfl rfl ?_
        refine r_ldcF hX (p2 := 370) (x := UInt32.ofNat 1040187392) rfl rfl rfl rfl ?_
        obtain ⟨c66, h⟩ := ck_some h
        refine r_fmul hX (p2 := 371) rfl rfl c66 ?_
        refine r_aload_n hX (p2 := 372) rfl rfl rfl ⟨1, Or.inr rfl⟩ ?_
        refine r_iload hX (p2 := 374) rfl rfl rfl ?_
        refine r_iconst hX (p2 := 375) rfl rfl rfl ?_
        obtain ⟨c67, h⟩ := ck_some h
        refine r_iadd hX (p2 := 376) rfl rfl c67 ?_
        obtain ⟨c68, h⟩ := ck_some h
        refine r_xload hX (p2 := 377) rfl rfl hL c68 ?_
        refine r_i2f hX (p2 := 378) rfl rfl ?_
        refine r_ldcF hX (p2 := 380) (x := UInt32.ofNat 1040187392) rfl rfl rfl rfl ?_
        obtain ⟨c69, h⟩ := ck_some h
        refine r_fmul hX (p2 := 381) rfl rfl c69 ?_
        obtain ⟨q70, hq70, h⟩ := bd_some h
        refine r_callv hX (p2 := 384) (v := some (vI q70.1)) (as := [vI (xs (x5 + 1).toNat), vI (xs (x5 + 2).toNat), vF (FP.fmul (FP.i2f (Int32.ofInt (xs (x5 + 3).toNat))) (UInt32.ofNat 1040187392)), vF (FP.fmul (FP.i2f (Int32.ofInt (xs (x5 + 4).toNat))) (UInt32.ofNat 1040187392))]) (r := [vI q59.1]) (st2 := [vI q70.1, vI q59.1]) rfl rfl rfl rfl rfl (hc6 0 (by decide)) rfl rfl (c_X6_need xs 12 (xs (x5 + 1).toNat) (xs (x5 + 2).toNat) (FP.fmul (FP.i2f (Int32.ofInt (xs (x5 + 3).toNat))) (UInt32.ofNat 1040187392)) (FP.fmul (FP.i2f (Int32.ofInt (xs (x5 + 4).toNat))) (UInt32.ofNat 1040187392)) q59.2 q70 hq70) ?_
        refine r_icmp hX (p2 := 1011) (p3 := 387) (P := q59.1 = q70.1) rfl (by decide) rfl rfl (fun p71 => ?_) (fun p71 => ?_)
        · have h := it_pos h p71
          exact t_L_law_1011 hL q X hX _ _ _ _ _ _ ih hK681 hK771 hK898 hK1006 hK1017 x5 d6 d7 d8 d9 q70.2 h
        · have h := it_neg h p71
          refine r_iconst hX (p2 := 388) rfl rfl rfl ?_
          exact r_iretZ hX rfl rfl (Or.inl rfl) (eI_ok h)
      have h := it_neg h p72
      by_cases p76 : ((xs x5.toNat) % 16) = 5
      · have h := it_pos h p76
        refine r_tsw hX (p2 := 389) rfl 5 p76 (by decide) (by decide) rfl (by decide) ?_
        refine r_aload_n hX (p2 := 390) rfl rfl rfl ⟨_, Or.inl rfl⟩ ?_
        refine r_aload_n hX (p2 := 391) rfl rfl rfl ⟨1, Or.inr rfl⟩ ?_
        refine r_iload hX (p2 := 393) rfl rfl rfl ?_
        refine r_iconst hX (p2 := 394) rfl rfl rfl ?_
        obtain ⟨c73, h⟩ := ck_some h
        refine r_iadd hX (p2 := 395) rfl rfl c73 ?_
        obtain ⟨c74, h⟩ := ck_some h
        refine r_xload hX (p2 := 396) rfl rfl hL c74 ?_
        refine r_if hX (p2 := 403) (p3 := 399) (P := (xs (x5 + 1).toNat) = 0) rfl (by decide) rfl rfl (fun p75 => ?_) (fun p75 => ?_)
        · have h := it_pos h p75
          refine r_iconst hX (p2 := 404) rfl rfl rfl ?_
          exact t_L_law_404 hL q X hX _ _ _ _ _ _ ih hK681 hK771 hK898 hK1006 hK1017 x5 0 d6 d7 d8 d9 s h
        · have h := it_neg h p75
          refine r_iconst hX (p2 := 400) rfl rfl rfl ?_
          refine r_goto hX (p2 := 404) rfl (by decide) ?_
          exact t_L_law_404 hL q X hX _ _ _ _ _ _ ih hK681 hK771 hK898 hK1006 hK1017 x5 1 d6 d7 d8 d9 s h
      have h := it_neg h p76
      by_cases p96 : ((xs x5.toNat) % 16) = 6
      · have h := it_pos h p96
        refine r_tsw hX (p2 := 456) rfl 6 p96 (by decide) (by decide) rfl (by decide) ?_
        refine r_aload_n hX (p2 := 457) rfl rfl rfl ⟨_, Or.inl rfl⟩ ?_
        refine r_aload_n hX (p2 := 458) rfl rfl rfl ⟨1, Or.inr rfl⟩ ?_
        refine r_iload hX (p2 := 460) rfl rfl rfl ?_
        refine r_iconst hX (p2 := 461) rfl rfl rfl ?_
        obtain ⟨c77, h⟩ := ck_some h
        refine r_iadd hX (p2 := 462) rfl rfl c77 ?_
        obtain ⟨c78, h⟩ := ck_some h
        refine r_xload hX (p2 := 463) rfl rfl hL c78 ?_
        refine r_aload_n hX (p2 := 464) rfl rfl rfl ⟨1, Or.inr rfl⟩ ?_
        refine r_iload hX (p2 := 466) rfl rfl rfl ?_
        refine r_iconst hX (p2 := 467) rfl rfl rfl ?_
        obtain ⟨c79, h⟩ := ck_some h
        refine r_iadd hX (p2 := 468) rfl rfl c79 ?_
        obtain ⟨c80, h⟩ := ck_some h
        refine r_xload hX (p2 := 469) rfl rfl hL c80 ?_
        refine r_i2f hX (p2 := 470) rfl rfl ?_
        refine r_ldcF hX (p2 := 472) (x := UInt32.ofNat 1040187392) rfl rfl rfl rfl ?_
        obtain ⟨c81, h⟩ := ck_some h
        refine r_fmul hX (p2 := 473) rfl rfl c81 ?_
        refine r_aload_n hX (p2 := 474) rfl rfl rfl ⟨1, Or.inr rfl⟩ ?_
        refine r_iload hX (p2 := 476) rfl rfl rfl ?_
        refine r_iconst hX (p2 := 477) rfl rfl rfl ?_
        obtain ⟨c82, h⟩ := ck_some h
        refine r_iadd hX (p2 := 478) rfl rfl c82 ?_
        obtain ⟨c83, h⟩ := ck_some h
        refine r_xload hX (p2 := 479) rfl rfl hL c83 ?_
        refine r_i2f hX (p2 := 480) rfl rfl ?_
        refine r_ldcF hX (p2 := 482) (x := UInt32.ofNat 1040187392) rfl rfl rfl rfl ?_
        obtain ⟨c84, h⟩ := ck_some h
        refine r_fmul hX (p2 := 483) rfl rfl c84 ?_
        obtain ⟨q85, hq85, h⟩ := bd_some h
        refine r_callv hX (p2 := 486) (v := some (vI q85.1)) (as := [vI (xs (x5 + 1).toNat), vF (FP.fmul (FP.i2f (Int32.ofInt (xs (x5 + 2).toNat))) (UInt32.ofNat 1040187392)), vF (FP.fmul (FP.i2f (Int32.ofInt (xs (x5 + 3).toNat))) (UInt32.ofNat 1040187392))]) (r := []) (st2 := [vI q85.1]) rfl rfl rfl rfl rfl (hc5 0 (by decide)) rfl rfl (c_X5_room xs 12 (xs (x5 + 1).toNat) (FP.fmul (FP.i2f (Int32.ofInt (xs (x5 + 2).toNat))) (UInt32.ofNat 1040187392)) (FP.fmul (FP.i2f (Int32.ofInt (xs (x5 + 3).toNat))) (UInt32.ofNat 1040187392)) s q85 hq85) ?_
        refine r_aload_n hX (p2 := 487) rfl rfl rfl ⟨_, Or.inl rfl⟩ ?_
        refine r_aload_n hX (p2 := 488) rfl rfl rfl ⟨1, Or.inr rfl⟩ ?_
        refine r_iload hX (p2 := 490) rfl rfl rfl ?_
        refine r_iconst hX (p2 := 491) rfl rfl rfl ?_
        obtain ⟨c86, h⟩ := ck_some h
        refine r_iadd hX (p2 := 492) rfl rfl c86 ?_
        obtain ⟨c87, h⟩ := ck_some h
        refine r_xload hX (p2 := 493) rfl rfl hL c87 ?_
        refine r_aload_n hX (p2 := 494) rfl rfl rfl ⟨1, Or.inr rfl⟩ ?_
        refine r_iload hX (p2 := 496) rfl rfl rfl ?_
        refine r_iconst hX (p2 := 497) rfl rfl rfl ?_
        obtain ⟨c88, h⟩ := ck_some h
        refine r_iadd hX (p2 := 498) rfl rfl c88 ?_
        obtain ⟨c89, h⟩ := ck_some h
        refine r_xload hX (p2 := 499) rfl rfl hL c89 ?_
        refine r_i2f hX (p2 := 500) rfl rfl ?_
        refine r_ldcF hX (p2 := 502) (x := UInt32.ofNat 1040187392) rfl rfl rfl rfl ?_
        obtain ⟨c90, h⟩ := ck_some h
        refine r_fmul hX (p2 := 503) rfl rfl c90 ?_
        refine r_aload_n hX (p2 := 504) rfl rfl rfl ⟨1, Or.inr rfl⟩ ?_
        refine r_iload hX (p2 := 506) rfl rfl rfl ?_
        refine r_iconst hX (p2 := 507) rfl rfl rfl ?_
        obtain ⟨c91, h⟩ := ck_some h
        refine r_iadd hX (p2 := 508) rfl rfl c91 ?_
        obtain ⟨c92, h⟩ := ck_some h
        refine r_xload hX (p2 := 509) rfl rfl hL c92 ?_
        refine r_i2f hX (p2 := 510) rfl rfl ?_
        refine r_ldcF hX (p2 := 512) (x := UInt32.ofNat 1040187392) rfl rfl rfl rfl ?_
        obtain ⟨c93, h⟩ := ck_some h
        refine r_fmul hX (p2 := 513) rfl rfl c93 ?_
        obtain ⟨q94, hq94, h⟩ := bd_some h
        refine r_callv hX (p2 := 516) (v := some (vI q94.1)) (as := [vI (xs (x5 + 1).toNat), vF (FP.fmul (FP.i2f (Int32.ofInt (xs (x5 + 2).toNat))) (UInt32.ofNat 1040187392)), vF (FP.fmul (FP.i2f (Int32.ofInt (xs (x5 + 3).toNat))) (UInt32.ofNat 1040187392))]) (r := [vI q85.1]) (st2 := [vI q94.1, vI q85.1]) rfl rfl rfl rfl rfl (hc6 0 (by decide)) rfl rfl (c_X6_room xs 12 (xs (x5 + 1).toNat) (FP.fmul (FP.i2f (Int32.ofInt (xs (x5 + 2).toNat))) (UInt32.ofNat 1040187392)) (FP.fmul (FP.i2f (Int32.ofInt (xs (x5 + 3).toNat))) (UInt32.ofNat 1040187392)) q85.2 q94 hq94) ?_
        refine r_icmp hX (p2 := 1011) (p3 := 519) (P := q85.1 = q94.1) rfl (by decide) rfl rfl (fun p95 => ?_) (fun p95 => ?_)
        · have h := it_pos h p95
          exact t_L_law_1011 hL q X hX _ _ _ _ _ _ ih hK681 hK771 hK898 hK1006 hK1017 x5 d6 d7 d8 d9 q94.2 h
        · have h := it_neg h p95
          refine r_iconst hX (p2 := 520) rfl rfl rfl ?_
          exact r_iretZ hX rfl rfl (Or.inl rfl) (eI_ok h)
      have h := it_neg h p96
      by_cases p108 : ((xs x5.toNat) % 16) = 7
      · have h := it_pos h p108
        refine r_tsw hX (p2 := 521) rfl 7 p108 (by decide) (by decide) rfl (by decide) ?_
        refine r_aload_n hX (p2 := 522) rfl rfl rfl ⟨_, Or.inl rfl⟩ ?_
        refine r_aload_n hX (p2 := 523) rfl rfl rfl ⟨1, Or.inr rfl⟩ ?_
        refine r_iload hX (p2 := 525) rfl rfl rfl ?_
        refine r_iconst hX (p2 := 526) rfl rfl rfl ?_
        obtain ⟨c97, h⟩ := ck_some h
        refine r_iadd hX (p2 := 527) rfl rfl c97 ?_
        obtain ⟨c98, h⟩ := ck_some h
        refine r_xload hX (p2 := 528) rfl rfl hL c98 ?_
        refine r_aload_n hX (p2 := 529) rfl rfl rfl ⟨1, Or.inr rfl⟩ ?_
        refine r_iload hX (p2 := 531) rfl rfl rfl ?_
        refine r_iconst hX (p2 := 532) rfl rfl rfl ?_
        obtain ⟨c99, h⟩ := ck_some h
        refine r_iadd hX (p2 := 533) rfl rfl c99 ?_
        obtain ⟨c100, h⟩ := ck_some h
        refine r_xload hX (p2 := 534) rfl rfl hL c100 ?_
        obtain ⟨q101, hq101, h⟩ := bd_some h
        refine r_callv hX (p2 := 537) (v := some (vI q101.1)) (as := [vI (xs (x5 + 1).toNat), vI (xs (x5 + 2).toNat)]) (r := []) (st2 := [vI q101.1]) rfl rfl rfl rfl rfl (hc5 0 (by decide)) rfl rfl (c_X5_put xs 12 (xs (x5 + 1).toNat) (xs (x5 + 2).toNat) s q101 hq101) ?_
        refine r_aload_n hX (p2 := 538) rfl rfl rfl ⟨_, Or.inl rfl⟩ ?_
        refine r_aload_n hX (p2 := 539) rfl rfl rfl ⟨1, Or.inr rfl⟩ ?_
        refine r_iload hX (p2 := 541) rfl rfl rfl ?_
        refine r_iconst hX (p2 := 542) rfl rfl rfl ?_
        obtain ⟨c102, h⟩ := ck_some h
        refine r_iadd hX (p2 := 543) rfl rfl c102 ?_
        obtain ⟨c103, h⟩ := ck_some h
        refine r_xload hX (p2 := 544) rfl rfl hL c103 ?_
        refine r_aload_n hX (p2 := 545) rfl rfl rfl ⟨1, Or.inr rfl⟩ ?_
        refine r_iload hX (p2 := 547) rfl rfl rfl ?_
        refine r_iconst hX (p2 := 548) rfl rfl rfl ?_
        obtain ⟨c104, h⟩ := ck_some h
        refine r_iadd hX (p2 := 549) rfl rfl c104 ?_
        obtain ⟨c105, h⟩ := ck_some h
        refine r_xload hX (p2 := 550) rfl rfl hL c105 ?_
        obtain ⟨q106, hq106, h⟩ := bd_some h
        refine r_callv hX (p2 := 553) (v := some (vI q106.1)) (as := [vI (xs (x5 + 1).toNat), vI (xs (x5 + 2).toNat)]) (r := [vI q101.1]) (st2 := [vI q106.1, vI q101.1]) rfl rfl rfl rfl rfl (hc6 0 (by decide)) rfl rfl (c_X6_put xs 12 (xs (x5 + 1).toNat) (xs (x5 + 2).toNat) q101.2 q106 hq106) ?_
        refine r_icmp hX (p2 := 1011) (p3 := 556) (P := q101.1 = q106.1) rfl (by decide) rfl rfl (fun p107 => ?_) (fun p107 => ?_)
        · have h := it_pos h p107
          exact t_L_law_1011 hL q X hX _ _ _ _ _ _ ih hK681 hK771 hK898 hK1006 hK1017 x5 d6 d7 d8 d9 q106.2 h
        · have h := it_neg h p107
          refine r_iconst hX (p2 := 557) rfl rfl rfl ?_
          exact r_iretZ hX rfl rfl (Or.inl rfl) (eI_ok h)
      have h := it_neg h p108
      by_cases p112 : ((xs x5.toNat) % 16) = 8
      · have h := it_pos h p112
        refine r_tsw hX (p2 := 558) rfl 8 p112 (by decide) (by decide) rfl (by decide) ?_
        refine r_aload_n hX (p2 := 559) rfl rfl rfl ⟨_, Or.inl rfl⟩ ?_
        obtain ⟨q109, hq109, h⟩ := bd_some h
        refine r_callv hX (p2 := 562) (v := some (vI q109.1)) (as := []) (r := []) (st2 := [vI q109.1]) rfl rfl rfl rfl rfl (hc5 0 (by decide)) rfl rfl (c_X5_layout xs 7 s q109 hq109) ?_
        refine r_aload_n hX (p2 := 563) rfl rfl rfl ⟨_, Or.inl rfl⟩ ?_
        obtain ⟨q110, hq110, h⟩ := bd_some h
        refine r_callv hX (p2 := 566) (v := some (vI q110.1)) (as := []) (r := [vI q109.1]) (st2 := [vI q110.1, vI q109.1]) rfl rfl rfl rfl rfl (hc6 0 (by decide)) rfl rfl (c_X6_layout xs 9 q109.2 q110 hq110) ?_
        refine r_icmp hX (p2 := 1011) (p3 := 569) (P := q109.1 = q110.1) rfl (by decide) rfl rfl (fun p111 => ?_) (fun p111 => ?_)
        · have h := it_pos h p111
          exact t_L_law_1011 hL q X hX _ _ _ _ _ _ ih hK681 hK771 hK898 hK1006 hK1017 x5 d6 d7 d8 d9 q110.2 h
        · have h := it_neg h p111
          refine r_iconst hX (p2 := 570) rfl rfl rfl ?_
          exact r_iretZ hX rfl rfl (Or.inl rfl) (eI_ok h)
      have h := it_neg h p112
      by_cases p120 : ((xs x5.toNat) % 16) = 9
      · have h := it_pos h p120
        refine r_tsw hX (p2 := 571) rfl 9 p120 (by decide) (by decide) rfl (by decide) ?_
        refine r_aload_n hX (p2 := 572) rfl rfl rfl ⟨_, Or.inl rfl⟩ ?_
        refine r_aload_n hX (p2 := 573) rfl rfl rfl ⟨1, Or.inr rfl⟩ ?_
        refine r_iload hX (p2 := 575) rfl rfl rfl ?_
        refine r_iconst hX (p2 := 576) rfl rfl rfl ?_
        obtain ⟨c113, h⟩ := ck_some h
        refine r_iadd hX (p2 := 577) rfl rfl c113 ?_
        obtain ⟨c114, h⟩ := ck_some h
        refine r_xload hX (p2 := 578) rfl rfl hL c114 ?_
        obtain ⟨q115, hq115, h⟩ := bd_some h
        refine r_callv hX (p2 := 581) (v := some (vI q115.1)) (as := [vI (xs (x5 + 1).toNat)]) (r := []) (st2 := [vI q115.1]) rfl rfl rfl rfl rfl (hc5 0 (by decide)) rfl rfl (c_X5_tracks xs 12 (xs (x5 + 1).toNat) s q115 hq115) ?_
        refine r_aload_n hX (p2 := 582) rfl rfl rfl ⟨_, Or.inl rfl⟩ ?_
        refine r_aload_n hX (p2 := 583) rfl rfl rfl ⟨1, Or.inr rfl⟩ ?_
        refine r_iload hX (p2 := 585) rfl rfl rfl ?_
        refine r_iconst hX (p2 := 586) rfl rfl rfl ?_
        obtain ⟨c116, h⟩ := ck_some h
        refine r_iadd hX (p2 := 587) rfl rfl c116 ?_
        obtain ⟨c117, h⟩ := ck_some h
        refine r_xload hX (p2 := 588) rfl rfl hL c117 ?_
        obtain ⟨q118, hq118, h⟩ := bd_some h
        refine r_callv hX (p2 := 591) (v := some (vI q118.1)) (as := [vI (xs (x5 + 1).toNat)]) (r := [vI q115.1]) (st2 := [vI q118.1, vI q115.1]) rfl rfl rfl rfl rfl (hc6 0 (by decide)) rfl rfl (c_X6_tracks xs 12 (xs (x5 + 1).toNat) q115.2 q118 hq118) ?_
        refine r_icmp hX (p2 := 1011) (p3 := 594) (P := q115.1 = q118.1) rfl (by decide) rfl rfl (fun p119 => ?_) (fun p119 => ?_)
        · have h := it_pos h p119
          exact t_L_law_1011 hL q X hX _ _ _ _ _ _ ih hK681 hK771 hK898 hK1006 hK1017 x5 d6 d7 d8 d9 q118.2 h
        · have h := it_neg h p119
          refine r_iconst hX (p2 := 595) rfl rfl rfl ?_
          exact r_iretZ hX rfl rfl (Or.inl rfl) (eI_ok h)
      have h := it_neg h p120
      by_cases p138 : ((xs x5.toNat) % 16) = 10
      · have h := it_pos h p138
        refine r_tsw hX (p2 := 596) rfl 10 p138 (by decide) (by decide) rfl (by decide) ?_
        refine r_aload_n hX (p2 := 597) rfl rfl rfl ⟨_, Or.inl rfl⟩ ?_
        refine r_aload_n hX (p2 := 598) rfl rfl rfl ⟨1, Or.inr rfl⟩ ?_
        refine r_iload hX (p2 := 600) rfl rfl rfl ?_
        refine r_iconst hX (p2 := 601) rfl rfl rfl ?_
        obtain ⟨c121, h⟩ := ck_some h
        refine r_iadd hX (p2 := 602) rfl rfl c121 ?_
        obtain ⟨c122, h⟩ := ck_some h
        refine r_xload hX (p2 := 603) rfl rfl hL c122 ?_
        refine r_aload_n hX (p2 := 604) rfl rfl rfl ⟨1, Or.inr rfl⟩ ?_
        refine r_iload hX (p2 := 606) rfl rfl rfl ?_
        refine r_iconst hX (p2 := 607) rfl rfl rfl ?_
        obtain ⟨c123, h⟩ := ck_some h
        refine r_iadd hX (p2 := 608) rfl rfl c123 ?_
        obtain ⟨c124, h⟩ := ck_some h
        refine r_xload hX (p2 := 609) rfl rfl hL c124 ?_
        refine r_aload hX (p2 := 611) rfl rfl rfl ⟨_, Or.inl rfl⟩ ?_
        obtain ⟨q125, hq125, h⟩ := bd_some h
        refine r_calls5 hX (p2 := 614) (v := some (vI q125.1)) (as := [vR (cc 5 0), vI (xs (x5 + 1).toNat), vI (xs (x5 + 2).toNat), vR (ca 701 0)]) (r := []) (st2 := [vI q125.1]) rfl rfl rfl rfl rfl rfl (c_L_size xs 5 (xs (x5 + 1).toNat) (xs (x5 + 2).toNat) s q125 hq125) ?_
        refine r_istore hX (p2 := 616) (ls2 := [some (vX 2), some (vR (cc 5 0)), some (vR (cc 6 0)), some (vR (ca 700 0)), some (vR (ca 701 0)), some (vI x5), some (vI q125.1), d7, d8, d9]) rfl rfl rfl rfl ?_
        refine r_aload_n hX (p2 := 617) rfl rfl rfl ⟨_, Or.inl rfl⟩ ?_
        refine r_aload_n hX (p2 := 618) rfl rfl rfl ⟨1, Or.inr rfl⟩ ?_
        refine r_iload hX (p2 := 620) rfl rfl rfl ?_
        refine r_iconst hX (p2 := 621) rfl rfl rfl ?_
        obtain ⟨c126, h⟩ := ck_some h
        refine r_iadd hX (p2 := 622) rfl rfl c126 ?_
        obtain ⟨c127, h⟩ := ck_some h
        refine r_xload hX (p2 := 623) rfl rfl hL c127 ?_
        refine r_aload_n hX (p2 := 624) rfl rfl rfl ⟨1, Or.inr rfl⟩ ?_
        refine r_iload hX (p2 := 626) rfl rfl rfl ?_
        refine r_iconst hX (p2 := 627) rfl rfl rfl ?_
        obtain ⟨c128, h⟩ := ck_some h
        refine r_iadd hX (p2 := 628) rfl rfl c128 ?_
        obtain ⟨c129, h⟩ := ck_some h
        refine r_xload hX (p2 := 629) rfl rfl hL c129 ?_
        obtain ⟨q130, hq130, h⟩ := bd_some h
        refine r_callv hX (p2 := 632) (v := some (vF q130.1)) (as := [vI (xs (x5 + 1).toNat), vI (xs (x5 + 2).toNat)]) (r := []) (st2 := [vF q130.1]) rfl rfl rfl rfl rfl (hc6 0 (by decide)) rfl rfl (c_X6_size xs 11 (xs (x5 + 1).toNat) (xs (x5 + 2).toNat) q125.2 q130 hq130) ?_
        refine r_fstore hX (p2 := 634) (ls2 := [some (vX 2), some (vR (cc 5 0)), some (vR (cc 6 0)), some (vR (ca 700 0)), some (vR (ca 701 0)), some (vI x5), some (vI q125.1), some (vF q130.1), d8, d9]) rfl rfl rfl rfl ?_
        refine r_aload_n hX (p2 := 635) rfl rfl rfl ⟨_, Or.inl rfl⟩ ?_
        obtain ⟨q131, hq131, h⟩ := bd_some h
        refine r_callv hX (p2 := 638) (v := some (vI q131.1)) (as := []) (r := []) (st2 := [vI q131.1]) rfl rfl rfl rfl rfl (hc6 0 (by decide)) rfl rfl (c_X6_thrown xs 13 q130.2 q131 hq131) ?_
        refine r_iload hX (p2 := 640) rfl rfl rfl ?_
        refine r_icmp hX (p2 := 645) (p3 := 643) (P := q131.1 = q125.1) rfl (by decide) rfl rfl (fun p137 => ?_) (fun p137 => ?_)
        · have h := it_pos h p137
          refine r_iload hX (p2 := 647) rfl rfl rfl ?_
          refine r_if hX (p2 := 683) (p3 := 650) (P := q125.1 ≠ 0) rfl (by decide) rfl rfl (fun p136 => ?_) (fun p136 => ?_)
          · have h := it_pos h p136
            exact t_L_law_683 hL q X hX _ _ _ _ _ _ ih hK681 hK771 hK898 hK1006 hK1017 x5 (some (vI q125.1)) (some (vF q130.1)) d8 d9 q131.2 h
          · have h := it_neg h p136
            refine r_aload hX (p2 := 652) rfl rfl rfl ⟨_, Or.inl rfl⟩ ?_
            refine r_iconst hX (p2 := 653) rfl rfl rfl ?_
            refine r_daload hX (p2 := 654) (j := 0) rfl rfl (ha701 0 (by decide)) rfl rfl ⟨by decide, by decide⟩ rfl ?_
            refine r_fload hX (p2 := 656) rfl rfl rfl ?_
            obtain ⟨c132, h⟩ := ck_some h
            refine r_f2d hX (p2 := 657) rfl rfl c132 ?_
            refine r_dcmp hX (p2 := 658) rfl rfl ?_
            refine r_if hX (p2 := 683) (p3 := 661) (P := (pm_dc .l (sD q131.2 0) (FP.f2d q130.1)) = 0) rfl (by decide) rfl rfl (fun p135 => ?_) (fun p135 => ?_)
            · have h := it_pos h p135
              exact t_L_law_683 hL q X hX _ _ _ _ _ _ ih hK681 hK771 hK898 hK1006 hK1017 x5 (some (vI q125.1)) (some (vF q130.1)) d8 d9 q131.2 h
            · have h := it_neg h p135
              refine r_aload hX (p2 := 663) rfl rfl rfl ⟨_, Or.inl rfl⟩ ?_
              refine r_iconst hX (p2 := 664) rfl rfl rfl ?_
              refine r_daload hX (p2 := 665) (j := 0) rfl rfl (ha701 0 (by decide)) rfl rfl ⟨by decide, by decide⟩ rfl ?_
              refine r_aload hX (p2 := 667) rfl rfl rfl ⟨_, Or.inl rfl⟩ ?_
              refine r_iconst hX (p2 := 668) rfl rfl rfl ?_
              refine r_daload hX (p2 := 669) (j := 0) rfl rfl (ha701 0 (by decide)) rfl rfl ⟨by decide, by decide⟩ rfl ?_
              refine r_dcmp hX (p2 := 670) rfl rfl ?_
              refine r_if hX (p2 := 681) (p3 := 673) (P := (pm_dc .l (sD q131.2 0) (sD q131.2 0)) = 0) rfl (by decide) rfl rfl (fun p134 => ?_) (fun p134 => ?_)
              · have h := it_pos h p134
                exact hK681 (some (vX 2)) (some (vR (cc 5 0))) (some (vR (cc 6 0))) (some (vR (ca 700 0))) (some (vR (ca 701 0))) (some (vI x5)) (some (vI q125.1)) (some (vF q130.1)) d8 d9 q131.2 h
              · have h := it_neg h p134
                refine r_fload hX (p2 := 675) rfl rfl rfl ?_
                refine r_fload hX (p2 := 677) rfl rfl rfl ?_
                refine r_fcmp hX (p2 := 678) rfl rfl ?_
                refine r_if hX (p2 := 683) (p3 := 681) (P := (pm_fc .l q130.1 q130.1) ≠ 0) rfl (by decide) rfl rfl (fun p133 => ?_) (fun p133 => ?_)
                · have h := it_pos h p133
                  exact t_L_law_683 hL q X hX _ _ _ _ _ _ ih hK681 hK771 hK898 hK1006 hK1017 x5 (some (vI q125.1)) (some (vF q130.1)) d8 d9 q131.2 h
                · have h := it_neg h p133
                  exact hK681 (some (vX 2)) (some (vR (cc 5 0))) (some (vR (cc 6 0))) (some (vR (ca 700 0))) (some (vR (ca 701 0))) (some (vI x5)) (some (vI q125.1)) (some (vF q130.1)) d8 d9 q131.2 h
        · have h := it_neg h p137
          refine r_iconst hX (p2 := 644) rfl rfl rfl ?_
          exact r_iretZ hX rfl rfl (Or.inl rfl) (eI_ok h)
      have h := it_neg h p138
      by_cases p156 : ((xs x5.toNat) % 16) = 11
      · have h := it_pos h p156
        refine r_tsw hX (p2 := 686) rfl 11 p156 (by decide) (by decide) rfl (by decide) ?_
        refine r_aload_n hX (p2 := 687) rfl rfl rfl ⟨_, Or.inl rfl⟩ ?_
        refine r_aload_n hX (p2 := 688) rfl rfl rfl ⟨1, Or.inr rfl⟩ ?_
        refine r_iload hX (p2 := 690) rfl rfl rfl ?_
        refine r_iconst hX (p2 := 691) rfl rfl rfl ?_
        obtain ⟨c139, h⟩ := ck_some h
        refine r_iadd hX (p2 := 692) rfl rfl c139 ?_
        obtain ⟨c140, h⟩ := ck_some h
        refine r_xload hX (p2 := 693) rfl rfl hL c140 ?_
        refine r_aload_n hX (p2 := 694) rfl rfl rfl ⟨1, Or.inr rfl⟩ ?_
        refine r_iload hX (p2 := 696) rfl rfl rfl ?_
        refine r_iconst hX (p2 := 697) rfl rfl rfl ?_
        obtain ⟨c141, h⟩ := ck_some h
        refine r_iadd hX (p2 := 698) rfl rfl c141 ?_
        obtain ⟨c142, h⟩ := ck_some h
        refine r_xload hX (p2 := 699) rfl rfl hL c142 ?_
        refine r_aload hX (p2 := 701) rfl rfl rfl ⟨_, Or.inl rfl⟩ ?_
        obtain ⟨q143, hq143, h⟩ := bd_some h
        refine r_calls5 hX (p2 := 704) (v := some (vI q143.1)) (as := [vR (cc 5 0), vI (xs (x5 + 1).toNat), vI (xs (x5 + 2).toNat), vR (ca 701 0)]) (r := []) (st2 := [vI q143.1]) rfl rfl rfl rfl rfl rfl (c_L_at xs 5 (xs (x5 + 1).toNat) (xs (x5 + 2).toNat) s q143 hq143) ?_
        refine r_istore hX (p2 := 706) (ls2 := [some (vX 2), some (vR (cc 5 0)), some (vR (cc 6 0)), some (vR (ca 700 0)), some (vR (ca 701 0)), some (vI x5), some (vI q143.1), d7, d8, d9]) rfl rfl rfl rfl ?_
        refine r_aload_n hX (p2 := 707) rfl rfl rfl ⟨_, Or.inl rfl⟩ ?_
        refine r_aload_n hX (p2 := 708) rfl rfl rfl ⟨1, Or.inr rfl⟩ ?_
        refine r_iload hX (p2 := 710) rfl rfl rfl ?_
        refine r_iconst hX (p2 := 711) rfl rfl rfl ?_
        obtain ⟨c144, h⟩ := ck_some h
        refine r_iadd hX (p2 := 712) rfl rfl c144 ?_
        obtain ⟨c145, h⟩ := ck_some h
        refine r_xload hX (p2 := 713) rfl rfl hL c145 ?_
        refine r_aload_n hX (p2 := 714) rfl rfl rfl ⟨1, Or.inr rfl⟩ ?_
        refine r_iload hX (p2 := 716) rfl rfl rfl ?_
        refine r_iconst hX (p2 := 717) rfl rfl rfl ?_
        obtain ⟨c146, h⟩ := ck_some h
        refine r_iadd hX (p2 := 718) rfl rfl c146 ?_
        obtain ⟨c147, h⟩ := ck_some h
        refine r_xload hX (p2 := 719) rfl rfl hL c147 ?_
        obtain ⟨q148, hq148, h⟩ := bd_some h
        refine r_callv hX (p2 := 722) (v := some (vF q148.1)) (as := [vI (xs (x5 + 1).toNat), vI (xs (x5 + 2).toNat)]) (r := []) (st2 := [vF q148.1]) rfl rfl rfl rfl rfl (hc6 0 (by decide)) rfl rfl (c_X6_at xs 11 (xs (x5 + 1).toNat) (xs (x5 + 2).toNat) q143.2 q148 hq148) ?_
        refine r_fstore hX (p2 := 724) (ls2 := [some (vX 2), some (vR (cc 5 0)), some (vR (cc 6 0)), some (vR (ca 700 0)), some (vR (ca 701 0)), some (vI x5), some (vI q143.1), some (vF q148.1), d8, d9]) rfl rfl rfl rfl ?_
        refine r_aload_n hX (p2 := 725) rfl rfl rfl ⟨_, Or.inl rfl⟩ ?_
        obtain ⟨q149, hq149, h⟩ := bd_some h
        refine r_callv hX (p2 := 728) (v := some (vI q149.1)) (as := []) (r := []) (st2 := [vI q149.1]) rfl rfl rfl rfl rfl (hc6 0 (by decide)) rfl rfl (c_X6_thrown xs 13 q148.2 q149 hq149) ?_
        refine r_iload hX (p2 := 730) rfl rfl rfl ?_
        refine r_icmp hX (p2 := 735) (p3 := 733) (P := q149.1 = q143.1) rfl (by decide) rfl rfl (fun p155 => ?_) (fun p155 => ?_)
        · have h := it_pos h p155
          refine r_iload hX (p2 := 737) rfl rfl rfl ?_
          refine r_if hX (p2 := 773) (p3 := 740) (P := q143.1 ≠ 0) rfl (by decide) rfl rfl (fun p154 => ?_) (fun p154 => ?_)
          · have h := it_pos h p154
            exact t_L_law_773 hL q X hX _ _ _ _ _ _ ih hK681 hK771 hK898 hK1006 hK1017 x5 (some (vI q143.1)) (some (vF q148.1)) d8 d9 q149.2 h
          · have h := it_neg h p154
            refine r_aload hX (p2 := 742) rfl rfl rfl ⟨_, Or.inl rfl⟩ ?_
            refine r_iconst hX (p2 := 743) rfl rfl rfl ?_
            refine r_daload hX (p2 := 744) (j := 0) rfl rfl (ha701 0 (by decide)) rfl rfl ⟨by decide, by decide⟩ rfl ?_
            refine r_fload hX (p2 := 746) rfl rfl rfl ?_
            obtain ⟨c150, h⟩ := ck_some h
            refine r_f2d hX (p2 := 747) rfl rfl c150 ?_
            refine r_dcmp hX (p2 := 748) rfl rfl ?_
            refine r_if hX (p2 := 773) (p3 := 751) (P := (pm_dc .l (sD q149.2 0) (FP.f2d q148.1)) = 0) rfl (by decide) rfl rfl (fun p153 => ?_) (fun p153 => ?_)
            · have h := it_pos h p153
              exact t_L_law_773 hL q X hX _ _ _ _ _ _ ih hK681 hK771 hK898 hK1006 hK1017 x5 (some (vI q143.1)) (some (vF q148.1)) d8 d9 q149.2 h
            · have h := it_neg h p153
              refine r_aload hX (p2 := 753) rfl rfl rfl ⟨_, Or.inl rfl⟩ ?_
              refine r_iconst hX (p2 := 754) rfl rfl rfl ?_
              refine r_daload hX (p2 := 755) (j := 0) rfl rfl (ha701 0 (by decide)) rfl rfl ⟨by decide, by decide⟩ rfl ?_
              refine r_aload hX (p2 := 757) rfl rfl rfl ⟨_, Or.inl rfl⟩ ?_
              refine r_iconst hX (p2 := 758) rfl rfl rfl ?_
              refine r_daload hX (p2 := 759) (j := 0) rfl rfl (ha701 0 (by decide)) rfl rfl ⟨by decide, by decide⟩ rfl ?_
              refine r_dcmp hX (p2 := 760) rfl rfl ?_
              refine r_if hX (p2 := 771) (p3 := 763) (P := (pm_dc .l (sD q149.2 0) (sD q149.2 0)) = 0) rfl (by decide) rfl rfl (fun p152 => ?_) (fun p152 => ?_)
              · have h := it_pos h p152
                exact hK771 (some (vX 2)) (some (vR (cc 5 0))) (some (vR (cc 6 0))) (some (vR (ca 700 0))) (some (vR (ca 701 0))) (some (vI x5)) (some (vI q143.1)) (some (vF q148.1)) d8 d9 q149.2 h
              · have h := it_neg h p152
                refine r_fload hX (p2 := 765) rfl rfl rfl ?_
                refine r_fload hX (p2 := 767) rfl rfl rfl ?_
                refine r_fcmp hX (p2 := 768) rfl rfl ?_
                refine r_if hX (p2 := 773) (p3 := 771) (P := (pm_fc .l q148.1 q148.1) ≠ 0) rfl (by decide) rfl rfl (fun p151 => ?_) (fun p151 => ?_)
                · have h := it_pos h p151
                  exact t_L_law_773 hL q X hX _ _ _ _ _ _ ih hK681 hK771 hK898 hK1006 hK1017 x5 (some (vI q143.1)) (some (vF q148.1)) d8 d9 q149.2 h
                · have h := it_neg h p151
                  exact hK771 (some (vX 2)) (some (vR (cc 5 0))) (some (vR (cc 6 0))) (some (vR (ca 700 0))) (some (vR (ca 701 0))) (some (vI x5)) (some (vI q143.1)) (some (vF q148.1)) d8 d9 q149.2 h
        · have h := it_neg h p155
          refine r_iconst hX (p2 := 734) rfl rfl rfl ?_
          exact r_iretZ hX rfl rfl (Or.inl rfl) (eI_ok h)
      have h := it_neg h p156
      by_cases p168 : ((xs x5.toNat) % 16) = 12
      · have h := it_pos h p168
        refine r_tsw hX (p2 := 776) rfl 12 p168 (by decide) (by decide) rfl (by decide) ?_
        refine r_aload_n hX (p2 := 777) rfl rfl rfl ⟨_, Or.inl rfl⟩ ?_
        refine r_aload_n hX (p2 := 778) rfl rfl rfl ⟨1, Or.inr rfl⟩ ?_
        refine r_iload hX (p2 := 780) rfl rfl rfl ?_
        refine r_iconst hX (p2 := 781) rfl rfl rfl ?_
        obtain ⟨c157, h⟩ := ck_some h
        refine r_iadd hX (p2 := 782) rfl rfl c157 ?_
        obtain ⟨c158, h⟩ := ck_some h
        refine r_xload hX (p2 := 783) rfl rfl hL c158 ?_
        refine r_aload_n hX (p2 := 784) rfl rfl rfl ⟨1, Or.inr rfl⟩ ?_
        refine r_iload hX (p2 := 786) rfl rfl rfl ?_
        refine r_iconst hX (p2 := 787) rfl rfl rfl ?_
        obtain ⟨c159, h⟩ := ck_some h
        refine r_iadd hX (p2 := 788) rfl rfl c159 ?_
        obtain ⟨c160, h⟩ := ck_some h
        refine r_xload hX (p2 := 789) rfl rfl hL c160 ?_
        obtain ⟨q161, hq161, h⟩ := bd_some h
        refine r_callv hX (p2 := 792) (v := some (vI q161.1)) (as := [vI (xs (x5 + 1).toNat), vI (xs (x5 + 2).toNat)]) (r := []) (st2 := [vI q161.1]) rfl rfl rfl rfl rfl (hc5 0 (by decide)) rfl rfl (c_X5_line xs 12 (xs (x5 + 1).toNat) (xs (x5 + 2).toNat) s q161 hq161) ?_
        refine r_aload_n hX (p2 := 793) rfl rfl rfl ⟨_, Or.inl rfl⟩ ?_
        refine r_aload_n hX (p2 := 794) rfl rfl rfl ⟨1, Or.inr rfl⟩ ?_
        refine r_iload hX (p2 := 796) rfl rfl rfl ?_
        refine r_iconst hX (p2 := 797) rfl rfl rfl ?_
        obtain ⟨c162, h⟩ := ck_some h
        refine r_iadd hX (p2 := 798) rfl rfl c162 ?_
        obtain ⟨c163, h⟩ := ck_some h
        refine r_xload hX (p2 := 799) rfl rfl hL c163 ?_
        refine r_aload_n hX (p2 := 800) rfl rfl rfl ⟨1, Or.inr rfl⟩ ?_
        refine r_iload hX (p2 := 802) rfl rfl rfl ?_
        refine r_iconst hX (p2 := 803) rfl rfl rfl ?_
        obtain ⟨c164, h⟩ := ck_some h
        refine r_iadd hX (p2 := 804) rfl rfl c164 ?_
        obtain ⟨c165, h⟩ := ck_some h
        refine r_xload hX (p2 := 805) rfl rfl hL c165 ?_
        obtain ⟨q166, hq166, h⟩ := bd_some h
        refine r_callv hX (p2 := 808) (v := some (vI q166.1)) (as := [vI (xs (x5 + 1).toNat), vI (xs (x5 + 2).toNat)]) (r := [vI q161.1]) (st2 := [vI q166.1, vI q161.1]) rfl rfl rfl rfl rfl (hc6 0 (by decide)) rfl rfl (c_X6_line xs 11 (xs (x5 + 1).toNat) (xs (x5 + 2).toNat) q161.2 q166 hq166) ?_
        refine r_icmp hX (p2 := 1011) (p3 := 811) (P := q161.1 = q166.1) rfl (by decide) rfl rfl (fun p167 => ?_) (fun p167 => ?_)
        · have h := it_pos h p167
          exact t_L_law_1011 hL q X hX _ _ _ _ _ _ ih hK681 hK771 hK898 hK1006 hK1017 x5 d6 d7 d8 d9 q166.2 h
        · have h := it_neg h p167
          refine r_iconst hX (p2 := 812) rfl rfl rfl ?_
          exact r_iretZ hX rfl rfl (Or.inl rfl) (eI_ok h)
      have h := it_neg h p168
      by_cases p186 : ((xs x5.toNat) % 16) = 13
      · have h := it_pos h p186
        refine r_tsw hX (p2 := 813) rfl 13 p186 (by decide) (by decide) rfl (by decide) ?_
        refine r_aload_n hX (p2 := 814) rfl rfl rfl ⟨_, Or.inl rfl⟩ ?_
        refine r_aload_n hX (p2 := 815) rfl rfl rfl ⟨1, Or.inr rfl⟩ ?_
        refine r_iload hX (p2 := 817) rfl rfl rfl ?_
        refine r_iconst hX (p2 := 818) rfl rfl rfl ?_
        obtain ⟨c169, h⟩ := ck_some h
        refine r_iadd hX (p2 := 819) rfl rfl c169 ?_
        obtain ⟨c170, h⟩ := ck_some h
        refine r_xload hX (p2 := 820) rfl rfl hL c170 ?_
        refine r_aload_n hX (p2 := 821) rfl rfl rfl ⟨1, Or.inr rfl⟩ ?_
        refine r_iload hX (p2 := 823) rfl rfl rfl ?_
        refine r_iconst hX (p2 := 824) rfl rfl rfl ?_
        obtain ⟨c171, h⟩ := ck_some h
        refine r_iadd hX (p2 := 825) rfl rfl c171 ?_
        obtain ⟨c172, h⟩ := ck_some h
        refine r_xload hX (p2 := 826) rfl rfl hL c172 ?_
        refine r_aload hX (p2 := 828) rfl rfl rfl ⟨_, Or.inl rfl⟩ ?_
        obtain ⟨q173, hq173, h⟩ := bd_some h
        refine r_calls5 hX (p2 := 831) (v := some (vI q173.1)) (as := [vR (cc 5 0), vI (xs (x5 + 1).toNat), vI (xs (x5 + 2).toNat), vR (ca 701 0)]) (r := []) (st2 := [vI q173.1]) rfl rfl rfl rfl rfl rfl (c_L_extent xs 5 (xs (x5 + 1).toNat) (xs (x5 + 2).toNat) s q173 hq173) ?_
        refine r_istore hX (p2 := 833) (ls2 := [some (vX 2), some (vR (cc 5 0)), some (vR (cc 6 0)), some (vR (ca 700 0)), some (vR (ca 701 0)), some (vI x5), some (vI q173.1), d7, d8, d9]) rfl rfl rfl rfl ?_
        refine r_aload_n hX (p2 := 834) rfl rfl rfl ⟨_, Or.inl rfl⟩ ?_
        refine r_aload_n hX (p2 := 835) rfl rfl rfl ⟨1, Or.inr rfl⟩ ?_
        refine r_iload hX (p2 := 837) rfl rfl rfl ?_
        refine r_iconst hX (p2 := 838) rfl rfl rfl ?_
        obtain ⟨c174, h⟩ := ck_some h
        refine r_iadd hX (p2 := 839) rfl rfl c174 ?_
        obtain ⟨c175, h⟩ := ck_some h
        refine r_xload hX (p2 := 840) rfl rfl hL c175 ?_
        refine r_aload_n hX (p2 := 841) rfl rfl rfl ⟨1, Or.inr rfl⟩ ?_
        refine r_iload hX (p2 := 843) rfl rfl rfl ?_
        refine r_iconst hX (p2 := 844) rfl rfl rfl ?_
        obtain ⟨c176, h⟩ := ck_some h
        refine r_iadd hX (p2 := 845) rfl rfl c176 ?_
        obtain ⟨c177, h⟩ := ck_some h
        refine r_xload hX (p2 := 846) rfl rfl hL c177 ?_
        obtain ⟨q178, hq178, h⟩ := bd_some h
        refine r_callv hX (p2 := 849) (v := some (vF q178.1)) (as := [vI (xs (x5 + 1).toNat), vI (xs (x5 + 2).toNat)]) (r := []) (st2 := [vF q178.1]) rfl rfl rfl rfl rfl (hc6 0 (by decide)) rfl rfl (c_X6_extent xs 11 (xs (x5 + 1).toNat) (xs (x5 + 2).toNat) q173.2 q178 hq178) ?_
        refine r_fstore hX (p2 := 851) (ls2 := [some (vX 2), some (vR (cc 5 0)), some (vR (cc 6 0)), some (vR (ca 700 0)), some (vR (ca 701 0)), some (vI x5), some (vI q173.1), some (vF q178.1), d8, d9]) rfl rfl rfl rfl ?_
        refine r_aload_n hX (p2 := 852) rfl rfl rfl ⟨_, Or.inl rfl⟩ ?_
        obtain ⟨q179, hq179, h⟩ := bd_some h
        refine r_callv hX (p2 := 855) (v := some (vI q179.1)) (as := []) (r := []) (st2 := [vI q179.1]) rfl rfl rfl rfl rfl (hc6 0 (by decide)) rfl rfl (c_X6_thrown xs 13 q178.2 q179 hq179) ?_
        refine r_iload hX (p2 := 857) rfl rfl rfl ?_
        refine r_icmp hX (p2 := 862) (p3 := 860) (P := q179.1 = q173.1) rfl (by decide) rfl rfl (fun p185 => ?_) (fun p185 => ?_)
        · have h := it_pos h p185
          refine r_iload hX (p2 := 864) rfl rfl rfl ?_
          refine r_if hX (p2 := 900) (p3 := 867) (P := q173.1 ≠ 0) rfl (by decide) rfl rfl (fun p184 => ?_) (fun p184 => ?_)
          · have h := it_pos h p184
            exact t_L_law_900 hL q X hX _ _ _ _ _ _ ih hK681 hK771 hK898 hK1006 hK1017 x5 (some (vI q173.1)) (some (vF q178.1)) d8 d9 q179.2 h
          · have h := it_neg h p184
            refine r_aload hX (p2 := 869) rfl rfl rfl ⟨_, Or.inl rfl⟩ ?_
            refine r_iconst hX (p2 := 870) rfl rfl rfl ?_
            refine r_daload hX (p2 := 871) (j := 0) rfl rfl (ha701 0 (by decide)) rfl rfl ⟨by decide, by decide⟩ rfl ?_
            refine r_fload hX (p2 := 873) rfl rfl rfl ?_
            obtain ⟨c180, h⟩ := ck_some h
            refine r_f2d hX (p2 := 874) rfl rfl c180 ?_
            refine r_dcmp hX (p2 := 875) rfl rfl ?_
            refine r_if hX (p2 := 900) (p3 := 878) (P := (pm_dc .l (sD q179.2 0) (FP.f2d q178.1)) = 0) rfl (by decide) rfl rfl (fun p183 => ?_) (fun p183 => ?_)
            · have h := it_pos h p183
              exact t_L_law_900 hL q X hX _ _ _ _ _ _ ih hK681 hK771 hK898 hK1006 hK1017 x5 (some (vI q173.1)) (some (vF q178.1)) d8 d9 q179.2 h
            · have h := it_neg h p183
              refine r_aload hX (p2 := 880) rfl rfl rfl ⟨_, Or.inl rfl⟩ ?_
              refine r_iconst hX (p2 := 881) rfl rfl rfl ?_
              refine r_daload hX (p2 := 882) (j := 0) rfl rfl (ha701 0 (by decide)) rfl rfl ⟨by decide, by decide⟩ rfl ?_
              refine r_aload hX (p2 := 884) rfl rfl rfl ⟨_, Or.inl rfl⟩ ?_
              refine r_iconst hX (p2 := 885) rfl rfl rfl ?_
              refine r_daload hX (p2 := 886) (j := 0) rfl rfl (ha701 0 (by decide)) rfl rfl ⟨by decide, by decide⟩ rfl ?_
              refine r_dcmp hX (p2 := 887) rfl rfl ?_
              refine r_if hX (p2 := 898) (p3 := 890) (P := (pm_dc .l (sD q179.2 0) (sD q179.2 0)) = 0) rfl (by decide) rfl rfl (fun p182 => ?_) (fun p182 => ?_)
              · have h := it_pos h p182
                exact hK898 (some (vX 2)) (some (vR (cc 5 0))) (some (vR (cc 6 0))) (some (vR (ca 700 0))) (some (vR (ca 701 0))) (some (vI x5)) (some (vI q173.1)) (some (vF q178.1)) d8 d9 q179.2 h
              · have h := it_neg h p182
                refine r_fload hX (p2 := 892) rfl rfl rfl ?_
                refine r_fload hX (p2 := 894) rfl rfl rfl ?_
                refine r_fcmp hX (p2 := 895) rfl rfl ?_
                refine r_if hX (p2 := 900) (p3 := 898) (P := (pm_fc .l q178.1 q178.1) ≠ 0) rfl (by decide) rfl rfl (fun p181 => ?_) (fun p181 => ?_)
                · have h := it_pos h p181
                  exact t_L_law_900 hL q X hX _ _ _ _ _ _ ih hK681 hK771 hK898 hK1006 hK1017 x5 (some (vI q173.1)) (some (vF q178.1)) d8 d9 q179.2 h
                · have h := it_neg h p181
                  exact hK898 (some (vX 2)) (some (vR (cc 5 0))) (some (vR (cc 6 0))) (some (vR (ca 700 0))) (some (vR (ca 701 0))) (some (vI x5)) (some (vI q173.1)) (some (vF q178.1)) d8 d9 q179.2 h
        · have h := it_neg h p185
          refine r_iconst hX (p2 := 861) rfl rfl rfl ?_
          exact r_iretZ hX rfl rfl (Or.inl rfl) (eI_ok h)
      have h := it_neg h p186
      by_cases p202 : ((xs x5.toNat) % 16) = 14
      · have h := it_pos h p202
        refine r_tsw hX (p2 := 903) rfl 14 p202 (by decide) (by decide) rfl (by decide) ?_
        refine r_aload_n hX (p2 := 904) rfl rfl rfl ⟨_, Or.inl rfl⟩ ?_
        refine r_aload_n hX (p2 := 905) rfl rfl rfl ⟨1, Or.inr rfl⟩ ?_
        refine r_iload hX (p2 := 907) rfl rfl rfl ?_
        refine r_iconst hX (p2 := 908) rfl rfl rfl ?_
        obtain ⟨c187, h⟩ := ck_some h
        refine r_iadd hX (p2 := 909) rfl rfl c187 ?_
        obtain ⟨c188, h⟩ := ck_some h
        refine r_xload hX (p2 := 910) rfl rfl hL c188 ?_
        refine r_i2f hX (p2 := 911) rfl rfl ?_
        refine r_ldcF hX (p2 := 913) (x := UInt32.ofNat 1040187392) rfl rfl rfl rfl ?_
        obtain ⟨c189, h⟩ := ck_some h
        refine r_fmul hX (p2 := 914) rfl rfl c189 ?_
        refine r_aload_n hX (p2 := 915) rfl rfl rfl ⟨1, Or.inr rfl⟩ ?_
        refine r_iload hX (p2 := 917) rfl rfl rfl ?_
        refine r_iconst hX (p2 := 918) rfl rfl rfl ?_
        obtain ⟨c190, h⟩ := ck_some h
        refine r_iadd hX (p2 := 919) rfl rfl c190 ?_
        obtain ⟨c191, h⟩ := ck_some h
        refine r_xload hX (p2 := 920) rfl rfl hL c191 ?_
        refine r_i2f hX (p2 := 921) rfl rfl ?_
        refine r_ldcF hX (p2 := 923) (x := UInt32.ofNat 1040187392) rfl rfl rfl rfl ?_
        obtain ⟨c192, h⟩ := ck_some h
        refine r_fmul hX (p2 := 924) rfl rfl c192 ?_
        obtain ⟨q193, hq193, h⟩ := bd_some h
        refine r_callv hX (p2 := 927) (v := some (vI q193.1)) (as := [vF (FP.fmul (FP.i2f (Int32.ofInt (xs (x5 + 1).toNat))) (UInt32.ofNat 1040187392)), vF (FP.fmul (FP.i2f (Int32.ofInt (xs (x5 + 2).toNat))) (UInt32.ofNat 1040187392))]) (r := []) (st2 := [vI q193.1]) rfl rfl rfl rfl rfl (hc5 0 (by decide)) rfl rfl (c_X5_hit xs 12 (FP.fmul (FP.i2f (Int32.ofInt (xs (x5 + 1).toNat))) (UInt32.ofNat 1040187392)) (FP.fmul (FP.i2f (Int32.ofInt (xs (x5 + 2).toNat))) (UInt32.ofNat 1040187392)) s q193 hq193) ?_
        refine r_aload_n hX (p2 := 928) rfl rfl rfl ⟨_, Or.inl rfl⟩ ?_
        refine r_aload_n hX (p2 := 929) rfl rfl rfl ⟨1, Or.inr rfl⟩ ?_
        refine r_iload hX (p2 := 931) rfl rfl rfl ?_
        refine r_iconst hX (p2 := 932) rfl rfl rfl ?_
        obtain ⟨c194, h⟩ := ck_some h
        refine r_iadd hX (p2 := 933) rfl rfl c194 ?_
        obtain ⟨c195, h⟩ := ck_some h
        refine r_xload hX (p2 := 934) rfl rfl hL c195 ?_
        refine r_i2f hX (p2 := 935) rfl rfl ?_
        refine r_ldcF hX (p2 := 937) (x := UInt32.ofNat 1040187392) rfl rfl rfl rfl ?_
        obtain ⟨c196, h⟩ := ck_some h
        refine r_fmul hX (p2 := 938) rfl rfl c196 ?_
        refine r_aload_n hX (p2 := 939) rfl rfl rfl ⟨1, Or.inr rfl⟩ ?_
        refine r_iload hX (p2 := 941) rfl rfl rfl ?_
        refine r_iconst hX (p2 := 942) rfl rfl rfl ?_
        obtain ⟨c197, h⟩ := ck_some h
        refine r_iadd hX (p2 := 943) rfl rfl c197 ?_
        obtain ⟨c198, h⟩ := ck_some h
        refine r_xload hX (p2 := 944) rfl rfl hL c198 ?_
        refine r_i2f hX (p2 := 945) rfl rfl ?_
        refine r_ldcF hX (p2 := 947) (x := UInt32.ofNat 1040187392) rfl rfl rfl rfl ?_
        obtain ⟨c199, h⟩ := ck_some h
        refine r_fmul hX (p2 := 948) rfl rfl c199 ?_
        obtain ⟨q200, hq200, h⟩ := bd_some h
        refine r_callv hX (p2 := 951) (v := some (vI q200.1)) (as := [vF (FP.fmul (FP.i2f (Int32.ofInt (xs (x5 + 1).toNat))) (UInt32.ofNat 1040187392)), vF (FP.fmul (FP.i2f (Int32.ofInt (xs (x5 + 2).toNat))) (UInt32.ofNat 1040187392))]) (r := [vI q193.1]) (st2 := [vI q200.1, vI q193.1]) rfl rfl rfl rfl rfl (hc6 0 (by decide)) rfl rfl (c_X6_hit xs 11 (FP.fmul (FP.i2f (Int32.ofInt (xs (x5 + 1).toNat))) (UInt32.ofNat 1040187392)) (FP.fmul (FP.i2f (Int32.ofInt (xs (x5 + 2).toNat))) (UInt32.ofNat 1040187392)) q193.2 q200 hq200) ?_
        refine r_icmp hX (p2 := 1011) (p3 := 954) (P := q193.1 = q200.1) rfl (by decide) rfl rfl (fun p201 => ?_) (fun p201 => ?_)
        · have h := it_pos h p201
          exact t_L_law_1011 hL q X hX _ _ _ _ _ _ ih hK681 hK771 hK898 hK1006 hK1017 x5 d6 d7 d8 d9 q200.2 h
        · have h := it_neg h p201
          refine r_iconst hX (p2 := 955) rfl rfl rfl ?_
          exact r_iretZ hX rfl rfl (Or.inl rfl) (eI_ok h)
      have h := it_neg h p202
      by_cases p216 : ((xs x5.toNat) % 16) = 15
      · have h := it_pos h p216
        refine r_tsw hX (p2 := 956) rfl 15 p216 (by decide) (by decide) rfl (by decide) ?_
        refine r_aload_n hX (p2 := 957) rfl rfl rfl ⟨_, Or.inl rfl⟩ ?_
        refine r_aload_n hX (p2 := 958) rfl rfl rfl ⟨1, Or.inr rfl⟩ ?_
        refine r_iload hX (p2 := 960) rfl rfl rfl ?_
        refine r_iconst hX (p2 := 961) rfl rfl rfl ?_
        obtain ⟨c203, h⟩ := ck_some h
        refine r_iadd hX (p2 := 962) rfl rfl c203 ?_
        obtain ⟨c204, h⟩ := ck_some h
        refine r_xload hX (p2 := 963) rfl rfl hL c204 ?_
        obtain ⟨q205, hq205, h⟩ := bd_some h
        refine r_callv hX (p2 := 966) (v := some (vF q205.1)) (as := [vI (xs (x5 + 1).toNat)]) (r := []) (st2 := [vF q205.1]) rfl rfl rfl rfl rfl (hc5 0 (by decide)) rfl rfl (c_X5_free xs 12 (xs (x5 + 1).toNat) s q205 hq205) ?_
        obtain ⟨c206, h⟩ := ck_some h
        refine r_f2d hX (p2 := 967) rfl rfl c206 ?_
        obtain ⟨v207, hv207, h⟩ := bs_some h
        refine r_dstoreE hX (p2 := 969) (ls2 := [some (vX 2), some (vR (cc 5 0)), some (vR (cc 6 0)), some (vR (ca 700 0)), some (vR (ca 701 0)), some (vI x5), some (vD v207), none, d8, d9]) rfl rfl hv207 rfl rfl ?_
        refine r_aload_n hX (p2 := 970) rfl rfl rfl ⟨_, Or.inl rfl⟩ ?_
        refine r_aload_n hX (p2 := 971) rfl rfl rfl ⟨1, Or.inr rfl⟩ ?_
        refine r_iload hX (p2 := 973) rfl rfl rfl ?_
        refine r_iconst hX (p2 := 974) rfl rfl rfl ?_
        obtain ⟨c208, h⟩ := ck_some h
        refine r_iadd hX (p2 := 975) rfl rfl c208 ?_
        obtain ⟨c209, h⟩ := ck_some h
        refine r_xload hX (p2 := 976) rfl rfl hL c209 ?_
        obtain ⟨q210, hq210, h⟩ := bd_some h
        refine r_callv hX (p2 := 979) (v := some (vF q210.1)) (as := [vI (xs (x5 + 1).toNat)]) (r := []) (st2 := [vF q210.1]) rfl rfl rfl rfl rfl (hc6 0 (by decide)) rfl rfl (c_X6_free xs 12 (xs (x5 + 1).toNat) q205.2 q210 hq210) ?_
        obtain ⟨c211, h⟩ := ck_some h
        refine r_f2d hX (p2 := 980) rfl rfl c211 ?_
        obtain ⟨v212, hv212, h⟩ := bs_some h
        refine r_dstoreE hX (p2 := 982) (ls2 := [some (vX 2), some (vR (cc 5 0)), some (vR (cc 6 0)), some (vR (ca 700 0)), some (vR (ca 701 0)), some (vI x5), some (vD v207), none, some (vD v212), none]) rfl rfl hv212 rfl rfl ?_
        refine r_dload hX (p2 := 984) rfl rfl rfl ?_
        refine r_dload hX (p2 := 986) rfl rfl rfl ?_
        refine r_dcmp hX (p2 := 987) rfl rfl ?_
        refine r_if hX (p2 := 1008) (p3 := 990) (P := (pm_dc .l v207 v212) = 0) rfl (by decide) rfl rfl (fun p215 => ?_) (fun p215 => ?_)
        · have h := it_pos h p215
          exact t_L_law_1008 hL q X hX _ _ _ _ _ _ ih hK681 hK771 hK898 hK1006 hK1017 x5 v207 v212 q210.2 h
        · have h := it_neg h p215
          refine r_dload hX (p2 := 992) rfl rfl rfl ?_
          refine r_dload hX (p2 := 994) rfl rfl rfl ?_
          refine r_dcmp hX (p2 := 995) rfl rfl ?_
          refine r_if hX (p2 := 1006) (p3 := 998) (P := (pm_dc .l v207 v207) = 0) rfl (by decide) rfl rfl (fun p214 => ?_) (fun p214 => ?_)
          · have h := it_pos h p214
            exact hK1006 v207 v212 (some (vX 2)) (some (vR (cc 5 0))) (some (vR (cc 6 0))) (some (vR (ca 700 0))) (some (vR (ca 701 0))) (some (vI x5)) q210.2 h
          · have h := it_neg h p214
            refine r_dload hX (p2 := 1000) rfl rfl rfl ?_
            refine r_dload hX (p2 := 1002) rfl rfl rfl ?_
            refine r_dcmp hX (p2 := 1003) rfl rfl ?_
            refine r_if hX (p2 := 1008) (p3 := 1006) (P := (pm_dc .l v212 v212) ≠ 0) rfl (by decide) rfl rfl (fun p213 => ?_) (fun p213 => ?_)
            · have h := it_pos h p213
              exact t_L_law_1008 hL q X hX _ _ _ _ _ _ ih hK681 hK771 hK898 hK1006 hK1017 x5 v207 v212 q210.2 h
            · have h := it_neg h p213
              exact hK1006 v207 v212 (some (vX 2)) (some (vR (cc 5 0))) (some (vR (cc 6 0))) (some (vR (ca 700 0))) (some (vR (ca 701 0))) (some (vI x5)) q210.2 h
      have h := it_neg h p216
      cases h
