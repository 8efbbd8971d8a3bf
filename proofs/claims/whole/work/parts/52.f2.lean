/-! ===== THE METHODS AS FUNCTIONS (written by wip/whole/gen_fun.py) ===== -/
noncomputable def f_X0_stand (i0 : Nat) (a1 : Int) (a2 : Int) (a3 : Int) (s : pS) : Option (pS) := ck (0 ≤ a1 ∧ a1 < 10) (bs (wA s 4 i0 (pm_up (sA s 4 i0) a1.toNat a2)) (fun s2 => ck (0 ≤ a1 ∧ a1 < 10) (bs (wA s2 5 i0 (pm_up (sA s2 5 i0) a1.toNat a3)) (fun s4 => some s4))))
set_option maxRecDepth 10000 in
theorem c_X0_stand (xs : Nat → Int) (e : Nat) (i0 : Nat) (a1 : Int) (a2 : Int) (a3 : Int) (hi0 : i0 < 2) (s : pS) (q : pS) (h : f_X0_stand i0 a1 a2 a3 s = some q) : pCall pm_tx 1001 xs pm_P (e + 1) 1 [vR (cc 0 i0), vI a1, vI a2, vI a3] (pW s) (.inl none) (pW q) := by
  refine pCall_of mX0_stand rfl rfl (fun X hX => ?_)
  show X [some (vR (cc 0 i0)), some (vI a1), some (vI a2), some (vI a3)] [] 0 (pW s)
  replace hX : pm_clo 1001 xs (pCall pm_tx 1001 xs pm_P e) e mX0_stand (eU q) X := hX
  unfold f_X0_stand at h
  refine r_aload_n hX (p2 := 1) rfl rfl rfl ⟨_, Or.inl rfl⟩ ?_
  refine r_gf hX (p2 := 4) (v := vR (ca 4 i0)) rfl rfl (hc0 i0 hi0) rfl rfl rfl ?_
  refine r_iload_n hX (p2 := 5) rfl rfl rfl ?_
  refine r_iload_n hX (p2 := 6) rfl rfl rfl ?_
  obtain ⟨c1, h⟩ := ck_some h
  obtain ⟨s2, hs2, h⟩ := bs_some h
  refine r_iastore hX (p2 := 7) (j := a1.toNat) rfl rfl (ha4 i0 hi0) rfl rfl c1 rfl hs2 ?_
  refine r_aload_n hX (p2 := 8) rfl rfl rfl ⟨_, Or.inl rfl⟩ ?_
  refine r_gf hX (p2 := 11) (v := vR (ca 5 i0)) rfl rfl (hc0 i0 hi0) rfl rfl rfl ?_
  refine r_iload_n hX (p2 := 12) rfl rfl rfl ?_
  refine r_iload_n hX (p2 := 13) rfl rfl rfl ?_
  obtain ⟨c3, h⟩ := ck_some h
  obtain ⟨s4, hs4, h⟩ := bs_some h
  refine r_iastore hX (p2 := 14) (j := a1.toNat) rfl rfl (ha5 i0 hi0) rfl rfl c3 rfl hs4 ?_
  exact r_return hX rfl rfl (eU_ok h)
noncomputable def f_X5_item_17 (s : pS) : Option ((Int ⊕ Nat) × pS) := some (Sum.inr 0, wN s)
set_option maxRecDepth 10000 in
theorem t_X5_item_17 (xs : Nat → Int) (e : Nat) (q : (Int ⊕ Nat) × pS) (X : List (Option pV) → List pV → Nat → pH → Prop) (hX : pm_clo 1001 xs (pCall pm_tx 1001 xs pm_P (e + 7)) (e + 7) mX5_item (eTI q) X) : ∀  (d0 : Option pV) (d1 : Option pV) (d2 : Option pV) (d3 : Option pV) (d4 : Option pV) (s : pS), f_X5_item_17 s = some q → X [d0, d1, d2, d3, d4] [] 17 (pW s) := by
  intro d0 d1 d2 d3 d4 s h
  unfold f_X5_item_17 at h
  exact r_throw hX rfl (by omega) rfl (eTI_no h)
noncomputable def f_X5_item (a1 : Int) (a2 : Int) (a3 : Int) (a4 : Int) (s : pS) : Option ((Int ⊕ Nat) × pS) := (f_X5_isStand a1 a2 s).bind (fun q1 => (if q1.1 = 0 then f_X5_item_17 q1.2 else (f_X5_isStand a3 a4 q1.2).bind (fun q2 => (if q2.1 ≠ 0 then (if (sI q2.2 504 0) < 10 then (f_X0_stand 0 (sI q2.2 504 0) a1 a2 q2.2).bind (fun q3 => (f_X0_stand 1 (sI q3 504 0) a3 a4 q3).bind (fun q4 => ck (inR ((sI q4 504 0) + 1)) (bs (wI q4 504 0 ((sI q4 504 0) + 1)) (fun s6 => ck (inR ((sI s6 504 0) - 1)) (some (Sum.inl ((sI s6 504 0) - 1), s6)))))) else some (Sum.inr 1, wN q2.2)) else f_X5_item_17 q2.2))))
set_option maxRecDepth 10000 in
theorem c_X5_item (xs : Nat → Int) (e : Nat) (a1 : Int) (a2 : Int) (a3 : Int) (a4 : Int) (s : pS) (q : (Int ⊕ Nat) × pS) (h : f_X5_item a1 a2 a3 a4 s = some q) : pCall pm_tx 1001 xs pm_P (e + 7 + 1) 77 [vR (cc 5 0), vI a1, vI a2, vI a3, vI a4] (pW s) (oTI q.1) (pW q.2) := by
  refine pCall_of mX5_item rfl rfl (fun X hX => ?_)
  show X [some (vR (cc 5 0)), some (vI a1), some (vI a2), some (vI a3), some (vI a4)] [] 0 (pW s)
  replace hX : pm_clo 1001 xs (pCall pm_tx 1001 xs pm_P (e + 7)) (e + 7) mX5_item (eTI q) X := hX
  unfold f_X5_item at h
  refine r_iload_n hX (p2 := 1) rfl rfl rfl ?_
  refine r_iload_n hX (p2 := 2) rfl rfl rfl ?_
  obtain ⟨q1, hq1, h⟩ := bd_some h
  refine r_calls0 hX (p2 := 5) (v := some (vI q1.1)) (as := [vI a1, vI a2]) (r := []) (st2 := [vI q1.1]) rfl rfl rfl rfl rfl rfl (c_X5_isStand xs (e + 6) a1 a2 s q1 hq1) ?_
  refine r_if hX (p2 := 17) (p3 := 8) (P := q1.1 = 0) rfl (by decide) rfl rfl (fun p10 => ?_) (fun p10 => ?_)
  · have h := it_pos h p10
    exact t_X5_item_17 xs e q X hX (some (vR (cc 5 0))) (some (vI a1)) (some (vI a2)) (some (vI a3)) (some (vI a4)) q1.2 h
  · have h := it_neg h p10
    refine r_iload_n hX (p2 := 9) rfl rfl rfl ?_
    refine r_iload hX (p2 := 11) rfl rfl rfl ?_
    obtain ⟨q2, hq2, h⟩ := bd_some h
    refine r_calls0 hX (p2 := 14) (v := some (vI q2.1)) (as := [vI a3, vI a4]) (r := []) (st2 := [vI q2.1]) rfl rfl rfl rfl rfl rfl (c_X5_isStand xs (e + 6) a3 a4 q1.2 q2 hq2) ?_
    refine r_if hX (p2 := 27) (p3 := 17) (P := q2.1 ≠ 0) rfl (by decide) rfl rfl (fun p9 => ?_) (fun p9 => ?_)
    · have h := it_pos h p9
      refine r_aload_n hX (p2 := 28) rfl rfl rfl ⟨_, Or.inl rfl⟩ ?_
      refine r_gf hX (p2 := 31) (v := vI (sI q2.2 504 0)) rfl rfl (hc5 0 (by decide)) rfl rfl rfl ?_
      refine r_bipush hX (p2 := 33) rfl rfl rfl ?_
      refine r_icmp hX (p2 := 46) (p3 := 36) (P := (sI q2.2 504 0) < 10) rfl (by decide) rfl rfl (fun p8 => ?_) (fun p8 => ?_)
      · have h := it_pos h p8
        refine r_aload_n hX (p2 := 47) rfl rfl rfl ⟨_, Or.inl rfl⟩ ?_
        refine r_gf hX (p2 := 50) (v := vR (cr 501)) rfl rfl (hc5 0 (by decide)) rfl rfl rfl ?_
        refine r_iconst hX (p2 := 51) rfl rfl rfl ?_
        refine r_aaload hX (p2 := 52) rfl rfl hr501 rfl ⟨by decide, by decide⟩ (y := cc 0 0) rfl ?_
        refine r_aload_n hX (p2 := 53) rfl rfl rfl ⟨_, Or.inl rfl⟩ ?_
        refine r_gf hX (p2 := 56) (v := vI (sI q2.2 504 0)) rfl rfl (hc5 0 (by decide)) rfl rfl rfl ?_
        refine r_iload_n hX (p2 := 57) rfl rfl rfl ?_
        refine r_iload_n hX (p2 := 58) rfl rfl rfl ?_
        obtain ⟨q3, hq3, h⟩ := bd_some h
        refine r_callv hX (p2 := 61) (v := none) (as := [vI (sI q2.2 504 0), vI a1, vI a2]) (r := []) (st2 := []) rfl rfl rfl rfl rfl (hc0 0 (by decide)) rfl rfl (c_X0_stand xs (e + 6) 0 (sI q2.2 504 0) a1 a2 (by decide) q2.2 q3 hq3) ?_
        refine r_aload_n hX (p2 := 62) rfl rfl rfl ⟨_, Or.inl rfl⟩ ?_
        refine r_gf hX (p2 := 65) (v := vR (cr 501)) rfl rfl (hc5 0 (by decide)) rfl rfl rfl ?_
        refine r_iconst hX (p2 := 66) rfl rfl rfl ?_
        refine r_aaload hX (p2 := 67) rfl rfl hr501 rfl ⟨by decide, by decide⟩ (y := cc 0 1) rfl ?_
        refine r_aload_n hX (p2 := 68) rfl rfl rfl ⟨_, Or.inl rfl⟩ ?_
        refine r_gf hX (p2 := 71) (v := vI (sI q3 504 0)) rfl rfl (hc5 0 (by decide)) rfl rfl rfl ?_
        refine r_iload_n hX (p2 := 72) rfl rfl rfl ?_
        refine r_iload hX (p2 := 74) rfl rfl rfl ?_
        obtain ⟨q4, hq4, h⟩ := bd_some h
        refine r_callv hX (p2 := 77) (v := none) (as := [vI (sI q3 504 0), vI a3, vI a4]) (r := []) (st2 := []) rfl rfl rfl rfl rfl (hc0 1 (by decide)) rfl rfl (c_X0_stand xs (e + 6) 1 (sI q3 504 0) a3 a4 (by decide) q3 q4 hq4) ?_
        refine r_aload_n hX (p2 := 78) rfl rfl rfl ⟨_, Or.inl rfl⟩ ?_
        refine r_dup hX (p2 := 79) rfl rfl rfl ?_
        refine r_gf hX (p2 := 82) (v := vI (sI q4 504 0)) rfl rfl (hc5 0 (by decide)) rfl rfl rfl ?_
        refine r_iconst hX (p2 := 83) rfl rfl rfl ?_
        obtain ⟨c5, h⟩ := ck_some h
        refine r_iadd hX (p2 := 84) rfl rfl c5 ?_
        obtain ⟨s6, hs6, h⟩ := bs_some h
        refine r_pfI hX (p2 := 87) rfl rfl (hc5 0 (by decide)) rfl rfl rfl rfl rfl rfl hs6 ?_
        refine r_aload_n hX (p2 := 88) rfl rfl rfl ⟨_, Or.inl rfl⟩ ?_
        refine r_gf hX (p2 := 91) (v := vI (sI s6 504 0)) rfl rfl (hc5 0 (by decide)) rfl rfl rfl ?_
        refine r_iconst hX (p2 := 92) rfl rfl rfl ?_
        obtain ⟨c7, h⟩ := ck_some h
        refine r_isub hX (p2 := 93) rfl rfl c7 ?_
        exact r_iretI hX rfl rfl (eTI_ok h)
      · have h := it_neg h p8
        exact r_throw hX rfl (by omega) rfl (eTI_no h)
    · have h := it_neg h p9
      exact t_X5_item_17 xs e q X hX (some (vR (cc 5 0))) (some (vI a1)) (some (vI a2)) (some (vI a3)) (some (vI a4)) q2.2 h
noncomputable def f_L_item (a1 : Int) (a2 : Int) (a3 : Int) (a4 : Int) (s : pS) : Option (Int × pS) := (f_X5_item a1 a2 a3 a4 s).bind (fun q1 => (sel q1.1 (fun r2 => bs (wA q1.2 700 0 (pm_up (sA q1.2 700 0) 0 r2)) (fun s4 => some (0, s4))) (fun e3 => (if e3 = 0 then some (1, q1.2) else (if e3 = 1 then some (2, q1.2) else none)))))
set_option maxRecDepth 10000 in
theorem c_L_item (xs : Nat → Int) (e : Nat) (a1 : Int) (a2 : Int) (a3 : Int) (a4 : Int) (s : pS) (q : Int × pS) (h : f_L_item a1 a2 a3 a4 s = some q) : pCall pm_tx 1001 xs pm_P (e + 8 + 1) 169 [vR (cc 5 0), vI a1, vI a2, vI a3, vI a4, vR (ca 700 0)] (pW s) (.inl (some (vI q.1))) (pW q.2) := by
  refine pCall_of mL_item rfl rfl (fun X hX => ?_)
  show X [some (vR (cc 5 0)), some (vI a1), some (vI a2), some (vI a3), some (vI a4), some (vR (ca 700 0)), none] [] 0 (pW s)
  replace hX : pm_clo 1001 xs (pCall pm_tx 1001 xs pm_P (e + 8)) (e + 8) mL_item (eI q) X := hX
  unfold f_L_item at h
  refine r_aload hX (p2 := 2) rfl rfl rfl ⟨_, Or.inl rfl⟩ ?_
  refine r_iconst hX (p2 := 3) rfl rfl rfl ?_
  refine r_aload_n hX (p2 := 4) rfl rfl rfl ⟨_, Or.inl rfl⟩ ?_
  refine r_iload_n hX (p2 := 5) rfl rfl rfl ?_
  refine r_iload_n hX (p2 := 6) rfl rfl rfl ?_
  refine r_iload_n hX (p2 := 7) rfl rfl rfl ?_
  refine r_iload hX (p2 := 9) rfl rfl rfl ?_
  obtain ⟨q1, hq1, h⟩ := bd_some h
  have hcq1 := (c_X5_item xs e a1 a2 a3 a4 s q1 hq1)
  rcases hvq1 : q1.1 with r2 | e3
  · rw [hvq1] at h hcq1
    refine r_callv hX (p2 := 12) (v := some (vI r2)) (as := [vI a1, vI a2, vI a3, vI a4]) (r := [vI 0, vR (ca 700 0)]) (st2 := [vI r2, vI 0, vR (ca 700 0)]) rfl rfl rfl rfl rfl (hc5 0 (by decide)) rfl rfl hcq1 ?_
    have h := sel_l h
    refine r_i2l hX (p2 := 13) rfl rfl ?_
    obtain ⟨s4, hs4, h⟩ := bs_some h
    refine r_lastore hX (p2 := 14) (j := 0) rfl rfl (ha700 0 (by decide)) rfl rfl ⟨by decide, by decide⟩ rfl hs4 ?_
    refine r_goto hX (p2 := 25) rfl (by decide) ?_
    refine r_iconst hX (p2 := 26) rfl rfl rfl ?_
    exact r_iretI hX rfl rfl (eI_ok h)
  · rw [hvq1] at h hcq1
    have h := sel_r h
    by_cases p5 : e3 = 0
    · have h := it_pos h p5
      subst p5
      refine r_callt hX (p2 := 17) (as := [vI a1, vI a2, vI a3, vI a4]) (r := [vI 0, vR (ca 700 0)]) rfl rfl rfl rfl (hc5 0 (by decide)) rfl hcq1 rfl rfl ?_
      refine r_astore hX (p2 := 19) (ls2 := [some (vR (cc 5 0)), some (vI a1), some (vI a2), some (vI a3), some (vI a4), some (vR (ca 700 0)), some (vX 1)]) rfl rfl ⟨0, Or.inr rfl⟩ rfl rfl ?_
      refine r_iconst hX (p2 := 20) rfl rfl rfl ?_
      exact r_iretI hX rfl rfl (eI_ok h)
    have h := it_neg h p5
    by_cases p6 : e3 = 1
    · have h := it_pos h p6
      subst p6
      refine r_callt hX (p2 := 21) (as := [vI a1, vI a2, vI a3, vI a4]) (r := [vI 0, vR (ca 700 0)]) rfl rfl rfl rfl (hc5 0 (by decide)) rfl hcq1 rfl rfl ?_
      refine r_astore hX (p2 := 23) (ls2 := [some (vR (cc 5 0)), some (vI a1), some (vI a2), some (vI a3), some (vI a4), some (vR (ca 700 0)), some (vX 1)]) rfl rfl ⟨0, Or.inr rfl⟩ rfl rfl ?_
      refine r_iconst hX (p2 := 24) rfl rfl rfl ?_
      exact r_iretI hX rfl rfl (eI_ok h)
    have h := it_neg h p6
    cases h
noncomputable def f_X6_outside_15 (y0 : Int) (s : pS) : Option (Int × pS) := ck (y0 = 0 ∨ y0 = 1) (some (y0, s))
set_option maxRecDepth 10000 in
theorem t_X6_outside_15 (xs : Nat → Int) (e : Nat) (q : Int × pS) (X : List (Option pV) → List pV → Nat → pH → Prop) (hX : pm_clo 1001 xs (pCall pm_tx 1001 xs pm_P e) e mX6_outside (eI q) X) : ∀  (y0 : Int) (d0 : Option pV) (d1 : Option pV) (d2 : Option pV) (s : pS), f_X6_outside_15 y0 s = some q → X [d0, d1, d2] [vI y0] 15 (pW s) := by
  intro y0 d0 d1 d2 s h
  unfold f_X6_outside_15 at h
  obtain ⟨c1, h⟩ := ck_some h
  exact r_iretZ hX rfl rfl c1 (eI_ok h)
noncomputable def f_X6_outside_10 (s : pS) : Option (Int × pS) := f_X6_outside_15 1 s
set_option maxRecDepth 10000 in
theorem t_X6_outside_10 (xs : Nat → Int) (e : Nat) (q : Int × pS) (X : List (Option pV) → List pV → Nat → pH → Prop) (hX : pm_clo 1001 xs (pCall pm_tx 1001 xs pm_P e) e mX6_outside (eI q) X) : ∀  (d0 : Option pV) (d1 : Option pV) (d2 : Option pV) (s : pS), f_X6_outside_10 s = some q → X [d0, d1, d2] [] 10 (pW s) := by
  intro d0 d1 d2 s h
  unfold f_X6_outside_10 at h
  refine r_iconst hX (p2 := 11) rfl rfl rfl ?_
  refine r_goto hX (p2 := 15) rfl (by decide) ?_
  exact t_X6_outside_15 xs e q X hX 1 d0 d1 d2 s h
noncomputable def f_X6_outside (a0 : Int) (a1 : Int) (a2 : Int) (s : pS) : Option (Int × pS) := (if a0 < a1 then f_X6_outside_10 s else (if a0 ≤ a2 then f_X6_outside_15 0 s else f_X6_outside_10 s))
set_option maxRecDepth 10000 in
theorem c_X6_outside (xs : Nat → Int) (e : Nat) (a0 : Int) (a1 : Int) (a2 : Int) (s : pS) (q : Int × pS) (h : f_X6_outside a0 a1 a2 s = some q) : pCall pm_tx 1001 xs pm_P (e + 1) 102 [vI a0, vI a1, vI a2] (pW s) (.inl (some (vI q.1))) (pW q.2) := by
  refine pCall_of mX6_outside rfl rfl (fun X hX => ?_)
  show X [some (vI a0), some (vI a1), some (vI a2)] [] 0 (pW s)
  replace hX : pm_clo 1001 xs (pCall pm_tx 1001 xs pm_P e) e mX6_outside (eI q) X := hX
  unfold f_X6_outside at h
  refine r_iload_n hX (p2 := 1) rfl rfl rfl ?_
  refine r_iload_n hX (p2 := 2) rfl rfl rfl ?_
  refine r_icmp hX (p2 := 10) (p3 := 5) (P := a0 < a1) rfl (by decide) rfl rfl (fun p2 => ?_) (fun p2 => ?_)
  · have h := it_pos h p2
    exact t_X6_outside_10 xs e q X hX (some (vI a0)) (some (vI a1)) (some (vI a2)) s h
  · have h := it_neg h p2
    refine r_iload_n hX (p2 := 6) rfl rfl rfl ?_
    refine r_iload_n hX (p2 := 7) rfl rfl rfl ?_
    refine r_icmp hX (p2 := 14) (p3 := 10) (P := a0 ≤ a2) rfl (by decide) rfl rfl (fun p1 => ?_) (fun p1 => ?_)
    · have h := it_pos h p1
      refine r_iconst hX (p2 := 15) rfl rfl rfl ?_
      exact t_X6_outside_15 xs e q X hX 0 (some (vI a0)) (some (vI a1)) (some (vI a2)) s h
    · have h := it_neg h p1
      exact t_X6_outside_10 xs e q X hX (some (vI a0)) (some (vI a1)) (some (vI a2)) s h
noncomputable def f_X6_isBad_32 (y0 : Int) (s : pS) : Option (Int × pS) := ck (y0 = 0 ∨ y0 = 1) (some (y0, s))
set_option maxRecDepth 10000 in
theorem t_X6_isBad_32 (xs : Nat → Int) (e : Nat) (q : Int × pS) (X : List (Option pV) → List pV → Nat → pH → Prop) (hX : pm_clo 1001 xs (pCall pm_tx 1001 xs pm_P (e + 1)) (e + 1) mX6_isBad (eI q) X) : ∀  (y0 : Int) (d0 : Option pV) (d1 : Option pV) (s : pS), f_X6_isBad_32 y0 s = some q → X [d0, d1] [vI y0] 32 (pW s) := by
  intro y0 d0 d1 s h
  unfold f_X6_isBad_32 at h
  obtain ⟨c1, h⟩ := ck_some h
  exact r_iretZ hX rfl rfl c1 (eI_ok h)
noncomputable def f_X6_isBad_27 (s : pS) : Option (Int × pS) := f_X6_isBad_32 1 s
set_option maxRecDepth 10000 in
theorem t_X6_isBad_27 (xs : Nat → Int) (e : Nat) (q : Int × pS) (X : List (Option pV) → List pV → Nat → pH → Prop) (hX : pm_clo 1001 xs (pCall pm_tx 1001 xs pm_P (e + 1)) (e + 1) mX6_isBad (eI q) X) : ∀  (d0 : Option pV) (d1 : Option pV) (s : pS), f_X6_isBad_27 s = some q → X [d0, d1] [] 27 (pW s) := by
  intro d0 d1 s h
  unfold f_X6_isBad_27 at h
  refine r_iconst hX (p2 := 28) rfl rfl rfl ?_
  refine r_goto hX (p2 := 32) rfl (by decide) ?_
  exact t_X6_isBad_32 xs e q X hX 1 d0 d1 s h
noncomputable def f_X6_isBad (a0 : Int) (a1 : Int) (s : pS) : Option (Int × pS) := (f_X6_outside a0 0 12 s).bind (fun q1 => (if q1.1 ≠ 0 then f_X6_isBad_27 q1.2 else (f_X6_outside a1 1 4 q1.2).bind (fun q2 => (if q2.1 ≠ 0 then f_X6_isBad_27 q2.2 else ck (inR (a0 + a1)) ((if (a0 + a1) ≤ 13 then f_X6_isBad_32 0 q2.2 else f_X6_isBad_27 q2.2))))))
set_option maxRecDepth 10000 in
theorem c_X6_isBad (xs : Nat → Int) (e : Nat) (a0 : Int) (a1 : Int) (s : pS) (q : Int × pS) (h : f_X6_isBad a0 a1 s = some q) : pCall pm_tx 1001 xs pm_P (e + 1 + 1) 123 [vI a0, vI a1] (pW s) (.inl (some (vI q.1))) (pW q.2) := by
  refine pCall_of mX6_isBad rfl rfl (fun X hX => ?_)
  show X [some (vI a0), some (vI a1)] [] 0 (pW s)
  replace hX : pm_clo 1001 xs (pCall pm_tx 1001 xs pm_P (e + 1)) (e + 1) mX6_isBad (eI q) X := hX
  unfold f_X6_isBad at h
  refine r_iload_n hX (p2 := 1) rfl rfl rfl ?_
  refine r_iconst hX (p2 := 2) rfl rfl rfl ?_
  refine r_bipush hX (p2 := 4) rfl rfl rfl ?_
  obtain ⟨q1, hq1, h⟩ := bd_some h
  refine r_calls0 hX (p2 := 7) (v := some (vI q1.1)) (as := [vI a0, vI 0, vI 12]) (r := []) (st2 := [vI q1.1]) rfl rfl rfl rfl rfl rfl (c_X6_outside xs e a0 0 12 s q1 hq1) ?_
  refine r_if hX (p2 := 27) (p3 := 10) (P := q1.1 ≠ 0) rfl (by decide) rfl rfl (fun p6 => ?_) (fun p6 => ?_)
  · have h := it_pos h p6
    exact t_X6_isBad_27 xs e q X hX (some (vI a0)) (some (vI a1)) q1.2 h
  · have h := it_neg h p6
    refine r_iload_n hX (p2 := 11) rfl rfl rfl ?_
    refine r_iconst hX (p2 := 12) rfl rfl rfl ?_
    refine r_iconst hX (p2 := 13) rfl rfl rfl ?_
    obtain ⟨q2, hq2, h⟩ := bd_some h
    refine r_calls0 hX (p2 := 16) (v := some (vI q2.1)) (as := [vI a1, vI 1, vI 4]) (r := []) (st2 := [vI q2.1]) rfl rfl rfl rfl rfl rfl (c_X6_outside xs e a1 1 4 q1.2 q2 hq2) ?_
    refine r_if hX (p2 := 27) (p3 := 19) (P := q2.1 ≠ 0) rfl (by decide) rfl rfl (fun p5 => ?_) (fun p5 => ?_)
    · have h := it_pos h p5
      exact t_X6_isBad_27 xs e q X hX (some (vI a0)) (some (vI a1)) q2.2 h
    · have h := it_neg h p5
      refine r_iload_n hX (p2 := 20) rfl rfl rfl ?_
      refine r_iload_n hX (p2 := 21) rfl rfl rfl ?_
      obtain ⟨c3, h⟩ := ck_some h
      refine r_iadd hX (p2 := 22) rfl rfl c3 ?_
      refine r_bipush hX (p2 := 24) rfl rfl rfl ?_
      refine r_icmp hX (p2 := 31) (p3 := 27) (P := (a0 + a1) ≤ 13) rfl (by decide) rfl rfl (fun p4 => ?_) (fun p4 => ?_)
      · have h := it_pos h p4
        refine r_iconst hX (p2 := 32) rfl rfl rfl ?_
        exact t_X6_isBad_32 xs e q X hX 0 (some (vI a0)) (some (vI a1)) q2.2 h
      · have h := it_neg h p4
        exact t_X6_isBad_27 xs e q X hX (some (vI a0)) (some (vI a1)) q2.2 h
noncomputable def f_X6_item_101 (K143 : pS → Option (Int × pS)) : Nat → Int → pS → Option (Int × pS)
  | 0, _, _ => none
  | n + 1, x5, s => (if 2 ≤ x5 then K143 s else ck (inR (2 * (sI s 619 0))) (ck (inR ((2 * (sI s 619 0)) + x5)) (ck (0 ≤ ((2 * (sI s 619 0)) + x5) ∧ ((2 * (sI s 619 0)) + x5) < 20) (bs (wB s 622 0 (pm_up (sB s 622 0) ((2 * (sI s 619 0)) + x5).toNat FP.fconst0)) (fun s4 => ck (inR (2 * (sI s4 619 0))) (ck (inR ((2 * (sI s4 619 0)) + x5)) (ck (0 ≤ ((2 * (sI s4 619 0)) + x5) ∧ ((2 * (sI s4 619 0)) + x5) < 20) (bs (wB s4 623 0 (pm_up (sB s4 623 0) ((2 * (sI s4 619 0)) + x5).toNat FP.fconst0)) (fun s8 => ck (inR (x5 + 1)) (f_X6_item_101 K143 n (x5 + 1) s8))))))))))
set_option maxRecDepth 10000 in
theorem t_X6_item_101 (xs : Nat → Int) (e : Nat) (q : Int × pS) (X : List (Option pV) → List pV → Nat → pH → Prop) (hX : pm_clo 1001 xs (pCall pm_tx 1001 xs pm_P (e + 2)) (e + 2) mX6_item (eI q) X) (K143 : pS → Option (Int × pS)) (hK143 : ∀ (d1 : Option pV) (d2 : Option pV) (d3 : Option pV) (d4 : Option pV) (d5 : Option pV) (s : pS), K143 s = some q → X [some (vR (cc 6 0)), d1, d2, d3, d4, d5] [] 143 (pW s)) : ∀ (n : Nat) (x5 : Int) (d1 : Option pV) (d2 : Option pV) (d3 : Option pV) (d4 : Option pV) (hd4 : pm_nc d4) (s : pS), f_X6_item_101 K143 n x5 s = some q → X [some (vR (cc 6 0)), d1, d2, d3, d4, some (vI x5)] [] 101 (pW s) := by
  intro n
  induction n with
  | zero =>
    intro x5 d1 d2 d3 d4 hd4 s h
    rw [f_X6_item_101] at h
    cases h
  | succ n ih =>
    intro x5 d1 d2 d3 d4 hd4 s h
    rw [f_X6_item_101] at h
    refine r_iload hX (p2 := 103) rfl rfl rfl ?_
    refine r_iconst hX (p2 := 104) rfl rfl rfl ?_
    refine r_icmp hX (p2 := 143) (p3 := 107) (P := 2 ≤ x5) rfl (by decide) rfl rfl (fun p10 => ?_) (fun p10 => ?_)
    · have h := it_pos h p10
      exact hK143 d1 d2 d3 d4 (some (vI x5)) s h
    · have h := it_neg h p10
      refine r_aload_n hX (p2 := 108) rfl rfl rfl ⟨_, Or.inl rfl⟩ ?_
      refine r_gf hX (p2 := 111) (v := vR (ca 622 0)) rfl rfl (hc6 0 (by decide)) rfl rfl rfl ?_
      refine r_iconst hX (p2 := 112) rfl rfl rfl ?_
      refine r_aload_n hX (p2 := 113) rfl rfl rfl ⟨_, Or.inl rfl⟩ ?_
      refine r_gf hX (p2 := 116) (v := vI (sI s 619 0)) rfl rfl (hc6 0 (by decide)) rfl rfl rfl ?_
      obtain ⟨c1, h⟩ := ck_some h
      refine r_imul hX (p2 := 117) rfl rfl c1 ?_
      refine r_iload hX (p2 := 119) rfl rfl rfl ?_
      obtain ⟨c2, h⟩ := ck_some h
      refine r_iadd hX (p2 := 120) rfl rfl c2 ?_
      refine r_fconst0 hX (p2 := 121) rfl rfl ?_
      obtain ⟨c3, h⟩ := ck_some h
      obtain ⟨s4, hs4, h⟩ := bs_some h
      refine r_fastore hX (p2 := 122) (j := ((2 * (sI s 619 0)) + x5).toNat) rfl rfl (ha622 0 (by decide)) rfl rfl c3 rfl hs4 ?_
      refine r_aload_n hX (p2 := 123) rfl rfl rfl ⟨_, Or.inl rfl⟩ ?_
      refine r_gf hX (p2 := 126) (v := vR (ca 623 0)) rfl rfl (hc6 0 (by decide)) rfl rfl rfl ?_
      refine r_iconst hX (p2 := 127) rfl rfl rfl ?_
      refine r_aload_n hX (p2 := 128) rfl rfl rfl ⟨_, Or.inl rfl⟩ ?_
      refine r_gf hX (p2 := 131) (v := vI (sI s4 619 0)) rfl rfl (hc6 0 (by decide)) rfl rfl rfl ?_
      obtain ⟨c5, h⟩ := ck_some h
      refine r_imul hX (p2 := 132) rfl rfl c5 ?_
      refine r_iload hX (p2 := 134) rfl rfl rfl ?_
      obtain ⟨c6, h⟩ := ck_some h
      refine r_iadd hX (p2 := 135) rfl rfl c6 ?_
      refine r_fconst0 hX (p2 := 136) rfl rfl ?_
      obtain ⟨c7, h⟩ := ck_some h
      obtain ⟨s8, hs8, h⟩ := bs_some h
      refine r_fastore hX (p2 := 137) (j := ((2 * (sI s4 619 0)) + x5).toNat) rfl rfl (ha623 0 (by decide)) rfl rfl c7 rfl hs8 ?_
      obtain ⟨c9, h⟩ := ck_some h
      refine r_iinc hX (p2 := 140) (ls2 := [some (vR (cc 6 0)), d1, d2, d3, d4, some (vI (x5 + 1))]) rfl rfl rfl rfl c9 (st1_nc rfl hd4 rfl) ?_
      refine r_goto hX (p2 := 101) rfl (by decide) ?_
      exact ih (x5 + 1) d1 d2 d3 d4 hd4 s8 h
noncomputable def f_X6_item_37 (x1 : Int) (x2 : Int) (x3 : Int) (x4 : Int) (y1 : Int) (y2 : Int) (s : pS) : Option (Int × pS) := (f_X6_fails y1 y2 s).bind (fun q1 => (if q1.1 = 0 then ck (inR (2 * (sI q1.2 619 0))) (ck (0 ≤ (2 * (sI q1.2 619 0)) ∧ (2 * (sI q1.2 619 0)) < 20) (bs (wA q1.2 620 0 (pm_up (sA q1.2 620 0) (2 * (sI q1.2 619 0)).toNat x1)) (fun s4 => ck (inR (2 * (sI s4 619 0))) (ck (0 ≤ (2 * (sI s4 619 0)) ∧ (2 * (sI s4 619 0)) < 20) (bs (wA s4 621 0 (pm_up (sA s4 621 0) (2 * (sI s4 619 0)).toNat x2)) (fun s7 => ck (inR (2 * (sI s7 619 0))) (ck (inR ((2 * (sI s7 619 0)) + 1)) (ck (0 ≤ ((2 * (sI s7 619 0)) + 1) ∧ ((2 * (sI s7 619 0)) + 1) < 20) (bs (wA s7 620 0 (pm_up (sA s7 620 0) ((2 * (sI s7 619 0)) + 1).toNat x3)) (fun s11 => ck (inR (2 * (sI s11 619 0))) (ck (inR ((2 * (sI s11 619 0)) + 1)) (ck (0 ≤ ((2 * (sI s11 619 0)) + 1) ∧ ((2 * (sI s11 619 0)) + 1) < 20) (bs (wA s11 621 0 (pm_up (sA s11 621 0) ((2 * (sI s11 619 0)) + 1).toNat x4)) (fun s15 => f_X6_item_101 (fun s16 => ck (inR ((sI s16 619 0) + 1)) (bs (wI s16 619 0 ((sI s16 619 0) + 1)) (fun s18 => ck (inR ((sI s18 619 0) - 1)) (some (((sI s18 619 0) - 1), s18))))) 400 0 s15)))))))))))))) else some (0, q1.2)))
set_option maxRecDepth 10000 in
theorem t_X6_item_37 (xs : Nat → Int) (e : Nat) (q : Int × pS) (X : List (Option pV) → List pV → Nat → pH → Prop) (hX : pm_clo 1001 xs (pCall pm_tx 1001 xs pm_P (e + 2)) (e + 2) mX6_item (eI q) X) : ∀  (x1 : Int) (x2 : Int) (x3 : Int) (x4 : Int) (y1 : Int) (y2 : Int) (d5 : Option pV) (s : pS), f_X6_item_37 x1 x2 x3 x4 y1 y2 s = some q → X [some (vR (cc 6 0)), some (vI x1), some (vI x2), some (vI x3), some (vI x4), d5] [vI y2, vI y1, vR (cc 6 0)] 37 (pW s) := by
  intro x1 x2 x3 x4 y1 y2 d5 s h
  unfold f_X6_item_37 at h
  obtain ⟨q1, hq1, h⟩ := bd_some h
  refine r_callv hX (p2 := 40) (v := some (vI q1.1)) (as := [vI y1, vI y2]) (r := []) (st2 := [vI q1.1]) rfl rfl rfl rfl rfl (hc6 0 (by decide)) rfl rfl (c_X6_fails xs (e + 1) y1 y2 s q1 hq1) ?_
  refine r_if hX (p2 := 45) (p3 := 43) (P := q1.1 = 0) rfl (by decide) rfl rfl (fun p20 => ?_) (fun p20 => ?_)
  · have h := it_pos h p20
    refine r_aload_n hX (p2 := 46) rfl rfl rfl ⟨_, Or.inl rfl⟩ ?_
    refine r_gf hX (p2 := 49) (v := vR (ca 620 0)) rfl rfl (hc6 0 (by decide)) rfl rfl rfl ?_
    refine r_iconst hX (p2 := 50) rfl rfl rfl ?_
    refine r_aload_n hX (p2 := 51) rfl rfl rfl ⟨_, Or.inl rfl⟩ ?_
    refine r_gf hX (p2 := 54) (v := vI (sI q1.2 619 0)) rfl rfl (hc6 0 (by decide)) rfl rfl rfl ?_
    obtain ⟨c2, h⟩ := ck_some h
    refine r_imul hX (p2 := 55) rfl rfl c2 ?_
    refine r_iload_n hX (p2 := 56) rfl rfl rfl ?_
    obtain ⟨c3, h⟩ := ck_some h
    obtain ⟨s4, hs4, h⟩ := bs_some h
    refine r_iastore hX (p2 := 57) (j := (2 * (sI q1.2 619 0)).toNat) rfl rfl (ha620 0 (by decide)) rfl rfl c3 rfl hs4 ?_
    refine r_aload_n hX (p2 := 58) rfl rfl rfl ⟨_, Or.inl rfl⟩ ?_
    refine r_gf hX (p2 := 61) (v := vR (ca 621 0)) rfl rfl (hc6 0 (by decide)) rfl rfl rfl ?_
    refine r_iconst hX (p2 := 62) rfl rfl rfl ?_
    refine r_aload_n hX (p2 := 63) rfl rfl rfl ⟨_, Or.inl rfl⟩ ?_
    refine r_gf hX (p2 := 66) (v := vI (sI s4 619 0)) rfl rfl (hc6 0 (by decide)) rfl rfl rfl ?_
    obtain ⟨c5, h⟩ := ck_some h
    refine r_imul hX (p2 := 67) rfl rfl c5 ?_
    refine r_iload_n hX (p2 := 68) rfl rfl rfl ?_
    obtain ⟨c6, h⟩ := ck_some h
    obtain ⟨s7, hs7, h⟩ := bs_some h
    refine r_iastore hX (p2 := 69) (j := (2 * (sI s4 619 0)).toNat) rfl rfl (ha621 0 (by decide)) rfl rfl c6 rfl hs7 ?_
    refine r_aload_n hX (p2 := 70) rfl rfl rfl ⟨_, Or.inl rfl⟩ ?_
    refine r_gf hX (p2 := 73) (v := vR (ca 620 0)) rfl rfl (hc6 0 (by decide)) rfl rfl rfl ?_
    refine r_iconst hX (p2 := 74) rfl rfl rfl ?_
    refine r_aload_n hX (p2 := 75) rfl rfl rfl ⟨_, Or.inl rfl⟩ ?_
    refine r_gf hX (p2 := 78) (v := vI (sI s7 619 0)) rfl rfl (hc6 0 (by decide)) rfl rfl rfl ?_
    obtain ⟨c8, h⟩ := ck_some h
    refine r_imul hX (p2 := 79) rfl rfl c8 ?_
    refine r_iconst hX (p2 := 80) rfl rfl rfl ?_
    obtain ⟨c9, h⟩ := ck_some h
    refine r_iadd hX (p2 := 81) rfl rfl c9 ?_
    refine r_iload_n hX (p2 := 82) rfl rfl rfl ?_
    obtain ⟨c10, h⟩ := ck_some h
    obtain ⟨s11, hs11, h⟩ := bs_some h
    refine r_iastore hX (p2 := 83) (j := ((2 * (sI s7 619 0)) + 1).toNat) rfl rfl (ha620 0 (by decide)) rfl rfl c10 rfl hs11 ?_
    refine r_aload_n hX (p2 := 84) rfl rfl rfl ⟨_, Or.inl rfl⟩ ?_
    refine r_gf hX (p2 := 87) (v := vR (ca 621 0)) rfl rfl (hc6 0 (by decide)) rfl rfl rfl ?_
    refine r_iconst hX (p2 := 88) rfl rfl rfl ?_
    refine r_aload_n hX (p2 := 89) rfl rfl rfl ⟨_, Or.inl rfl⟩ ?_
    refine r_gf hX (p2 := 92) (v := vI (sI s11 619 0)) rfl rfl (hc6 0 (by decide)) rfl rfl rfl ?_
    obtain ⟨c12, h⟩ := ck_some h
    refine r_imul hX (p2 := 93) rfl rfl c12 ?_
    refine r_iconst hX (p2 := 94) rfl rfl rfl ?_
    obtain ⟨c13, h⟩ := ck_some h
    refine r_iadd hX (p2 := 95) rfl rfl c13 ?_
    refine r_iload hX (p2 := 97) rfl rfl rfl ?_
    obtain ⟨c14, h⟩ := ck_some h
    obtain ⟨s15, hs15, h⟩ := bs_some h
    refine r_iastore hX (p2 := 98) (j := ((2 * (sI s11 619 0)) + 1).toNat) rfl rfl (ha621 0 (by decide)) rfl rfl c14 rfl hs15 ?_
    refine r_iconst hX (p2 := 99) rfl rfl rfl ?_
    refine r_istore hX (p2 := 101) (ls2 := [some (vR (cc 6 0)), some (vI x1), some (vI x2), some (vI x3), some (vI x4), some (vI 0)]) rfl rfl rfl rfl ?_
    refine t_X6_item_101 xs e q X hX _ (fun d1 d2 d3 d4 d5 s16 h => ?_) 400 0 (some (vI x1)) (some (vI x2)) (some (vI x3)) (some (vI x4)) rfl s15 h
    refine r_aload_n hX (p2 := 144) rfl rfl rfl ⟨_, Or.inl rfl⟩ ?_
    refine r_dup hX (p2 := 145) rfl rfl rfl ?_
    refine r_gf hX (p2 := 148) (v := vI (sI s16 619 0)) rfl rfl (hc6 0 (by decide)) rfl rfl rfl ?_
    refine r_iconst hX (p2 := 149) rfl rfl rfl ?_
    obtain ⟨c17, h⟩ := ck_some h
    refine r_iadd hX (p2 := 150) rfl rfl c17 ?_
    obtain ⟨s18, hs18, h⟩ := bs_some h
    refine r_pfI hX (p2 := 153) rfl rfl (hc6 0 (by decide)) rfl rfl rfl rfl rfl rfl hs18 ?_
    refine r_aload_n hX (p2 := 154) rfl rfl rfl ⟨_, Or.inl rfl⟩ ?_
    refine r_gf hX (p2 := 157) (v := vI (sI s18 619 0)) rfl rfl (hc6 0 (by decide)) rfl rfl rfl ?_
    refine r_iconst hX (p2 := 158) rfl rfl rfl ?_
    obtain ⟨c19, h⟩ := ck_some h
    refine r_isub hX (p2 := 159) rfl rfl c19 ?_
    exact r_iretI hX rfl rfl (eI_ok h)
  · have h := it_neg h p20
    refine r_iconst hX (p2 := 44) rfl rfl rfl ?_
    exact r_iretI hX rfl rfl (eI_ok h)
noncomputable def f_X6_item_23 (x1 : Int) (x2 : Int) (x3 : Int) (x4 : Int) (y1 : Int) (s : pS) : Option (Int × pS) := (if (sI s 619 0) ≠ 10 then f_X6_item_37 x1 x2 x3 x4 y1 0 s else f_X6_item_37 x1 x2 x3 x4 y1 1 s)
set_option maxRecDepth 10000 in
theorem t_X6_item_23 (xs : Nat → Int) (e : Nat) (q : Int × pS) (X : List (Option pV) → List pV → Nat → pH → Prop) (hX : pm_clo 1001 xs (pCall pm_tx 1001 xs pm_P (e + 2)) (e + 2) mX6_item (eI q) X) : ∀  (x1 : Int) (x2 : Int) (x3 : Int) (x4 : Int) (y1 : Int) (d5 : Option pV) (s : pS), f_X6_item_23 x1 x2 x3 x4 y1 s = some q → X [some (vR (cc 6 0)), some (vI x1), some (vI x2), some (vI x3), some (vI x4), d5] [vI y1, vR (cc 6 0)] 23 (pW s) := by
  intro x1 x2 x3 x4 y1 d5 s h
  unfold f_X6_item_23 at h
  refine r_aload_n hX (p2 := 24) rfl rfl rfl ⟨_, Or.inl rfl⟩ ?_
  refine r_gf hX (p2 := 27) (v := vI (sI s 619 0)) rfl rfl (hc6 0 (by decide)) rfl rfl rfl ?_
  refine r_bipush hX (p2 := 29) rfl rfl rfl ?_
  refine r_icmp hX (p2 := 36) (p3 := 32) (P := (sI s 619 0) ≠ 10) rfl (by decide) rfl rfl (fun p1 => ?_) (fun p1 => ?_)
  · have h := it_pos h p1
    refine r_iconst hX (p2 := 37) rfl rfl rfl ?_
    exact t_X6_item_37 xs e q X hX x1 x2 x3 x4 y1 0 d5 s h
  · have h := it_neg h p1
    refine r_iconst hX (p2 := 33) rfl rfl rfl ?_
    refine r_goto hX (p2 := 37) rfl (by decide) ?_
    exact t_X6_item_37 xs e q X hX x1 x2 x3 x4 y1 1 d5 s h
noncomputable def f_X6_item_18 (x1 : Int) (x2 : Int) (x3 : Int) (x4 : Int) (s : pS) : Option (Int × pS) := f_X6_item_23 x1 x2 x3 x4 1 s
set_option maxRecDepth 10000 in
theorem t_X6_item_18 (xs : Nat → Int) (e : Nat) (q : Int × pS) (X : List (Option pV) → List pV → Nat → pH → Prop) (hX : pm_clo 1001 xs (pCall pm_tx 1001 xs pm_P (e + 2)) (e + 2) mX6_item (eI q) X) : ∀  (x1 : Int) (x2 : Int) (x3 : Int) (x4 : Int) (d5 : Option pV) (s : pS), f_X6_item_18 x1 x2 x3 x4 s = some q → X [some (vR (cc 6 0)), some (vI x1), some (vI x2), some (vI x3), some (vI x4), d5] [vR (cc 6 0)] 18 (pW s) := by
  intro x1 x2 x3 x4 d5 s h
  unfold f_X6_item_18 at h
  refine r_iconst hX (p2 := 19) rfl rfl rfl ?_
  refine r_goto hX (p2 := 23) rfl (by decide) ?_
  exact t_X6_item_23 xs e q X hX x1 x2 x3 x4 1 d5 s h
noncomputable def f_X6_item (a1 : Int) (a2 : Int) (a3 : Int) (a4 : Int) (s : pS) : Option (Int × pS) := (f_X6_isBad a1 a2 s).bind (fun q1 => (if q1.1 ≠ 0 then f_X6_item_18 a1 a2 a3 a4 q1.2 else (f_X6_isBad a3 a4 q1.2).bind (fun q2 => (if q2.1 = 0 then f_X6_item_23 a1 a2 a3 a4 0 q2.2 else f_X6_item_18 a1 a2 a3 a4 q2.2))))
set_option maxRecDepth 10000 in
theorem c_X6_item (xs : Nat → Int) (e : Nat) (a1 : Int) (a2 : Int) (a3 : Int) (a4 : Int) (s : pS) (q : Int × pS) (h : f_X6_item a1 a2 a3 a4 s = some q) : pCall pm_tx 1001 xs pm_P (e + 2 + 1) 124 [vR (cc 6 0), vI a1, vI a2, vI a3, vI a4] (pW s) (.inl (some (vI q.1))) (pW q.2) := by
  refine pCall_of mX6_item rfl rfl (fun X hX => ?_)
  show X [some (vR (cc 6 0)), some (vI a1), some (vI a2), some (vI a3), some (vI a4), none] [] 0 (pW s)
  replace hX : pm_clo 1001 xs (pCall pm_tx 1001 xs pm_P (e + 2)) (e + 2) mX6_item (eI q) X := hX
  unfold f_X6_item at h
  refine r_aload_n hX (p2 := 1) rfl rfl rfl ⟨_, Or.inl rfl⟩ ?_
  refine r_iload_n hX (p2 := 2) rfl rfl rfl ?_
  refine r_iload_n hX (p2 := 3) rfl rfl rfl ?_
  obtain ⟨q1, hq1, h⟩ := bd_some h
  refine r_calls0 hX (p2 := 6) (v := some (vI q1.1)) (as := [vI a1, vI a2]) (r := [vR (cc 6 0)]) (st2 := [vI q1.1, vR (cc 6 0)]) rfl rfl rfl rfl rfl rfl (c_X6_isBad xs e a1 a2 s q1 hq1) ?_
  refine r_if hX (p2 := 18) (p3 := 9) (P := q1.1 ≠ 0) rfl (by decide) rfl rfl (fun p4 => ?_) (fun p4 => ?_)
  · have h := it_pos h p4
    exact t_X6_item_18 xs e q X hX a1 a2 a3 a4 none q1.2 h
  · have h := it_neg h p4
    refine r_iload_n hX (p2 := 10) rfl rfl rfl ?_
    refine r_iload hX (p2 := 12) rfl rfl rfl ?_
    obtain ⟨q2, hq2, h⟩ := bd_some h
    refine r_calls0 hX (p2 := 15) (v := some (vI q2.1)) (as := [vI a3, vI a4]) (r := [vR (cc 6 0)]) (st2 := [vI q2.1, vR (cc 6 0)]) rfl rfl rfl rfl rfl rfl (c_X6_isBad xs e a3 a4 q1.2 q2 hq2) ?_
    refine r_if hX (p2 := 22) (p3 := 18) (P := q2.1 = 0) rfl (by decide) rfl rfl (fun p3 => ?_) (fun p3 => ?_)
    · have h := it_pos h p3
      refine r_iconst hX (p2 := 23) rfl rfl rfl ?_
      exact t_X6_item_23 xs e q X hX a1 a2 a3 a4 0 none q2.2 h
    · have h := it_neg h p3
      exact t_X6_item_18 xs e q X hX a1 a2 a3 a4 none q2.2 h
noncomputable def f_X5_isItem_17 (y0 : Int) (s : pS) : Option (Int × pS) := ck (y0 = 0 ∨ y0 = 1) (some (y0, s))
set_option maxRecDepth 10000 in
theorem t_X5_isItem_17 (xs : Nat → Int) (e : Nat) (q : Int × pS) (X : List (Option pV) → List pV → Nat → pH → Prop) (hX : pm_clo 1001 xs (pCall pm_tx 1001 xs pm_P e) e mX5_isItem (eI q) X) : ∀  (y0 : Int) (d0 : Option pV) (d1 : Option pV) (s : pS), f_X5_isItem_17 y0 s = some q → X [d0, d1] [vI y0] 17 (pW s) := by
  intro y0 d0 d1 s h
  unfold f_X5_isItem_17 at h
  obtain ⟨c1, h⟩ := ck_some h
  exact r_iretZ hX rfl rfl c1 (eI_ok h)
noncomputable def f_X5_isItem_16 (s : pS) : Option (Int × pS) := f_X5_isItem_17 0 s
set_option maxRecDepth 10000 in
theorem t_X5_isItem_16 (xs : Nat → Int) (e : Nat) (q : Int × pS) (X : List (Option pV) → List pV → Nat → pH → Prop) (hX : pm_clo 1001 xs (pCall pm_tx 1001 xs pm_P e) e mX5_isItem (eI q) X) : ∀  (d0 : Option pV) (d1 : Option pV) (s : pS), f_X5_isItem_16 s = some q → X [d0, d1] [] 16 (pW s) := by
  intro d0 d1 s h
  unfold f_X5_isItem_16 at h
  refine r_iconst hX (p2 := 17) rfl rfl rfl ?_
  exact t_X5_isItem_17 xs e q X hX 0 d0 d1 s h
noncomputable def f_X5_isItem (a1 : Int) (s : pS) : Option (Int × pS) := (if a1 < 0 then f_X5_isItem_16 s else (if (sI s 504 0) ≤ a1 then f_X5_isItem_16 s else f_X5_isItem_17 1 s))
set_option maxRecDepth 10000 in
theorem c_X5_isItem (xs : Nat → Int) (e : Nat) (a1 : Int) (s : pS) (q : Int × pS) (h : f_X5_isItem a1 s = some q) : pCall pm_tx 1001 xs pm_P (e + 1) 90 [vR (cc 5 0), vI a1] (pW s) (.inl (some (vI q.1))) (pW q.2) := by
  refine pCall_of mX5_isItem rfl rfl (fun X hX => ?_)
  show X [some (vR (cc 5 0)), some (vI a1)] [] 0 (pW s)
  replace hX : pm_clo 1001 xs (pCall pm_tx 1001 xs pm_P e) e mX5_isItem (eI q) X := hX
  unfold f_X5_isItem at h
  refine r_iload_n hX (p2 := 1) rfl rfl rfl ?_
  refine r_if hX (p2 := 16) (p3 := 4) (P := a1 < 0) rfl (by decide) rfl rfl (fun p2 => ?_) (fun p2 => ?_)
  · have h := it_pos h p2
    exact t_X5_isItem_16 xs e q X hX (some (vR (cc 5 0))) (some (vI a1)) s h
  · have h := it_neg h p2
    refine r_iload_n hX (p2 := 5) rfl rfl rfl ?_
    refine r_aload_n hX (p2 := 6) rfl rfl rfl ⟨_, Or.inl rfl⟩ ?_
    refine r_gf hX (p2 := 9) (v := vI (sI s 504 0)) rfl rfl (hc5 0 (by decide)) rfl rfl rfl ?_
    refine r_icmp hX (p2 := 16) (p3 := 12) (P := (sI s 504 0) ≤ a1) rfl (by decide) rfl rfl (fun p1 => ?_) (fun p1 => ?_)
    · have h := it_pos h p1
      exact t_X5_isItem_16 xs e q X hX (some (vR (cc 5 0))) (some (vI a1)) s h
    · have h := it_neg h p1
      refine r_iconst hX (p2 := 13) rfl rfl rfl ?_
      refine r_goto hX (p2 := 17) rfl (by decide) ?_
      exact t_X5_isItem_17 xs e q X hX 1 (some (vR (cc 5 0))) (some (vI a1)) s h
noncomputable def f_X5_isMeasure_18 (y0 : Int) (s : pS) : Option (Int × pS) := ck (y0 = 0 ∨ y0 = 1) (some (y0, s))
set_option maxRecDepth 10000 in
theorem t_X5_isMeasure_18 (xs : Nat → Int) (e : Nat) (q : Int × pS) (X : List (Option pV) → List pV → Nat → pH → Prop) (hX : pm_clo 1001 xs (pCall pm_tx 1001 xs pm_P e) e mX5_isMeasure (eI q) X) : ∀  (y0 : Int) (d0 : Option pV) (s : pS), f_X5_isMeasure_18 y0 s = some q → X [d0] [vI y0] 18 (pW s) := by
  intro y0 d0 s h
  unfold f_X5_isMeasure_18 at h
  obtain ⟨c1, h⟩ := ck_some h
  exact r_iretZ hX rfl rfl c1 (eI_ok h)
noncomputable def f_X5_isMeasure_17 (s : pS) : Option (Int × pS) := f_X5_isMeasure_18 0 s
set_option maxRecDepth 10000 in
theorem t_X5_isMeasure_17 (xs : Nat → Int) (e : Nat) (q : Int × pS) (X : List (Option pV) → List pV → Nat → pH → Prop) (hX : pm_clo 1001 xs (pCall pm_tx 1001 xs pm_P e) e mX5_isMeasure (eI q) X) : ∀  (d0 : Option pV) (s : pS), f_X5_isMeasure_17 s = some q → X [d0] [] 17 (pW s) := by
  intro d0 s h
  unfold f_X5_isMeasure_17 at h
  refine r_iconst hX (p2 := 18) rfl rfl rfl ?_
  exact t_X5_isMeasure_18 xs e q X hX 0 d0 s h
noncomputable def f_X5_isMeasure (a0 : UInt32) (s : pS) : Option (Int × pS) := (if (pm_fc .l a0 FP.fconst0) < 0 then f_X5_isMeasure_17 s else (if 0 < (pm_fc .g a0 (UInt32.ofNat 1166016512)) then f_X5_isMeasure_17 s else f_X5_isMeasure_18 1 s))
set_option maxRecDepth 10000 in
theorem c_X5_isMeasure (xs : Nat → Int) (e : Nat) (a0 : UInt32) (s : pS) (q : Int × pS) (h : f_X5_isMeasure a0 s = some q) : pCall pm_tx 1001 xs pm_P (e + 1) 94 [vF a0] (pW s) (.inl (some (vI q.1))) (pW q.2) := by
  refine pCall_of mX5_isMeasure rfl rfl (fun X hX => ?_)
  show X [some (vF a0)] [] 0 (pW s)
  replace hX : pm_clo 1001 xs (pCall pm_tx 1001 xs pm_P e) e mX5_isMeasure (eI q) X := hX
  unfold f_X5_isMeasure at h
  refine r_fload_n hX (p2 := 1) rfl rfl rfl ?_
  refine r_fconst0 hX (p2 := 2) rfl rfl ?_
  refine r_fcmp hX (p2 := 3) rfl rfl ?_
  refine r_if hX (p2 := 17) (p3 := 6) (P := (pm_fc .l a0 FP.fconst0) < 0) rfl (by decide) rfl rfl (fun p2 => ?_) (fun p2 => ?_)
  · have h := it_pos h p2
    exact t_X5_isMeasure_17 xs e q X hX (some (vF a0)) s h
  · have h := it_neg h p2
    refine r_fload_n hX (p2 := 7) rfl rfl rfl ?_
    refine r_ldcF hX (p2 := 9) (x := UInt32.ofNat 1166016512) rfl rfl rfl rfl ?_
    refine r_fcmp hX (p2 := 10) rfl rfl ?_
    refine r_if hX (p2 := 17) (p3 := 13) (P := 0 < (pm_fc .g a0 (UInt32.ofNat 1166016512))) rfl (by decide) rfl rfl (fun p1 => ?_) (fun p1 => ?_)
    · have h := it_pos h p1
      exact t_X5_isMeasure_17 xs e q X hX (some (vF a0)) s h
    · have h := it_neg h p1
      refine r_iconst hX (p2 := 14) rfl rfl rfl ?_
      refine r_goto hX (p2 := 18) rfl (by decide) ?_
      exact t_X5_isMeasure_18 xs e q X hX 1 (some (vF a0)) s h
noncomputable def f_X5_withoutSign_11 (y0 : UInt32) (s : pS) : Option (UInt32 × pS) := some (y0, s)
set_option maxRecDepth 10000 in
theorem t_X5_withoutSign_11 (xs : Nat → Int) (e : Nat) (q : UInt32 × pS) (X : List (Option pV) → List pV → Nat → pH → Prop) (hX : pm_clo 1001 xs (pCall pm_tx 1001 xs pm_P e) e mX5_withoutSign (eF q) X) : ∀  (y0 : UInt32) (d0 : Option pV) (s : pS), f_X5_withoutSign_11 y0 s = some q → X [d0] [vF y0] 11 (pW s) := by
  intro y0 d0 s h
  unfold f_X5_withoutSign_11 at h
  exact r_freturn hX rfl rfl (eF_ok h)
noncomputable def f_X5_withoutSign (a0 : UInt32) (s : pS) : Option (UInt32 × pS) := (if (pm_fc .l a0 FP.fconst0) ≠ 0 then f_X5_withoutSign_11 a0 s else f_X5_withoutSign_11 FP.fconst0 s)
set_option maxRecDepth 10000 in
theorem c_X5_withoutSign (xs : Nat → Int) (e : Nat) (a0 : UInt32) (s : pS) (q : UInt32 × pS) (h : f_X5_withoutSign a0 s = some q) : pCall pm_tx 1001 xs pm_P (e + 1) 95 [vF a0] (pW s) (.inl (some (vF q.1))) (pW q.2) := by
  refine pCall_of mX5_withoutSign rfl rfl (fun X hX => ?_)
  show X [some (vF a0)] [] 0 (pW s)
  replace hX : pm_clo 1001 xs (pCall pm_tx 1001 xs pm_P e) e mX5_withoutSign (eF q) X := hX
  unfold f_X5_withoutSign at h
  refine r_fload_n hX (p2 := 1) rfl rfl rfl ?_
  refine r_fconst0 hX (p2 := 2) rfl rfl ?_
  refine r_fcmp hX (p2 := 3) rfl rfl ?_
  refine r_if hX (p2 := 10) (p3 := 6) (P := (pm_fc .l a0 FP.fconst0) ≠ 0) rfl (by decide) rfl rfl (fun p1 => ?_) (fun p1 => ?_)
  · have h := it_pos h p1
    refine r_fload_n hX (p2 := 11) rfl rfl rfl ?_
    exact t_X5_withoutSign_11 xs e q X hX a0 (some (vF a0)) s h
  · have h := it_neg h p1
    refine r_fconst0 hX (p2 := 7) rfl rfl ?_
    refine r_goto hX (p2 := 11) rfl (by decide) ?_
    exact t_X5_withoutSign_11 xs e q X hX FP.fconst0 (some (vF a0)) s h
noncomputable def f_X5_need_15 (s : pS) : Option (Int × pS) := some (0, s)
set_option maxRecDepth 10000 in
theorem t_X5_need_15 (xs : Nat → Int) (e : Nat) (q : Int × pS) (X : List (Option pV) → List pV → Nat → pH → Prop) (hX : pm_clo 1001 xs (pCall pm_tx 1001 xs pm_P (e + 1)) (e + 1) mX5_need (eI q) X) : ∀  (d0 : Option pV) (d1 : Option pV) (d2 : Option pV) (d3 : Option pV) (d4 : Option pV) (s : pS), f_X5_need_15 s = some q → X [d0, d1, d2, d3, d4] [] 15 (pW s) := by
  intro d0 d1 d2 d3 d4 s h
  unfold f_X5_need_15 at h
  refine r_iconst hX (p2 := 16) rfl rfl rfl ?_
  exact r_iretZ hX rfl rfl (Or.inl rfl) (eI_ok h)
noncomputable def f_X5_need_39 (s : pS) : Option (Int × pS) := some (0, s)
set_option maxRecDepth 10000 in
theorem t_X5_need_39 (xs : Nat → Int) (e : Nat) (q : Int × pS) (X : List (Option pV) → List pV → Nat → pH → Prop) (hX : pm_clo 1001 xs (pCall pm_tx 1001 xs pm_P (e + 1)) (e + 1) mX5_need (eI q) X) : ∀  (d0 : Option pV) (d1 : Option pV) (d2 : Option pV) (d3 : Option pV) (d4 : Option pV) (s : pS), f_X5_need_39 s = some q → X [d0, d1, d2, d3, d4] [] 39 (pW s) := by
  intro d0 d1 d2 d3 d4 s h
  unfold f_X5_need_39 at h
  refine r_iconst hX (p2 := 40) rfl rfl rfl ?_
  exact r_iretZ hX rfl rfl (Or.inl rfl) (eI_ok h)
noncomputable def f_X5_need (a1 : Int) (a2 : Int) (a3 : UInt32) (a4 : UInt32) (s : pS) : Option (Int × pS) := (f_X5_isItem a1 s).bind (fun q1 => (if q1.1 = 0 then f_X5_need_15 q1.2 else (f_X5_isAxis a2 q1.2).bind (fun q2 => (if q2.1 ≠ 0 then (f_X5_isMeasure a3 q2.2).bind (fun q3 => (if q3.1 = 0 then f_X5_need_39 q3.2 else (f_X5_isMeasure a4 q3.2).bind (fun q4 => (if q4.1 = 0 then f_X5_need_39 q4.2 else (if (pm_fc .l a3 a4) ≤ 0 then ck (0 ≤ a2 ∧ a2 < 2) ((f_X5_withoutSign a3 q4.2).bind (fun q6 => ck (0 ≤ a1 ∧ a1 < 10) (bs (wB q6.2 6 a2.toNat (pm_up (sB q6.2 6 a2.toNat) a1.toNat q6.1)) (fun s8 => ck (0 ≤ a2 ∧ a2 < 2) ((f_X5_withoutSign a4 s8).bind (fun q10 => ck (0 ≤ a1 ∧ a1 < 10) (bs (wB q10.2 7 a2.toNat (pm_up (sB q10.2 7 a2.toNat) a1.toNat q10.1)) (fun s12 => some (1, s12))))))))) else f_X5_need_39 q4.2))))) else f_X5_need_15 q2.2))))
set_option maxRecDepth 10000 in
theorem c_X5_need (xs : Nat → Int) (e : Nat) (a1 : Int) (a2 : Int) (a3 : UInt32) (a4 : UInt32) (s : pS) (q : Int × pS) (h : f_X5_need a1 a2 a3 a4 s = some q) : pCall pm_tx 1001 xs pm_P (e + 1 + 1) 78 [vR (cc 5 0), vI a1, vI a2, vF a3, vF a4] (pW s) (.inl (some (vI q.1))) (pW q.2) := by
  refine pCall_of mX5_need rfl rfl (fun X hX => ?_)
  show X [some (vR (cc 5 0)), some (vI a1), some (vI a2), some (vF a3), some (vF a4)] [] 0 (pW s)
  replace hX : pm_clo 1001 xs (pCall pm_tx 1001 xs pm_P (e + 1)) (e + 1) mX5_need (eI q) X := hX
  unfold f_X5_need at h
  refine r_aload_n hX (p2 := 1) rfl rfl rfl ⟨_, Or.inl rfl⟩ ?_
  refine r_iload_n hX (p2 := 2) rfl rfl rfl ?_
  obtain ⟨q1, hq1, h⟩ := bd_some h
  refine r_callv hX (p2 := 5) (v := some (vI q1.1)) (as := [vI a1]) (r := []) (st2 := [vI q1.1]) rfl rfl rfl rfl rfl (hc5 0 (by decide)) rfl rfl (c_X5_isItem xs e a1 s q1 hq1) ?_
  refine r_if hX (p2 := 15) (p3 := 8) (P := q1.1 = 0) rfl (by decide) rfl rfl (fun p17 => ?_) (fun p17 => ?_)
  · have h := it_pos h p17
    exact t_X5_need_15 xs e q X hX (some (vR (cc 5 0))) (some (vI a1)) (some (vI a2)) (some (vF a3)) (some (vF a4)) q1.2 h
  · have h := it_neg h p17
    refine r_iload_n hX (p2 := 9) rfl rfl rfl ?_
    obtain ⟨q2, hq2, h⟩ := bd_some h
    refine r_calls0 hX (p2 := 12) (v := some (vI q2.1)) (as := [vI a2]) (r := []) (st2 := [vI q2.1]) rfl rfl rfl rfl rfl rfl (c_X5_isAxis xs e a2 q1.2 q2 hq2) ?_
    refine r_if hX (p2 := 17) (p3 := 15) (P := q2.1 ≠ 0) rfl (by decide) rfl rfl (fun p16 => ?_) (fun p16 => ?_)
    · have h := it_pos h p16
      refine r_fload_n hX (p2 := 18) rfl rfl rfl ?_
      obtain ⟨q3, hq3, h⟩ := bd_some h
      refine r_calls0 hX (p2 := 21) (v := some (vI q3.1)) (as := [vF a3]) (r := []) (st2 := [vI q3.1]) rfl rfl rfl rfl rfl rfl (c_X5_isMeasure xs e a3 q2.2 q3 hq3) ?_
      refine r_if hX (p2 := 39) (p3 := 24) (P := q3.1 = 0) rfl (by decide) rfl rfl (fun p15 => ?_) (fun p15 => ?_)
      · have h := it_pos h p15
        exact t_X5_need_39 xs e q X hX (some (vR (cc 5 0))) (some (vI a1)) (some (vI a2)) (some (vF a3)) (some (vF a4)) q3.2 h
      · have h := it_neg h p15
        refine r_fload hX (p2 := 26) rfl rfl rfl ?_
        obtain ⟨q4, hq4, h⟩ := bd_some h
        refine r_calls0 hX (p2 := 29) (v := some (vI q4.1)) (as := [vF a4]) (r := []) (st2 := [vI q4.1]) rfl rfl rfl rfl rfl rfl (c_X5_isMeasure xs e a4 q3.2 q4 hq4) ?_
        refine r_if hX (p2 := 39) (p3 := 32) (P := q4.1 = 0) rfl (by decide) rfl rfl (fun p14 => ?_) (fun p14 => ?_)
        · have h := it_pos h p14
          exact t_X5_need_39 xs e q X hX (some (vR (cc 5 0))) (some (vI a1)) (some (vI a2)) (some (vF a3)) (some (vF a4)) q4.2 h
        · have h := it_neg h p14
          refine r_fload_n hX (p2 := 33) rfl rfl rfl ?_
          refine r_fload hX (p2 := 35) rfl rfl rfl ?_
          refine r_fcmp hX (p2 := 36) rfl rfl ?_
          refine r_if hX (p2 := 41) (p3 := 39) (P := (pm_fc .l a3 a4) ≤ 0) rfl (by decide) rfl rfl (fun p13 => ?_) (fun p13 => ?_)
          · have h := it_pos h p13
            refine r_aload_n hX (p2 := 42) rfl rfl rfl ⟨_, Or.inl rfl⟩ ?_
            refine r_gf hX (p2 := 45) (v := vR (cr 501)) rfl rfl (hc5 0 (by decide)) rfl rfl rfl ?_
            refine r_iload_n hX (p2 := 46) rfl rfl rfl ?_
            obtain ⟨c5, h⟩ := ck_some h
            refine r_aaload hX (p2 := 47) rfl rfl hr501 rfl c5 (y := cc 0 a2.toNat) rfl ?_
            refine r_gf hX (p2 := 50) (v := vR (ca 6 a2.toNat)) rfl rfl (hc0 a2.toNat (tn_lt c5)) rfl rfl rfl ?_
            refine r_iload_n hX (p2 := 51) rfl rfl rfl ?_
            refine r_fload_n hX (p2 := 52) rfl rfl rfl ?_
            obtain ⟨q6, hq6, h⟩ := bd_some h
            refine r_calls0 hX (p2 := 55) (v := some (vF q6.1)) (as := [vF a3]) (r := [vI a1, vR (ca 6 a2.toNat)]) (st2 := [vF q6.1, vI a1, vR (ca 6 a2.toNat)]) rfl rfl rfl rfl rfl rfl (c_X5_withoutSign xs e a3 q4.2 q6 hq6) ?_
            obtain ⟨c7, h⟩ := ck_some h
            obtain ⟨s8, hs8, h⟩ := bs_some h
            refine r_fastore hX (p2 := 56) (j := a1.toNat) rfl rfl (ha6 a2.toNat (tn_lt c5)) rfl rfl c7 rfl hs8 ?_
            refine r_aload_n hX (p2 := 57) rfl rfl rfl ⟨_, Or.inl rfl⟩ ?_
            refine r_gf hX (p2 := 60) (v := vR (cr 501)) rfl rfl (hc5 0 (by decide)) rfl rfl rfl ?_
            refine r_iload_n hX (p2 := 61) rfl rfl rfl ?_
            obtain ⟨c9, h⟩ := ck_some h
            refine r_aaload hX (p2 := 62) rfl rfl hr501 rfl c9 (y := cc 0 a2.toNat) rfl ?_
            refine r_gf hX (p2 := 65) (v := vR (ca 7 a2.toNat)) rfl rfl (hc0 a2.toNat (tn_lt c9)) rfl rfl rfl ?_
            refine r_iload_n hX (p2 := 66) rfl rfl rfl ?_
            refine r_fload hX (p2 := 68) rfl rfl rfl ?_
            obtain ⟨q10, hq10, h⟩ := bd_some h
            refine r_calls0 hX (p2 := 71) (v := some (vF q10.1)) (as := [vF a4]) (r := [vI a1, vR (ca 7 a2.toNat)]) (st2 := [vF q10.1, vI a1, vR (ca 7 a2.toNat)]) rfl rfl rfl rfl rfl rfl (c_X5_withoutSign xs e a4 s8 q10 hq10) ?_
            obtain ⟨c11, h⟩ := ck_some h
            obtain ⟨s12, hs12, h⟩ := bs_some h
            refine r_fastore hX (p2 := 72) (j := a1.toNat) rfl rfl (ha7 a2.toNat (tn_lt c9)) rfl rfl c11 rfl hs12 ?_
            refine r_iconst hX (p2 := 73) rfl rfl rfl ?_
            exact r_iretZ hX rfl rfl (Or.inr rfl) (eI_ok h)
          · have h := it_neg h p13
            exact t_X5_need_39 xs e q X hX (some (vR (cc 5 0))) (some (vI a1)) (some (vI a2)) (some (vF a3)) (some (vF a4)) q4.2 h
    · have h := it_neg h p16
      exact t_X5_need_15 xs e q X hX (some (vR (cc 5 0))) (some (vI a1)) (some (vI a2)) (some (vF a3)) (some (vF a4)) q2.2 h
noncomputable def f_X6_isSize_18 (y0 : Int) (s : pS) : Option (Int × pS) := ck (y0 = 0 ∨ y0 = 1) (some (y0, s))
set_option maxRecDepth 10000 in
theorem t_X6_isSize_18 (xs : Nat → Int) (e : Nat) (q : Int × pS) (X : List (Option pV) → List pV → Nat → pH → Prop) (hX : pm_clo 1001 xs (pCall pm_tx 1001 xs pm_P e) e mX6_isSize (eI q) X) : ∀  (y0 : Int) (d0 : Option pV) (s : pS), f_X6_isSize_18 y0 s = some q → X [d0] [vI y0] 18 (pW s) := by
  intro y0 d0 s h
  unfold f_X6_isSize_18 at h
  obtain ⟨c1, h⟩ := ck_some h
  exact r_iretZ hX rfl rfl c1 (eI_ok h)
noncomputable def f_X6_isSize_17 (s : pS) : Option (Int × pS) := f_X6_isSize_18 0 s
set_option maxRecDepth 10000 in
theorem t_X6_isSize_17 (xs : Nat → Int) (e : Nat) (q : Int × pS) (X : List (Option pV) → List pV → Nat → pH → Prop) (hX : pm_clo 1001 xs (pCall pm_tx 1001 xs pm_P e) e mX6_isSize (eI q) X) : ∀  (d0 : Option pV) (s : pS), f_X6_isSize_17 s = some q → X [d0] [] 17 (pW s) := by
  intro d0 s h
  unfold f_X6_isSize_17 at h
  refine r_iconst hX (p2 := 18) rfl rfl rfl ?_
  exact t_X6_isSize_18 xs e q X hX 0 d0 s h
noncomputable def f_X6_isSize (a0 : UInt32) (s : pS) : Option (Int × pS) := (if (pm_fc .l a0 FP.fconst0) < 0 then f_X6_isSize_17 s else (if 0 < (pm_fc .g a0 (UInt32.ofNat 1166016512)) then f_X6_isSize_17 s else f_X6_isSize_18 1 s))
set_option maxRecDepth 10000 in
theorem c_X6_isSize (xs : Nat → Int) (e : Nat) (a0 : UInt32) (s : pS) (q : Int × pS) (h : f_X6_isSize a0 s = some q) : pCall pm_tx 1001 xs pm_P (e + 1) 125 [vF a0] (pW s) (.inl (some (vI q.1))) (pW q.2) := by
  refine pCall_of mX6_isSize rfl rfl (fun X hX => ?_)
  show X [some (vF a0)] [] 0 (pW s)
  replace hX : pm_clo 1001 xs (pCall pm_tx 1001 xs pm_P e) e mX6_isSize (eI q) X := hX
  unfold f_X6_isSize at h
  refine r_fload_n hX (p2 := 1) rfl rfl rfl ?_
  refine r_fconst0 hX (p2 := 2) rfl rfl ?_
  refine r_fcmp hX (p2 := 3) rfl rfl ?_
  refine r_if hX (p2 := 17) (p3 := 6) (P := (pm_fc .l a0 FP.fconst0) < 0) rfl (by decide) rfl rfl (fun p2 => ?_) (fun p2 => ?_)
  · have h := it_pos h p2
    exact t_X6_isSize_17 xs e q X hX (some (vF a0)) s h
  · have h := it_neg h p2
    refine r_fload_n hX (p2 := 7) rfl rfl rfl ?_
    refine r_ldcF hX (p2 := 9) (x := UInt32.ofNat 1166016512) rfl rfl rfl rfl ?_
    refine r_fcmp hX (p2 := 10) rfl rfl ?_
    refine r_if hX (p2 := 17) (p3 := 13) (P := 0 < (pm_fc .g a0 (UInt32.ofNat 1166016512))) rfl (by decide) rfl rfl (fun p1 => ?_) (fun p1 => ?_)
    · have h := it_pos h p1
      exact t_X6_isSize_17 xs e q X hX (some (vF a0)) s h
    · have h := it_neg h p1
      refine r_iconst hX (p2 := 14) rfl rfl rfl ?_
      refine r_goto hX (p2 := 18) rfl (by decide) ?_
      exact t_X6_isSize_18 xs e q X hX 1 (some (vF a0)) s h
noncomputable def f_X6_need_48 (s : pS) : Option (Int × pS) := some (0, s)
set_option maxRecDepth 10000 in
theorem t_X6_need_48 (xs : Nat → Int) (e : Nat) (q : Int × pS) (X : List (Option pV) → List pV → Nat → pH → Prop) (hX : pm_clo 1001 xs (pCall pm_tx 1001 xs pm_P (e + 1)) (e + 1) mX6_need (eI q) X) : ∀  (d0 : Option pV) (d1 : Option pV) (d2 : Option pV) (d3 : Option pV) (d4 : Option pV) (s : pS), f_X6_need_48 s = some q → X [d0, d1, d2, d3, d4] [] 48 (pW s) := by
  intro d0 d1 d2 d3 d4 s h
  unfold f_X6_need_48 at h
  refine r_iconst hX (p2 := 49) rfl rfl rfl ?_
  exact r_iretZ hX rfl rfl (Or.inl rfl) (eI_ok h)
noncomputable def f_X6_need_93 (y1 : Int) (y2 : UInt32) (s : pS) : Option (Int × pS) := ck (0 ≤ y1 ∧ y1 < 20) (bs (wB s 623 0 (pm_up (sB s 623 0) y1.toNat y2)) (fun s2 => some (1, s2)))
set_option maxRecDepth 10000 in
theorem t_X6_need_93 (xs : Nat → Int) (e : Nat) (q : Int × pS) (X : List (Option pV) → List pV → Nat → pH → Prop) (hX : pm_clo 1001 xs (pCall pm_tx 1001 xs pm_P (e + 1)) (e + 1) mX6_need (eI q) X) : ∀  (y1 : Int) (y2 : UInt32) (d0 : Option pV) (d1 : Option pV) (d2 : Option pV) (d3 : Option pV) (d4 : Option pV) (s : pS), f_X6_need_93 y1 y2 s = some q → X [d0, d1, d2, d3, d4] [vF y2, vI y1, vR (ca 623 0)] 93 (pW s) := by
  intro y1 y2 d0 d1 d2 d3 d4 s h
  unfold f_X6_need_93 at h
  obtain ⟨c1, h⟩ := ck_some h
  obtain ⟨s2, hs2, h⟩ := bs_some h
  refine r_fastore hX (p2 := 94) (j := y1.toNat) rfl rfl (ha623 0 (by decide)) rfl rfl c1 rfl hs2 ?_
  refine r_iconst hX (p2 := 95) rfl rfl rfl ?_
  exact r_iretZ hX rfl rfl (Or.inr rfl) (eI_ok h)
noncomputable def f_X6_need_70 (x1 : Int) (x2 : Int) (x4 : UInt32) (y1 : Int) (y2 : UInt32) (s : pS) : Option (Int × pS) := ck (0 ≤ y1 ∧ y1 < 20) (bs (wB s 622 0 (pm_up (sB s 622 0) y1.toNat y2)) (fun s2 => ck (inR (2 * x1)) (ck (inR ((2 * x1) + x2)) ((if (pm_fc .l x4 FP.fconst0) ≠ 0 then f_X6_need_93 ((2 * x1) + x2) x4 s2 else f_X6_need_93 ((2 * x1) + x2) FP.fconst0 s2)))))
set_option maxRecDepth 10000 in
theorem t_X6_need_70 (xs : Nat → Int) (e : Nat) (q : Int × pS) (X : List (Option pV) → List pV → Nat → pH → Prop) (hX : pm_clo 1001 xs (pCall pm_tx 1001 xs pm_P (e + 1)) (e + 1) mX6_need (eI q) X) : ∀  (x1 : Int) (x2 : Int) (x4 : UInt32) (y1 : Int) (y2 : UInt32) (d3 : Option pV) (s : pS), f_X6_need_70 x1 x2 x4 y1 y2 s = some q → X [some (vR (cc 6 0)), some (vI x1), some (vI x2), d3, some (vF x4)] [vF y2, vI y1, vR (ca 622 0)] 70 (pW s) := by
  intro x1 x2 x4 y1 y2 d3 s h
  unfold f_X6_need_70 at h
  obtain ⟨c1, h⟩ := ck_some h
  obtain ⟨s2, hs2, h⟩ := bs_some h
  refine r_fastore hX (p2 := 71) (j := y1.toNat) rfl rfl (ha622 0 (by decide)) rfl rfl c1 rfl hs2 ?_
  refine r_aload_n hX (p2 := 72) rfl rfl rfl ⟨_, Or.inl rfl⟩ ?_
  refine r_gf hX (p2 := 75) (v := vR (ca 623 0)) rfl rfl (hc6 0 (by decide)) rfl rfl rfl ?_
  refine r_iconst hX (p2 := 76) rfl rfl rfl ?_
  refine r_iload_n hX (p2 := 77) rfl rfl rfl ?_
  obtain ⟨c3, h⟩ := ck_some h
  refine r_imul hX (p2 := 78) rfl rfl c3 ?_
  refine r_iload_n hX (p2 := 79) rfl rfl rfl ?_
  obtain ⟨c4, h⟩ := ck_some h
  refine r_iadd hX (p2 := 80) rfl rfl c4 ?_
  refine r_fload hX (p2 := 82) rfl rfl rfl ?_
  refine r_fconst0 hX (p2 := 83) rfl rfl ?_
  refine r_fcmp hX (p2 := 84) rfl rfl ?_
  refine r_if hX (p2 := 91) (p3 := 87) (P := (pm_fc .l x4 FP.fconst0) ≠ 0) rfl (by decide) rfl rfl (fun p5 => ?_) (fun p5 => ?_)
  · have h := it_pos h p5
    refine r_fload hX (p2 := 93) rfl rfl rfl ?_
    exact t_X6_need_93 xs e q X hX ((2 * x1) + x2) x4 (some (vR (cc 6 0))) (some (vI x1)) (some (vI x2)) d3 (some (vF x4)) s2 h
  · have h := it_neg h p5
    refine r_fconst0 hX (p2 := 88) rfl rfl ?_
    refine r_goto hX (p2 := 93) rfl (by decide) ?_
    exact t_X6_need_93 xs e q X hX ((2 * x1) + x2) FP.fconst0 (some (vR (cc 6 0))) (some (vI x1)) (some (vI x2)) d3 (some (vF x4)) s2 h
noncomputable def f_X6_need (a1 : Int) (a2 : Int) (a3 : UInt32) (a4 : UInt32) (s : pS) : Option (Int × pS) := bs (wI s 600 0 0) (fun s1 => ck (inR ((sI s1 619 0) - 1)) ((f_X6_outside a1 0 ((sI s1 619 0) - 1) s1).bind (fun q3 => (if q3.1 ≠ 0 then f_X6_need_48 q3.2 else (f_X6_isAxis a2 q3.2).bind (fun q4 => (if q4.1 = 0 then f_X6_need_48 q4.2 else (f_X6_isSize a3 q4.2).bind (fun q5 => (if q5.1 = 0 then f_X6_need_48 q5.2 else (f_X6_isSize a4 q5.2).bind (fun q6 => (if q6.1 = 0 then f_X6_need_48 q6.2 else (if (pm_fc .l a3 a4) ≤ 0 then ck (inR (2 * a1)) (ck (inR ((2 * a1) + a2)) ((if (pm_fc .l a3 FP.fconst0) ≠ 0 then f_X6_need_70 a1 a2 a4 ((2 * a1) + a2) a3 q6.2 else f_X6_need_70 a1 a2 a4 ((2 * a1) + a2) FP.fconst0 q6.2))) else f_X6_need_48 q6.2)))))))))))
set_option maxRecDepth 10000 in
theorem c_X6_need (xs : Nat → Int) (e : Nat) (a1 : Int) (a2 : Int) (a3 : UInt32) (a4 : UInt32) (s : pS) (q : Int × pS) (h : f_X6_need a1 a2 a3 a4 s = some q) : pCall pm_tx 1001 xs pm_P (e + 1 + 1) 126 [vR (cc 6 0), vI a1, vI a2, vF a3, vF a4] (pW s) (.inl (some (vI q.1))) (pW q.2) := by
  refine pCall_of mX6_need rfl rfl (fun X hX => ?_)
  show X [some (vR (cc 6 0)), some (vI a1), some (vI a2), some (vF a3), some (vF a4)] [] 0 (pW s)
  replace hX : pm_clo 1001 xs (pCall pm_tx 1001 xs pm_P (e + 1)) (e + 1) mX6_need (eI q) X := hX
  unfold f_X6_need at h
  refine r_aload_n hX (p2 := 1) rfl rfl rfl ⟨_, Or.inl rfl⟩ ?_
  refine r_iconst hX (p2 := 2) rfl rfl rfl ?_
  obtain ⟨s1, hs1, h⟩ := bs_some h
  refine r_pfI hX (p2 := 5) rfl rfl (hc6 0 (by decide)) rfl rfl rfl rfl rfl rfl hs1 ?_
  refine r_iload_n hX (p2 := 6) rfl rfl rfl ?_
  refine r_iconst hX (p2 := 7) rfl rfl rfl ?_
  refine r_aload_n hX (p2 := 8) rfl rfl rfl ⟨_, Or.inl rfl⟩ ?_
  refine r_gf hX (p2 := 11) (v := vI (sI s1 619 0)) rfl rfl (hc6 0 (by decide)) rfl rfl rfl ?_
  refine r_iconst hX (p2 := 12) rfl rfl rfl ?_
  obtain ⟨c2, h⟩ := ck_some h
  refine r_isub hX (p2 := 13) rfl rfl c2 ?_
  obtain ⟨q3, hq3, h⟩ := bd_some h
  refine r_calls0 hX (p2 := 16) (v := some (vI q3.1)) (as := [vI a1, vI 0, vI ((sI s1 619 0) - 1)]) (r := []) (st2 := [vI q3.1]) rfl rfl rfl rfl rfl rfl (c_X6_outside xs e a1 0 ((sI s1 619 0) - 1) s1 q3 hq3) ?_
  refine r_if hX (p2 := 48) (p3 := 19) (P := q3.1 ≠ 0) rfl (by decide) rfl rfl (fun p14 => ?_) (fun p14 => ?_)
  · have h := it_pos h p14
    exact t_X6_need_48 xs e q X hX (some (vR (cc 6 0))) (some (vI a1)) (some (vI a2)) (some (vF a3)) (some (vF a4)) q3.2 h
  · have h := it_neg h p14
    refine r_iload_n hX (p2 := 20) rfl rfl rfl ?_
    obtain ⟨q4, hq4, h⟩ := bd_some h
    refine r_calls0 hX (p2 := 23) (v := some (vI q4.1)) (as := [vI a2]) (r := []) (st2 := [vI q4.1]) rfl rfl rfl rfl rfl rfl (c_X6_isAxis xs e a2 q3.2 q4 hq4) ?_
    refine r_if hX (p2 := 48) (p3 := 26) (P := q4.1 = 0) rfl (by decide) rfl rfl (fun p13 => ?_) (fun p13 => ?_)
    · have h := it_pos h p13
      exact t_X6_need_48 xs e q X hX (some (vR (cc 6 0))) (some (vI a1)) (some (vI a2)) (some (vF a3)) (some (vF a4)) q4.2 h
    · have h := it_neg h p13
      refine r_fload_n hX (p2 := 27) rfl rfl rfl ?_
      obtain ⟨q5, hq5, h⟩ := bd_some h
      refine r_calls0 hX (p2 := 30) (v := some (vI q5.1)) (as := [vF a3]) (r := []) (st2 := [vI q5.1]) rfl rfl rfl rfl rfl rfl (c_X6_isSize xs e a3 q4.2 q5 hq5) ?_
      refine r_if hX (p2 := 48) (p3 := 33) (P := q5.1 = 0) rfl (by decide) rfl rfl (fun p12 => ?_) (fun p12 => ?_)
      · have h := it_pos h p12
        exact t_X6_need_48 xs e q X hX (some (vR (cc 6 0))) (some (vI a1)) (some (vI a2)) (some (vF a3)) (some (vF a4)) q5.2 h
      · have h := it_neg h p12
        refine r_fload hX (p2 := 35) rfl rfl rfl ?_
        obtain ⟨q6, hq6, h⟩ := bd_some h
        refine r_calls0 hX (p2 := 38) (v := some (vI q6.1)) (as := [vF a4]) (r := []) (st2 := [vI q6.1]) rfl rfl rfl rfl rfl rfl (c_X6_isSize xs e a4 q5.2 q6 hq6) ?_
        refine r_if hX (p2 := 48) (p3 := 41) (P := q6.1 = 0) rfl (by decide) rfl rfl (fun p11 => ?_) (fun p11 => ?_)
        · have h := it_pos h p11
          exact t_X6_need_48 xs e q X hX (some (vR (cc 6 0))) (some (vI a1)) (some (vI a2)) (some (vF a3)) (some (vF a4)) q6.2 h
        · have h := it_neg h p11
          refine r_fload_n hX (p2 := 42) rfl rfl rfl ?_
          refine r_fload hX (p2 := 44) rfl rfl rfl ?_
          refine r_fcmp hX (p2 := 45) rfl rfl ?_
          refine r_if hX (p2 := 50) (p3 := 48) (P := (pm_fc .l a3 a4) ≤ 0) rfl (by decide) rfl rfl (fun p10 => ?_) (fun p10 => ?_)
          · have h := it_pos h p10
            refine r_aload_n hX (p2 := 51) rfl rfl rfl ⟨_, Or.inl rfl⟩ ?_
            refine r_gf hX (p2 := 54) (v := vR (ca 622 0)) rfl rfl (hc6 0 (by decide)) rfl rfl rfl ?_
            refine r_iconst hX (p2 := 55) rfl rfl rfl ?_
            refine r_iload_n hX (p2 := 56) rfl rfl rfl ?_
            obtain ⟨c7, h⟩ := ck_some h
            refine r_imul hX (p2 := 57) rfl rfl c7 ?_
            refine r_iload_n hX (p2 := 58) rfl rfl rfl ?_
            obtain ⟨c8, h⟩ := ck_some h
            refine r_iadd hX (p2 := 59) rfl rfl c8 ?_
            refine r_fload_n hX (p2 := 60) rfl rfl rfl ?_
            refine r_fconst0 hX (p2 := 61) rfl rfl ?_
            refine r_fcmp hX (p2 := 62) rfl rfl ?_
            refine r_if hX (p2 := 69) (p3 := 65) (P := (pm_fc .l a3 FP.fconst0) ≠ 0) rfl (by decide) rfl rfl (fun p9 => ?_) (fun p9 => ?_)
            · have h := it_pos h p9
              refine r_fload_n hX (p2 := 70) rfl rfl rfl ?_
              exact t_X6_need_70 xs e q X hX a1 a2 a4 ((2 * a1) + a2) a3 (some (vF a3)) q6.2 h
            · have h := it_neg h p9
              refine r_fconst0 hX (p2 := 66) rfl rfl ?_
              refine r_goto hX (p2 := 70) rfl (by decide) ?_
              exact t_X6_need_70 xs e q X hX a1 a2 a4 ((2 * a1) + a2) FP.fconst0 (some (vF a3)) q6.2 h
          · have h := it_neg h p10
            exact t_X6_need_48 xs e q X hX (some (vR (cc 6 0))) (some (vI a1)) (some (vI a2)) (some (vF a3)) (some (vF a4)) q6.2 h
noncomputable def f_X5_room_21 (s : pS) : Option (Int × pS) := some (0, s)
set_option maxRecDepth 10000 in
theorem t_X5_room_21 (xs : Nat → Int) (e : Nat) (q : Int × pS) (X : List (Option pV) → List pV → Nat → pH → Prop) (hX : pm_clo 1001 xs (pCall pm_tx 1001 xs pm_P (e + 1)) (e + 1) mX5_room (eI q) X) : ∀  (d0 : Option pV) (d1 : Option pV) (d2 : Option pV) (d3 : Option pV) (s : pS), f_X5_room_21 s = some q → X [d0, d1, d2, d3] [] 21 (pW s) := by
  intro d0 d1 d2 d3 s h
  unfold f_X5_room_21 at h
  refine r_iconst hX (p2 := 22) rfl rfl rfl ?_
  exact r_iretZ hX rfl rfl (Or.inl rfl) (eI_ok h)
noncomputable def f_X5_room (a1 : Int) (a2 : UInt32) (a3 : UInt32) (s : pS) : Option (Int × pS) := (f_X5_isAxis a1 s).bind (fun q1 => (if q1.1 = 0 then f_X5_room_21 q1.2 else (f_X5_isMeasure a2 q1.2).bind (fun q2 => (if q2.1 = 0 then f_X5_room_21 q2.2 else (f_X5_isMeasure a3 q2.2).bind (fun q3 => (if q3.1 ≠ 0 then ck (0 ≤ a1 ∧ a1 < 2) ((f_X5_withoutSign a2 q3.2).bind (fun q5 => bs (wF q5.2 1 a1.toNat q5.1) (fun s6 => ck (0 ≤ a1 ∧ a1 < 2) ((f_X5_withoutSign a3 s6).bind (fun q8 => bs (wF q8.2 2 a1.toNat q8.1) (fun s9 => some (1, s9))))))) else f_X5_room_21 q3.2))))))
set_option maxRecDepth 10000 in
theorem c_X5_room (xs : Nat → Int) (e : Nat) (a1 : Int) (a2 : UInt32) (a3 : UInt32) (s : pS) (q : Int × pS) (h : f_X5_room a1 a2 a3 s = some q) : pCall pm_tx 1001 xs pm_P (e + 1 + 1) 80 [vR (cc 5 0), vI a1, vF a2, vF a3] (pW s) (.inl (some (vI q.1))) (pW q.2) := by
  refine pCall_of mX5_room rfl rfl (fun X hX => ?_)
  show X [some (vR (cc 5 0)), some (vI a1), some (vF a2), some (vF a3)] [] 0 (pW s)
  replace hX : pm_clo 1001 xs (pCall pm_tx 1001 xs pm_P (e + 1)) (e + 1) mX5_room (eI q) X := hX
  unfold f_X5_room at h
  refine r_iload_n hX (p2 := 1) rfl rfl rfl ?_
  obtain ⟨q1, hq1, h⟩ := bd_some h
  refine r_calls0 hX (p2 := 4) (v := some (vI q1.1)) (as := [vI a1]) (r := []) (st2 := [vI q1.1]) rfl rfl rfl rfl rfl rfl (c_X5_isAxis xs e a1 s q1 hq1) ?_
  refine r_if hX (p2 := 21) (p3 := 7) (P := q1.1 = 0) rfl (by decide) rfl rfl (fun p12 => ?_) (fun p12 => ?_)
  · have h := it_pos h p12
    exact t_X5_room_21 xs e q X hX (some (vR (cc 5 0))) (some (vI a1)) (some (vF a2)) (some (vF a3)) q1.2 h
  · have h := it_neg h p12
    refine r_fload_n hX (p2 := 8) rfl rfl rfl ?_
    obtain ⟨q2, hq2, h⟩ := bd_some h
    refine r_calls0 hX (p2 := 11) (v := some (vI q2.1)) (as := [vF a2]) (r := []) (st2 := [vI q2.1]) rfl rfl rfl rfl rfl rfl (c_X5_isMeasure xs e a2 q1.2 q2 hq2) ?_
    refine r_if hX (p2 := 21) (p3 := 14) (P := q2.1 = 0) rfl (by decide) rfl rfl (fun p11 => ?_) (fun p11 => ?_)
    · have h := it_pos h p11
      exact t_X5_room_21 xs e q X hX (some (vR (cc 5 0))) (some (vI a1)) (some (vF a2)) (some (vF a3)) q2.2 h
    · have h := it_neg h p11
      refine r_fload_n hX (p2 := 15) rfl rfl rfl ?_
      obtain ⟨q3, hq3, h⟩ := bd_some h
      refine r_calls0 hX (p2 := 18) (v := some (vI q3.1)) (as := [vF a3]) (r := []) (st2 := [vI q3.1]) rfl rfl rfl rfl rfl rfl (c_X5_isMeasure xs e a3 q2.2 q3 hq3) ?_
      refine r_if hX (p2 := 23) (p3 := 21) (P := q3.1 ≠ 0) rfl (by decide) rfl rfl (fun p10 => ?_) (fun p10 => ?_)
      · have h := it_pos h p10
        refine r_aload_n hX (p2 := 24) rfl rfl rfl ⟨_, Or.inl rfl⟩ ?_
        refine r_gf hX (p2 := 27) (v := vR (cr 501)) rfl rfl (hc5 0 (by decide)) rfl rfl rfl ?_
        refine r_iload_n hX (p2 := 28) rfl rfl rfl ?_
        obtain ⟨c4, h⟩ := ck_some h
        refine r_aaload hX (p2 := 29) rfl rfl hr501 rfl c4 (y := cc 0 a1.toNat) rfl ?_
        refine r_fload_n hX (p2 := 30) rfl rfl rfl ?_
        obtain ⟨q5, hq5, h⟩ := bd_some h
        refine r_calls0 hX (p2 := 33) (v := some (vF q5.1)) (as := [vF a2]) (r := [vR (cc 0 a1.toNat)]) (st2 := [vF q5.1, vR (cc 0 a1.toNat)]) rfl rfl rfl rfl rfl rfl (c_X5_withoutSign xs e a2 q3.2 q5 hq5) ?_
        obtain ⟨s6, hs6, h⟩ := bs_some h
        refine r_pfF hX (p2 := 36) rfl rfl (hc0 a1.toNat (tn_lt c4)) rfl rfl rfl rfl hs6 ?_
        refine r_aload_n hX (p2 := 37) rfl rfl rfl ⟨_, Or.inl rfl⟩ ?_
        refine r_gf hX (p2 := 40) (v := vR (cr 501)) rfl rfl (hc5 0 (by decide)) rfl rfl rfl ?_
        refine r_iload_n hX (p2 := 41) rfl rfl rfl ?_
        obtain ⟨c7, h⟩ := ck_some h
        refine r_aaload hX (p2 := 42) rfl rfl hr501 rfl c7 (y := cc 0 a1.toNat) rfl ?_
        refine r_fload_n hX (p2 := 43) rfl rfl rfl ?_
        obtain ⟨q8, hq8, h⟩ := bd_some h
        refine r_calls0 hX (p2 := 46) (v := some (vF q8.1)) (as := [vF a3]) (r := [vR (cc 0 a1.toNat)]) (st2 := [vF q8.1, vR (cc 0 a1.toNat)]) rfl rfl rfl rfl rfl rfl (c_X5_withoutSign xs e a3 s6 q8 hq8) ?_
        obtain ⟨s9, hs9, h⟩ := bs_some h
        refine r_pfF hX (p2 := 49) rfl rfl (hc0 a1.toNat (tn_lt c7)) rfl rfl rfl rfl hs9 ?_
        refine r_iconst hX (p2 := 50) rfl rfl rfl ?_
        exact r_iretZ hX rfl rfl (Or.inr rfl) (eI_ok h)
      · have h := it_neg h p10
        exact t_X5_room_21 xs e q X hX (some (vR (cc 5 0))) (some (vI a1)) (some (vF a2)) (some (vF a3)) q3.2 h
noncomputable def f_X6_room_26 (s : pS) : Option (Int × pS) := some (0, s)
set_option maxRecDepth 10000 in
theorem t_X6_room_26 (xs : Nat → Int) (e : Nat) (q : Int × pS) (X : List (Option pV) → List pV → Nat → pH → Prop) (hX : pm_clo 1001 xs (pCall pm_tx 1001 xs pm_P (e + 1)) (e + 1) mX6_room (eI q) X) : ∀  (d0 : Option pV) (d1 : Option pV) (d2 : Option pV) (d3 : Option pV) (s : pS), f_X6_room_26 s = some q → X [d0, d1, d2, d3] [] 26 (pW s) := by
  intro d0 d1 d2 d3 s h
  unfold f_X6_room_26 at h
  refine r_iconst hX (p2 := 27) rfl rfl rfl ?_
  exact r_iretZ hX rfl rfl (Or.inl rfl) (eI_ok h)
noncomputable def f_X6_room_61 (y1 : Int) (y2 : UInt32) (s : pS) : Option (Int × pS) := ck (0 ≤ y1 ∧ y1 < 2) (bs (wB s 627 0 (pm_up (sB s 627 0) y1.toNat y2)) (fun s2 => some (1, s2)))
set_option maxRecDepth 10000 in
theorem t_X6_room_61 (xs : Nat → Int) (e : Nat) (q : Int × pS) (X : List (Option pV) → List pV → Nat → pH → Prop) (hX : pm_clo 1001 xs (pCall pm_tx 1001 xs pm_P (e + 1)) (e + 1) mX6_room (eI q) X) : ∀  (y1 : Int) (y2 : UInt32) (d0 : Option pV) (d1 : Option pV) (d2 : Option pV) (d3 : Option pV) (s : pS), f_X6_room_61 y1 y2 s = some q → X [d0, d1, d2, d3] [vF y2, vI y1, vR (ca 627 0)] 61 (pW s) := by
  intro y1 y2 d0 d1 d2 d3 s h
  unfold f_X6_room_61 at h
  obtain ⟨c1, h⟩ := ck_some h
  obtain ⟨s2, hs2, h⟩ := bs_some h
  refine r_fastore hX (p2 := 62) (j := y1.toNat) rfl rfl (ha627 0 (by decide)) rfl rfl c1 rfl hs2 ?_
  refine r_iconst hX (p2 := 63) rfl rfl rfl ?_
  exact r_iretZ hX rfl rfl (Or.inr rfl) (eI_ok h)
noncomputable def f_X6_room_44 (x1 : Int) (x3 : UInt32) (y1 : Int) (y2 : UInt32) (s : pS) : Option (Int × pS) := ck (0 ≤ y1 ∧ y1 < 2) (bs (wB s 626 0 (pm_up (sB s 626 0) y1.toNat y2)) (fun s2 => (if (pm_fc .l x3 FP.fconst0) ≠ 0 then f_X6_room_61 x1 x3 s2 else f_X6_room_61 x1 FP.fconst0 s2)))
set_option maxRecDepth 10000 in
theorem t_X6_room_44 (xs : Nat → Int) (e : Nat) (q : Int × pS) (X : List (Option pV) → List pV → Nat → pH → Prop) (hX : pm_clo 1001 xs (pCall pm_tx 1001 xs pm_P (e + 1)) (e + 1) mX6_room (eI q) X) : ∀  (x1 : Int) (x3 : UInt32) (y1 : Int) (y2 : UInt32) (d2 : Option pV) (s : pS), f_X6_room_44 x1 x3 y1 y2 s = some q → X [some (vR (cc 6 0)), some (vI x1), d2, some (vF x3)] [vF y2, vI y1, vR (ca 626 0)] 44 (pW s) := by
  intro x1 x3 y1 y2 d2 s h
  unfold f_X6_room_44 at h
  obtain ⟨c1, h⟩ := ck_some h
  obtain ⟨s2, hs2, h⟩ := bs_some h
  refine r_fastore hX (p2 := 45) (j := y1.toNat) rfl rfl (ha626 0 (by decide)) rfl rfl c1 rfl hs2 ?_
  refine r_aload_n hX (p2 := 46) rfl rfl rfl ⟨_, Or.inl rfl⟩ ?_
  refine r_gf hX (p2 := 49) (v := vR (ca 627 0)) rfl rfl (hc6 0 (by decide)) rfl rfl rfl ?_
  refine r_iload_n hX (p2 := 50) rfl rfl rfl ?_
  refine r_fload_n hX (p2 := 51) rfl rfl rfl ?_
  refine r_fconst0 hX (p2 := 52) rfl rfl ?_
  refine r_fcmp hX (p2 := 53) rfl rfl ?_
  refine r_if hX (p2 := 60) (p3 := 56) (P := (pm_fc .l x3 FP.fconst0) ≠ 0) rfl (by decide) rfl rfl (fun p3 => ?_) (fun p3 => ?_)
  · have h := it_pos h p3
    refine r_fload_n hX (p2 := 61) rfl rfl rfl ?_
    exact t_X6_room_61 xs e q X hX x1 x3 (some (vR (cc 6 0))) (some (vI x1)) d2 (some (vF x3)) s2 h
  · have h := it_neg h p3
    refine r_fconst0 hX (p2 := 57) rfl rfl ?_
    refine r_goto hX (p2 := 61) rfl (by decide) ?_
    exact t_X6_room_61 xs e q X hX x1 FP.fconst0 (some (vR (cc 6 0))) (some (vI x1)) d2 (some (vF x3)) s2 h
noncomputable def f_X6_room (a1 : Int) (a2 : UInt32) (a3 : UInt32) (s : pS) : Option (Int × pS) := bs (wI s 600 0 0) (fun s1 => (f_X6_isAxis a1 s1).bind (fun q2 => (if q2.1 = 0 then f_X6_room_26 q2.2 else (f_X6_isSize a2 q2.2).bind (fun q3 => (if q3.1 = 0 then f_X6_room_26 q3.2 else (f_X6_isSize a3 q3.2).bind (fun q4 => (if q4.1 ≠ 0 then (if (pm_fc .l a2 FP.fconst0) ≠ 0 then f_X6_room_44 a1 a3 a1 a2 q4.2 else f_X6_room_44 a1 a3 a1 FP.fconst0 q4.2) else f_X6_room_26 q4.2)))))))
set_option maxRecDepth 10000 in
theorem c_X6_room (xs : Nat → Int) (e : Nat) (a1 : Int) (a2 : UInt32) (a3 : UInt32) (s : pS) (q : Int × pS) (h : f_X6_room a1 a2 a3 s = some q) : pCall pm_tx 1001 xs pm_P (e + 1 + 1) 128 [vR (cc 6 0), vI a1, vF a2, vF a3] (pW s) (.inl (some (vI q.1))) (pW q.2) := by
  refine pCall_of mX6_room rfl rfl (fun X hX => ?_)
  show X [some (vR (cc 6 0)), some (vI a1), some (vF a2), some (vF a3)] [] 0 (pW s)
  replace hX : pm_clo 1001 xs (pCall pm_tx 1001 xs pm_P (e + 1)) (e + 1) mX6_room (eI q) X := hX
  unfold f_X6_room at h
  refine r_aload_n hX (p2 := 1) rfl rfl rfl ⟨_, Or.inl rfl⟩ ?_
  refine r_iconst hX (p2 := 2) rfl rfl rfl ?_
  obtain ⟨s1, hs1, h⟩ := bs_some h
  refine r_pfI hX (p2 := 5) rfl rfl (hc6 0 (by decide)) rfl rfl rfl rfl rfl rfl hs1 ?_
  refine r_iload_n hX (p2 := 6) rfl rfl rfl ?_
  obtain ⟨q2, hq2, h⟩ := bd_some h
  refine r_calls0 hX (p2 := 9) (v := some (vI q2.1)) (as := [vI a1]) (r := []) (st2 := [vI q2.1]) rfl rfl rfl rfl rfl rfl (c_X6_isAxis xs e a1 s1 q2 hq2) ?_
  refine r_if hX (p2 := 26) (p3 := 12) (P := q2.1 = 0) rfl (by decide) rfl rfl (fun p8 => ?_) (fun p8 => ?_)
  · have h := it_pos h p8
    exact t_X6_room_26 xs e q X hX (some (vR (cc 6 0))) (some (vI a1)) (some (vF a2)) (some (vF a3)) q2.2 h
  · have h := it_neg h p8
    refine r_fload_n hX (p2 := 13) rfl rfl rfl ?_
    obtain ⟨q3, hq3, h⟩ := bd_some h
    refine r_calls0 hX (p2 := 16) (v := some (vI q3.1)) (as := [vF a2]) (r := []) (st2 := [vI q3.1]) rfl rfl rfl rfl rfl rfl (c_X6_isSize xs e a2 q2.2 q3 hq3) ?_
    refine r_if hX (p2 := 26) (p3 := 19) (P := q3.1 = 0) rfl (by decide) rfl rfl (fun p7 => ?_) (fun p7 => ?_)
    · have h := it_pos h p7
      exact t_X6_room_26 xs e q X hX (some (vR (cc 6 0))) (some (vI a1)) (some (vF a2)) (some (vF a3)) q3.2 h
    · have h := it_neg h p7
      refine r_fload_n hX (p2 := 20) rfl rfl rfl ?_
      obtain ⟨q4, hq4, h⟩ := bd_some h
      refine r_calls0 hX (p2 := 23) (v := some (vI q4.1)) (as := [vF a3]) (r := []) (st2 := [vI q4.1]) rfl rfl rfl rfl rfl rfl (c_X6_isSize xs e a3 q3.2 q4 hq4) ?_
      refine r_if hX (p2 := 28) (p3 := 26) (P := q4.1 ≠ 0) rfl (by decide) rfl rfl (fun p6 => ?_) (fun p6 => ?_)
      · have h := it_pos h p6
        refine r_aload_n hX (p2 := 29) rfl rfl rfl ⟨_, Or.inl rfl⟩ ?_
        refine r_gf hX (p2 := 32) (v := vR (ca 626 0)) rfl rfl (hc6 0 (by decide)) rfl rfl rfl ?_
        refine r_iload_n hX (p2 := 33) rfl rfl rfl ?_
        refine r_fload_n hX (p2 := 34) rfl rfl rfl ?_
        refine r_fconst0 hX (p2 := 35) rfl rfl ?_
        refine r_fcmp hX (p2 := 36) rfl rfl ?_
        refine r_if hX (p2 := 43) (p3 := 39) (P := (pm_fc .l a2 FP.fconst0) ≠ 0) rfl (by decide) rfl rfl (fun p5 => ?_) (fun p5 => ?_)
        · have h := it_pos h p5
          refine r_fload_n hX (p2 := 44) rfl rfl rfl ?_
          exact t_X6_room_44 xs e q X hX a1 a3 a1 a2 (some (vF a2)) q4.2 h
        · have h := it_neg h p5
          refine r_fconst0 hX (p2 := 40) rfl rfl ?_
          refine r_goto hX (p2 := 44) rfl (by decide) ?_
          exact t_X6_room_44 xs e q X hX a1 a3 a1 FP.fconst0 (some (vF a2)) q4.2 h
      · have h := it_neg h p6
        exact t_X6_room_26 xs e q X hX (some (vR (cc 6 0))) (some (vI a1)) (some (vF a2)) (some (vF a3)) q4.2 h
noncomputable def f_X5_put_16 (s : pS) : Option (Int × pS) := some (0, s)
set_option maxRecDepth 10000 in
theorem t_X5_put_16 (xs : Nat → Int) (e : Nat) (q : Int × pS) (X : List (Option pV) → List pV → Nat → pH → Prop) (hX : pm_clo 1001 xs (pCall pm_tx 1001 xs pm_P (e + 1)) (e + 1) mX5_put (eI q) X) : ∀  (d0 : Option pV) (d1 : Option pV) (d2 : Option pV) (s : pS), f_X5_put_16 s = some q → X [d0, d1, d2] [] 16 (pW s) := by
  intro d0 d1 d2 s h
  unfold f_X5_put_16 at h
  refine r_iconst hX (p2 := 17) rfl rfl rfl ?_
  exact r_iretZ hX rfl rfl (Or.inl rfl) (eI_ok h)
noncomputable def f_X5_put (a1 : Int) (a2 : Int) (s : pS) : Option (Int × pS) := (f_X5_isAxis a1 s).bind (fun q1 => (if q1.1 = 0 then f_X5_put_16 q1.2 else (if a2 < 0 then f_X5_put_16 q1.2 else (if a2 ≤ 3 then ck (0 ≤ a1 ∧ a1 < 2) (bs (wI q1.2 3 a1.toNat a2) (fun s3 => some (1, s3))) else f_X5_put_16 q1.2))))
set_option maxRecDepth 10000 in
theorem c_X5_put (xs : Nat → Int) (e : Nat) (a1 : Int) (a2 : Int) (s : pS) (q : Int × pS) (h : f_X5_put a1 a2 s = some q) : pCall pm_tx 1001 xs pm_P (e + 1 + 1) 81 [vR (cc 5 0), vI a1, vI a2] (pW s) (.inl (some (vI q.1))) (pW q.2) := by
  refine pCall_of mX5_put rfl rfl (fun X hX => ?_)
  show X [some (vR (cc 5 0)), some (vI a1), some (vI a2)] [] 0 (pW s)
  replace hX : pm_clo 1001 xs (pCall pm_tx 1001 xs pm_P (e + 1)) (e + 1) mX5_put (eI q) X := hX
  unfold f_X5_put at h
  refine r_iload_n hX (p2 := 1) rfl rfl rfl ?_
  obtain ⟨q1, hq1, h⟩ := bd_some h
  refine r_calls0 hX (p2 := 4) (v := some (vI q1.1)) (as := [vI a1]) (r := []) (st2 := [vI q1.1]) rfl rfl rfl rfl rfl rfl (c_X5_isAxis xs e a1 s q1 hq1) ?_
  refine r_if hX (p2 := 16) (p3 := 7) (P := q1.1 = 0) rfl (by decide) rfl rfl (fun p6 => ?_) (fun p6 => ?_)
  · have h := it_pos h p6
    exact t_X5_put_16 xs e q X hX (some (vR (cc 5 0))) (some (vI a1)) (some (vI a2)) q1.2 h
  · have h := it_neg h p6
    refine r_iload_n hX (p2 := 8) rfl rfl rfl ?_
    refine r_if hX (p2 := 16) (p3 := 11) (P := a2 < 0) rfl (by decide) rfl rfl (fun p5 => ?_) (fun p5 => ?_)
    · have h := it_pos h p5
      exact t_X5_put_16 xs e q X hX (some (vR (cc 5 0))) (some (vI a1)) (some (vI a2)) q1.2 h
    · have h := it_neg h p5
      refine r_iload_n hX (p2 := 12) rfl rfl rfl ?_
      refine r_iconst hX (p2 := 13) rfl rfl rfl ?_
      refine r_icmp hX (p2 := 18) (p3 := 16) (P := a2 ≤ 3) rfl (by decide) rfl rfl (fun p4 => ?_) (fun p4 => ?_)
      · have h := it_pos h p4
        refine r_aload_n hX (p2 := 19) rfl rfl rfl ⟨_, Or.inl rfl⟩ ?_
        refine r_gf hX (p2 := 22) (v := vR (cr 501)) rfl rfl (hc5 0 (by decide)) rfl rfl rfl ?_
        refine r_iload_n hX (p2 := 23) rfl rfl rfl ?_
        obtain ⟨c2, h⟩ := ck_some h
        refine r_aaload hX (p2 := 24) rfl rfl hr501 rfl c2 (y := cc 0 a1.toNat) rfl ?_
        refine r_iload_n hX (p2 := 25) rfl rfl rfl ?_
        obtain ⟨s3, hs3, h⟩ := bs_some h
        refine r_pfI hX (p2 := 28) rfl rfl (hc0 a1.toNat (tn_lt c2)) rfl rfl rfl rfl rfl rfl hs3 ?_
        refine r_iconst hX (p2 := 29) rfl rfl rfl ?_
        exact r_iretZ hX rfl rfl (Or.inr rfl) (eI_ok h)
      · have h := it_neg h p4
        exact t_X5_put_16 xs e q X hX (some (vR (cc 5 0))) (some (vI a1)) (some (vI a2)) q1.2 h
noncomputable def f_X6_put_21 (s : pS) : Option (Int × pS) := some (0, s)
set_option maxRecDepth 10000 in
theorem t_X6_put_21 (xs : Nat → Int) (e : Nat) (q : Int × pS) (X : List (Option pV) → List pV → Nat → pH → Prop) (hX : pm_clo 1001 xs (pCall pm_tx 1001 xs pm_P (e + 1)) (e + 1) mX6_put (eI q) X) : ∀  (d0 : Option pV) (d1 : Option pV) (d2 : Option pV) (s : pS), f_X6_put_21 s = some q → X [d0, d1, d2] [] 21 (pW s) := by
  intro d0 d1 d2 s h
  unfold f_X6_put_21 at h
  refine r_iconst hX (p2 := 22) rfl rfl rfl ?_
  exact r_iretZ hX rfl rfl (Or.inl rfl) (eI_ok h)
noncomputable def f_X6_put (a1 : Int) (a2 : Int) (s : pS) : Option (Int × pS) := bs (wI s 600 0 0) (fun s1 => (f_X6_isAxis a1 s1).bind (fun q2 => (if q2.1 = 0 then f_X6_put_21 q2.2 else (f_X6_outside a2 0 3 q2.2).bind (fun q3 => (if q3.1 = 0 then ck (0 ≤ a1 ∧ a1 < 2) (bs (wA q3.2 628 0 (pm_up (sA q3.2 628 0) a1.toNat a2)) (fun s5 => some (1, s5))) else f_X6_put_21 q3.2)))))
set_option maxRecDepth 10000 in
theorem c_X6_put (xs : Nat → Int) (e : Nat) (a1 : Int) (a2 : Int) (s : pS) (q : Int × pS) (h : f_X6_put a1 a2 s = some q) : pCall pm_tx 1001 xs pm_P (e + 1 + 1) 129 [vR (cc 6 0), vI a1, vI a2] (pW s) (.inl (some (vI q.1))) (pW q.2) := by
  refine pCall_of mX6_put rfl rfl (fun X hX => ?_)
  show X [some (vR (cc 6 0)), some (vI a1), some (vI a2)] [] 0 (pW s)
  replace hX : pm_clo 1001 xs (pCall pm_tx 1001 xs pm_P (e + 1)) (e + 1) mX6_put (eI q) X := hX
  unfold f_X6_put at h
  refine r_aload_n hX (p2 := 1) rfl rfl rfl ⟨_, Or.inl rfl⟩ ?_
  refine r_iconst hX (p2 := 2) rfl rfl rfl ?_
  obtain ⟨s1, hs1, h⟩ := bs_some h
  refine r_pfI hX (p2 := 5) rfl rfl (hc6 0 (by decide)) rfl rfl rfl rfl rfl rfl hs1 ?_
  refine r_iload_n hX (p2 := 6) rfl rfl rfl ?_
  obtain ⟨q2, hq2, h⟩ := bd_some h
  refine r_calls0 hX (p2 := 9) (v := some (vI q2.1)) (as := [vI a1]) (r := []) (st2 := [vI q2.1]) rfl rfl rfl rfl rfl rfl (c_X6_isAxis xs e a1 s1 q2 hq2) ?_
  refine r_if hX (p2 := 21) (p3 := 12) (P := q2.1 = 0) rfl (by decide) rfl rfl (fun p7 => ?_) (fun p7 => ?_)
  · have h := it_pos h p7
    exact t_X6_put_21 xs e q X hX (some (vR (cc 6 0))) (some (vI a1)) (some (vI a2)) q2.2 h
  · have h := it_neg h p7
    refine r_iload_n hX (p2 := 13) rfl rfl rfl ?_
    refine r_iconst hX (p2 := 14) rfl rfl rfl ?_
    refine r_iconst hX (p2 := 15) rfl rfl rfl ?_
    obtain ⟨q3, hq3, h⟩ := bd_some h
    refine r_calls0 hX (p2 := 18) (v := some (vI q3.1)) (as := [vI a2, vI 0, vI 3]) (r := []) (st2 := [vI q3.1]) rfl rfl rfl rfl rfl rfl (c_X6_outside xs e a2 0 3 q2.2 q3 hq3) ?_
    refine r_if hX (p2 := 23) (p3 := 21) (P := q3.1 = 0) rfl (by decide) rfl rfl (fun p6 => ?_) (fun p6 => ?_)
    · have h := it_pos h p6
      refine r_aload_n hX (p2 := 24) rfl rfl rfl ⟨_, Or.inl rfl⟩ ?_
      refine r_gf hX (p2 := 27) (v := vR (ca 628 0)) rfl rfl (hc6 0 (by decide)) rfl rfl rfl ?_
      refine r_iload_n hX (p2 := 28) rfl rfl rfl ?_
      refine r_iload_n hX (p2 := 29) rfl rfl rfl ?_
      obtain ⟨c4, h⟩ := ck_some h
      obtain ⟨s5, hs5, h⟩ := bs_some h
      refine r_iastore hX (p2 := 30) (j := a1.toNat) rfl rfl (ha628 0 (by decide)) rfl rfl c4 rfl hs5 ?_
      refine r_iconst hX (p2 := 31) rfl rfl rfl ?_
      exact r_iretZ hX rfl rfl (Or.inr rfl) (eI_ok h)
    · have h := it_neg h p6
      exact t_X6_put_21 xs e q X hX (some (vR (cc 6 0))) (some (vI a1)) (some (vI a2)) q3.2 h
noncomputable def f_X0_countAsOther_14 (i0 : Nat) (K53 : Int → pS → Option (Int × pS)) : Nat → Int → Int → Int → pS → Option (Int × pS)
  | 0, _, _, _, _ => none
  | n + 1, x1, x2, x3, s => (if x1 ≤ x3 then K53 x2 s else ck (0 ≤ x3 ∧ x3 < 10) (bs ((if 1 < (sA s 4 i0 x3.toNat) then (sA s 4 i0 x3.toNat) else 1)) (fun v2 => ck (0 ≤ x3 ∧ x3 < 10) (ck (inR (v2 + (sA s 5 i0 x3.toNat))) (ck (inR ((v2 + (sA s 5 i0 x3.toNat)) - 1)) (bs ((if x2 < ((v2 + (sA s 5 i0 x3.toNat)) - 1) then ((v2 + (sA s 5 i0 x3.toNat)) - 1) else x2)) (fun v6 => ck (inR (x3 + 1)) (f_X0_countAsOther_14 i0 K53 n x1 v6 (x3 + 1) s))))))))
set_option maxRecDepth 10000 in
theorem t_X0_countAsOther_14 (xs : Nat → Int) (e : Nat) (i0 : Nat) (hi0 : i0 < 2) (q : Int × pS) (X : List (Option pV) → List pV → Nat → pH → Prop) (hX : pm_clo 1001 xs (pCall pm_tx 1001 xs pm_P (e + 1)) (e + 1) mX0_countAsOther (eI q) X) (K53 : Int → pS → Option (Int × pS)) (hK53 : ∀ (x2 : Int) (d0 : Option pV) (d1 : Option pV) (d3 : Option pV) (d4 : Option pV) (s : pS), K53 x2 s = some q → X [d0, d1, some (vI x2), d3, d4] [] 53 (pW s)) : ∀ (n : Nat) (x1 : Int) (x2 : Int) (x3 : Int) (d4 : Option pV) (s : pS), f_X0_countAsOther_14 i0 K53 n x1 x2 x3 s = some q → X [some (vR (cc 0 i0)), some (vI x1), some (vI x2), some (vI x3), d4] [] 14 (pW s) := by
  intro n
  induction n with
  | zero =>
    intro x1 x2 x3 d4 s h
    rw [f_X0_countAsOther_14] at h
    cases h
  | succ n ih =>
    intro x1 x2 x3 d4 s h
    rw [f_X0_countAsOther_14] at h
    refine r_iload_n hX (p2 := 15) rfl rfl rfl ?_
    refine r_iload_n hX (p2 := 16) rfl rfl rfl ?_
    refine r_icmp hX (p2 := 53) (p3 := 19) (P := x1 ≤ x3) rfl (by decide) rfl rfl (fun p8 => ?_) (fun p8 => ?_)
    · have h := it_pos h p8
      exact hK53 x2 (some (vR (cc 0 i0))) (some (vI x1)) (some (vI x3)) d4 s h
    · have h := it_neg h p8
      refine r_iconst hX (p2 := 20) rfl rfl rfl ?_
      refine r_aload_n hX (p2 := 21) rfl rfl rfl ⟨_, Or.inl rfl⟩ ?_
      refine r_gf hX (p2 := 24) (v := vR (ca 4 i0)) rfl rfl (hc0 i0 hi0) rfl rfl rfl ?_
      refine r_iload_n hX (p2 := 25) rfl rfl rfl ?_
      obtain ⟨c1, h⟩ := ck_some h
      refine r_iaload hX (p2 := 26) (j := x3.toNat) rfl rfl (ha4 i0 hi0) rfl rfl c1 rfl ?_
      refine r_max hX (p2 := 29) rfl rfl rfl (by omega) ?_
      obtain ⟨v2, hv2, h⟩ := bs_some h
      refine r_istoreE hX (p2 := 31) (ls2 := [some (vR (cc 0 i0)), some (vI x1), some (vI x2), some (vI x3), some (vI v2)]) rfl rfl hv2 rfl rfl ?_
      refine r_iload_n hX (p2 := 32) rfl rfl rfl ?_
      refine r_iload hX (p2 := 34) rfl rfl rfl ?_
      refine r_aload_n hX (p2 := 35) rfl rfl rfl ⟨_, Or.inl rfl⟩ ?_
      refine r_gf hX (p2 := 38) (v := vR (ca 5 i0)) rfl rfl (hc0 i0 hi0) rfl rfl rfl ?_
      refine r_iload_n hX (p2 := 39) rfl rfl rfl ?_
      obtain ⟨c3, h⟩ := ck_some h
      refine r_iaload hX (p2 := 40) (j := x3.toNat) rfl rfl (ha5 i0 hi0) rfl rfl c3 rfl ?_
      obtain ⟨c4, h⟩ := ck_some h
      refine r_iadd hX (p2 := 41) rfl rfl c4 ?_
      refine r_iconst hX (p2 := 42) rfl rfl rfl ?_
      obtain ⟨c5, h⟩ := ck_some h
      refine r_isub hX (p2 := 43) rfl rfl c5 ?_
      refine r_max hX (p2 := 46) rfl rfl rfl (by omega) ?_
      obtain ⟨v6, hv6, h⟩ := bs_some h
      refine r_istoreE_n hX (p2 := 47) (ls2 := [some (vR (cc 0 i0)), some (vI x1), some (vI v6), some (vI x3), some (vI v2)]) rfl rfl hv6 rfl rfl ?_
      obtain ⟨c7, h⟩ := ck_some h
      refine r_iinc hX (p2 := 50) (ls2 := [some (vR (cc 0 i0)), some (vI x1), some (vI v6), some (vI (x3 + 1)), some (vI v2)]) rfl rfl rfl rfl c7 rfl ?_
      refine r_goto hX (p2 := 14) rfl (by decide) ?_
      exact ih x1 v6 (x3 + 1) (some (vI v2)) s h
noncomputable def f_X0_countAsOther (i0 : Nat) (a1 : Int) (s : pS) : Option (Int × pS) := bs ((if 1 < (sI s 304 i0) then (sI s 304 i0) else 1)) (fun v1 => f_X0_countAsOther_14 i0 (fun x2 s2 => some (x2, s2)) 400 a1 v1 0 s)
set_option maxRecDepth 10000 in
theorem c_X0_countAsOther (xs : Nat → Int) (e : Nat) (i0 : Nat) (a1 : Int) (hi0 : i0 < 2) (s : pS) (q : Int × pS) (h : f_X0_countAsOther i0 a1 s = some q) : pCall pm_tx 1001 xs pm_P (e + 1 + 1) 4 [vR (cc 0 i0), vI a1] (pW s) (.inl (some (vI q.1))) (pW q.2) := by
  refine pCall_of mX0_countAsOther rfl rfl (fun X hX => ?_)
  show X [some (vR (cc 0 i0)), some (vI a1), none, none, none] [] 0 (pW s)
  replace hX : pm_clo 1001 xs (pCall pm_tx 1001 xs pm_P (e + 1)) (e + 1) mX0_countAsOther (eI q) X := hX
  unfold f_X0_countAsOther at h
  refine r_iconst hX (p2 := 1) rfl rfl rfl ?_
  refine r_aload_n hX (p2 := 2) rfl rfl rfl ⟨_, Or.inl rfl⟩ ?_
  refine r_gf hX (p2 := 5) (v := vR (cc 3 i0)) rfl rfl (hc0 i0 hi0) rfl rfl rfl ?_
  refine r_gf hX (p2 := 8) (v := vI (sI s 304 i0)) rfl rfl (hc3 i0 (Nat.lt_succ_of_lt hi0)) rfl rfl rfl ?_
  refine r_max hX (p2 := 11) rfl rfl rfl (by omega) ?_
  obtain ⟨v1, hv1, h⟩ := bs_some h
  refine r_istoreE_n hX (p2 := 12) (ls2 := [some (vR (cc 0 i0)), some (vI a1), some (vI v1), none, none]) rfl rfl hv1 rfl rfl ?_
  refine r_iconst hX (p2 := 13) rfl rfl rfl ?_
  refine r_istore_n hX (p2 := 14) (ls2 := [some (vR (cc 0 i0)), some (vI a1), some (vI v1), some (vI 0), none]) rfl rfl rfl rfl ?_
  refine t_X0_countAsOther_14 xs e i0 hi0 q X hX _ (fun x2 d0 d1 d3 d4 s2 h => ?_) 400 a1 v1 0 none s h
  refine r_iload_n hX (p2 := 54) rfl rfl rfl ?_
  exact r_iretI hX rfl rfl (eI_ok h)
noncomputable def f_fillI_108_5 (K20 : pS → Option (pS)) : Nat → Int → Int → Int → pS → Option (pS)
  | 0, _, _, _, _ => none
  | n + 1, x1, x2, x3, s => (if x3 ≤ x2 then K20 s else ck (0 ≤ x2 ∧ x2 < 13) (bs (wA s 108 0 (pm_up (sA s 108 0) x2.toNat x1)) (fun s2 => ck (inR (x2 + 1)) (f_fillI_108_5 K20 n x1 (x2 + 1) x3 s2))))
set_option maxRecDepth 10000 in
theorem t_fillI_108_5 (xs : Nat → Int) (e : Nat) (q : pS) (X : List (Option pV) → List pV → Nat → pH → Prop) (hX : pm_clo 1001 xs (pCall pm_tx 1001 xs pm_P e) e mJ7_fill_53178 (eU q) X) (K20 : pS → Option (pS)) (hK20 : ∀ (d0 : Option pV) (d1 : Option pV) (d2 : Option pV) (d3 : Option pV) (s : pS), K20 s = some q → X [d0, d1, d2, d3] [] 20 (pW s)) : ∀ (n : Nat) (x1 : Int) (x2 : Int) (x3 : Int) (s : pS), f_fillI_108_5 K20 n x1 x2 x3 s = some q → X [some (vR (ca 108 0)), some (vI x1), some (vI x2), some (vI x3)] [] 5 (pW s) := by
  intro n
  induction n with
  | zero =>
    intro x1 x2 x3 s h
    rw [f_fillI_108_5] at h
    cases h
  | succ n ih =>
    intro x1 x2 x3 s h
    rw [f_fillI_108_5] at h
    refine r_iload_n hX (p2 := 6) rfl rfl rfl ?_
    refine r_iload_n hX (p2 := 7) rfl rfl rfl ?_
    refine r_icmp hX (p2 := 20) (p3 := 10) (P := x3 ≤ x2) rfl (by decide) rfl rfl (fun p4 => ?_) (fun p4 => ?_)
    · have h := it_pos h p4
      exact hK20 (some (vR (ca 108 0))) (some (vI x1)) (some (vI x2)) (some (vI x3)) s h
    · have h := it_neg h p4
      refine r_aload_n hX (p2 := 11) rfl rfl rfl ⟨_, Or.inl rfl⟩ ?_
      refine r_iload_n hX (p2 := 12) rfl rfl rfl ?_
      refine r_iload_n hX (p2 := 13) rfl rfl rfl ?_
      obtain ⟨c1, h⟩ := ck_some h
      obtain ⟨s2, hs2, h⟩ := bs_some h
      refine r_iastore hX (p2 := 14) (j := x2.toNat) rfl rfl (ha108 0 (by decide)) rfl rfl c1 rfl hs2 ?_
      obtain ⟨c3, h⟩ := ck_some h
      refine r_iinc hX (p2 := 17) (ls2 := [some (vR (ca 108 0)), some (vI x1), some (vI (x2 + 1)), some (vI x3)]) rfl rfl rfl rfl c3 rfl ?_
      refine r_goto hX (p2 := 5) rfl (by decide) ?_
      exact ih x1 (x2 + 1) x3 s2 h
noncomputable def f_fillI_108 (a1 : Int) (s : pS) : Option (pS) := f_fillI_108_5 (fun s1 => some s1) 400 a1 0 13 s
set_option maxRecDepth 10000 in
theorem c_fillI_108 (xs : Nat → Int) (e : Nat) (a1 : Int) (s : pS) (q : pS) (h : f_fillI_108 a1 s = some q) : pCall pm_tx 1001 xs pm_P (e + 1) 166 [vR (ca 108 0), vI a1] (pW s) (.inl none) (pW q) := by
  refine pCall_of mJ7_fill_53178 rfl rfl (fun X hX => ?_)
  show X [some (vR (ca 108 0)), some (vI a1), none, none] [] 0 (pW s)
  replace hX : pm_clo 1001 xs (pCall pm_tx 1001 xs pm_P e) e mJ7_fill_53178 (eU q) X := hX
  unfold f_fillI_108 at h
  refine r_iconst hX (p2 := 1) rfl rfl rfl ?_
  refine r_istore_n hX (p2 := 2) (ls2 := [some (vR (ca 108 0)), some (vI a1), some (vI 0), none]) rfl rfl rfl rfl ?_
  refine r_aload_n hX (p2 := 3) rfl rfl rfl ⟨_, Or.inl rfl⟩ ?_
  refine r_alen hX (p2 := 4) (x := 13) rfl rfl (ha108 0 (by decide)) rfl rfl rfl ?_
  refine r_istore_n hX (p2 := 5) (ls2 := [some (vR (ca 108 0)), some (vI a1), some (vI 0), some (vI 13)]) rfl rfl rfl rfl ?_
  refine t_fillI_108_5 xs e q X hX _ (fun d0 d1 d2 d3 s1 h => ?_) 400 a1 0 13 s h
  exact r_return hX rfl rfl (eU_ok h)
noncomputable def f_fillI_11_5 (i0 : Nat) (K20 : pS → Option (pS)) : Nat → Int → Int → Int → pS → Option (pS)
  | 0, _, _, _, _ => none
  | n + 1, x1, x2, x3, s => (if x3 ≤ x2 then K20 s else ck (0 ≤ x2 ∧ x2 < 10) (bs (wA s 11 i0 (pm_up (sA s 11 i0) x2.toNat x1)) (fun s2 => ck (inR (x2 + 1)) (f_fillI_11_5 i0 K20 n x1 (x2 + 1) x3 s2))))
set_option maxRecDepth 10000 in
theorem t_fillI_11_5 (xs : Nat → Int) (e : Nat) (i0 : Nat) (hi0 : i0 < 2) (q : pS) (X : List (Option pV) → List pV → Nat → pH → Prop) (hX : pm_clo 1001 xs (pCall pm_tx 1001 xs pm_P e) e mJ7_fill_53178 (eU q) X) (K20 : pS → Option (pS)) (hK20 : ∀ (d0 : Option pV) (d1 : Option pV) (d2 : Option pV) (d3 : Option pV) (s : pS), K20 s = some q → X [d0, d1, d2, d3] [] 20 (pW s)) : ∀ (n : Nat) (x1 : Int) (x2 : Int) (x3 : Int) (s : pS), f_fillI_11_5 i0 K20 n x1 x2 x3 s = some q → X [some (vR (ca 11 i0)), some (vI x1), some (vI x2), some (vI x3)] [] 5 (pW s) := by
  intro n
  induction n with
  | zero =>
    intro x1 x2 x3 s h
    rw [f_fillI_11_5] at h
    cases h
  | succ n ih =>
    intro x1 x2 x3 s h
    rw [f_fillI_11_5] at h
    refine r_iload_n hX (p2 := 6) rfl rfl rfl ?_
    refine r_iload_n hX (p2 := 7) rfl rfl rfl ?_
    refine r_icmp hX (p2 := 20) (p3 := 10) (P := x3 ≤ x2) rfl (by decide) rfl rfl (fun p4 => ?_) (fun p4 => ?_)
    · have h := it_pos h p4
      exact hK20 (some (vR (ca 11 i0))) (some (vI x1)) (some (vI x2)) (some (vI x3)) s h
    · have h := it_neg h p4
      refine r_aload_n hX (p2 := 11) rfl rfl rfl ⟨_, Or.inl rfl⟩ ?_
      refine r_iload_n hX (p2 := 12) rfl rfl rfl ?_
      refine r_iload_n hX (p2 := 13) rfl rfl rfl ?_
      obtain ⟨c1, h⟩ := ck_some h
      obtain ⟨s2, hs2, h⟩ := bs_some h
      refine r_iastore hX (p2 := 14) (j := x2.toNat) rfl rfl (ha11 i0 hi0) rfl rfl c1 rfl hs2 ?_
      obtain ⟨c3, h⟩ := ck_some h
      refine r_iinc hX (p2 := 17) (ls2 := [some (vR (ca 11 i0)), some (vI x1), some (vI (x2 + 1)), some (vI x3)]) rfl rfl rfl rfl c3 rfl ?_
      refine r_goto hX (p2 := 5) rfl (by decide) ?_
      exact ih x1 (x2 + 1) x3 s2 h
noncomputable def f_fillI_11 (i0 : Nat) (a1 : Int) (s : pS) : Option (pS) := f_fillI_11_5 i0 (fun s1 => some s1) 400 a1 0 10 s
set_option maxRecDepth 10000 in
theorem c_fillI_11 (xs : Nat → Int) (e : Nat) (i0 : Nat) (a1 : Int) (hi0 : i0 < 2) (s : pS) (q : pS) (h : f_fillI_11 i0 a1 s = some q) : pCall pm_tx 1001 xs pm_P (e + 1) 166 [vR (ca 11 i0), vI a1] (pW s) (.inl none) (pW q) := by
  refine pCall_of mJ7_fill_53178 rfl rfl (fun X hX => ?_)
  show X [some (vR (ca 11 i0)), some (vI a1), none, none] [] 0 (pW s)
  replace hX : pm_clo 1001 xs (pCall pm_tx 1001 xs pm_P e) e mJ7_fill_53178 (eU q) X := hX
  unfold f_fillI_11 at h
  refine r_iconst hX (p2 := 1) rfl rfl rfl ?_
  refine r_istore_n hX (p2 := 2) (ls2 := [some (vR (ca 11 i0)), some (vI a1), some (vI 0), none]) rfl rfl rfl rfl ?_
  refine r_aload_n hX (p2 := 3) rfl rfl rfl ⟨_, Or.inl rfl⟩ ?_
  refine r_alen hX (p2 := 4) (x := 10) rfl rfl (ha11 i0 hi0) rfl rfl rfl ?_
  refine r_istore_n hX (p2 := 5) (ls2 := [some (vR (ca 11 i0)), some (vI a1), some (vI 0), some (vI 10)]) rfl rfl rfl rfl ?_
  refine t_fillI_11_5 xs e i0 hi0 q X hX _ (fun d0 d1 d2 d3 s1 h => ?_) 400 a1 0 10 s h
  exact r_return hX rfl rfl (eU_ok h)
noncomputable def f_X1_clearPlaces_2 (K24 : pS → Option (pS)) : Nat → Int → pS → Option (pS)
  | 0, _, _ => none
  | n + 1, x1, s => (if 144 ≤ x1 then K24 s else ck (0 ≤ x1 ∧ x1 < 144) (bs (wA s 107 0 (pm_up (sA s 107 0) x1.toNat 0)) (fun s2 => ck (inR (x1 + 1)) (f_X1_clearPlaces_2 K24 n (x1 + 1) s2))))
set_option maxRecDepth 10000 in
theorem t_X1_clearPlaces_2 (xs : Nat → Int) (e : Nat) (q : pS) (X : List (Option pV) → List pV → Nat → pH → Prop) (hX : pm_clo 1001 xs (pCall pm_tx 1001 xs pm_P (e + 1)) (e + 1) mX1_clearPlaces (eU q) X) (K24 : pS → Option (pS)) (hK24 : ∀ (d1 : Option pV) (s : pS), K24 s = some q → X [some (vR (cc 1 0)), d1] [] 24 (pW s)) : ∀ (n : Nat) (x1 : Int) (s : pS), f_X1_clearPlaces_2 K24 n x1 s = some q → X [some (vR (cc 1 0)), some (vI x1)] [] 2 (pW s) := by
  intro n
  induction n with
  | zero =>
    intro x1 s h
    rw [f_X1_clearPlaces_2] at h
    cases h
  | succ n ih =>
    intro x1 s h
    rw [f_X1_clearPlaces_2] at h
    refine r_iload_n hX (p2 := 3) rfl rfl rfl ?_
    refine r_aload_n hX (p2 := 4) rfl rfl rfl ⟨_, Or.inl rfl⟩ ?_
    refine r_gf hX (p2 := 7) (v := vR (ca 107 0)) rfl rfl (hc1 0 (by decide)) rfl rfl rfl ?_
    refine r_alen hX (p2 := 8) (x := 144) rfl rfl (ha107 0 (by decide)) rfl rfl rfl ?_
    refine r_icmp hX (p2 := 24) (p3 := 11) (P := 144 ≤ x1) rfl (by decide) rfl rfl (fun p4 => ?_) (fun p4 => ?_)
    · have h := it_pos h p4
      exact hK24 (some (vI x1)) s h
    · have h := it_neg h p4
      refine r_aload_n hX (p2 := 12) rfl rfl rfl ⟨_, Or.inl rfl⟩ ?_
      refine r_gf hX (p2 := 15) (v := vR (ca 107 0)) rfl rfl (hc1 0 (by decide)) rfl rfl rfl ?_
      refine r_iload_n hX (p2 := 16) rfl rfl rfl ?_
      refine r_iconst hX (p2 := 17) rfl rfl rfl ?_
      obtain ⟨c1, h⟩ := ck_some h
      obtain ⟨s2, hs2, h⟩ := bs_some h
      refine r_bastore hX (p2 := 18) (j := x1.toNat) rfl rfl (ha107 0 (by decide)) rfl rfl c1 rfl (Or.inl rfl) hs2 ?_
      obtain ⟨c3, h⟩ := ck_some h
      refine r_iinc hX (p2 := 21) (ls2 := [some (vR (cc 1 0)), some (vI (x1 + 1))]) rfl rfl rfl rfl c3 rfl ?_
      refine r_goto hX (p2 := 2) rfl (by decide) ?_
      exact ih (x1 + 1) s2 h
noncomputable def f_X1_clearPlaces (s : pS) : Option (pS) := f_X1_clearPlaces_2 (fun s1 => (f_fillI_108 1 s1).bind (fun q2 => ck (0 ≤ (sI q2 100 0) ∧ (sI q2 100 0) < 2) ((f_fillI_11 ((sI q2 100 0).toNat) 0 q2).bind (fun q4 => ck (0 ≤ (sI q4 101 0) ∧ (sI q4 101 0) < 2) ((f_fillI_11 ((sI q4 101 0).toNat) 0 q4).bind (fun q6 => bs (wI q6 105 0 1) (fun s7 => bs (wI s7 106 0 1) (fun s8 => some s8)))))))) 400 0 s
set_option maxRecDepth 10000 in
theorem c_X1_clearPlaces (xs : Nat → Int) (e : Nat) (s : pS) (q : pS) (h : f_X1_clearPlaces s = some q) : pCall pm_tx 1001 xs pm_P (e + 1 + 1) 7 [vR (cc 1 0)] (pW s) (.inl none) (pW q) := by
  refine pCall_of mX1_clearPlaces rfl rfl (fun X hX => ?_)
  show X [some (vR (cc 1 0)), none] [] 0 (pW s)
  replace hX : pm_clo 1001 xs (pCall pm_tx 1001 xs pm_P (e + 1)) (e + 1) mX1_clearPlaces (eU q) X := hX
  unfold f_X1_clearPlaces at h
  refine r_iconst hX (p2 := 1) rfl rfl rfl ?_
  refine r_istore_n hX (p2 := 2) (ls2 := [some (vR (cc 1 0)), some (vI 0)]) rfl rfl rfl rfl ?_
  refine t_X1_clearPlaces_2 xs e q X hX _ (fun d1 s1 h => ?_) 400 0 s h
  refine r_aload_n hX (p2 := 25) rfl rfl rfl ⟨_, Or.inl rfl⟩ ?_
  refine r_gf hX (p2 := 28) (v := vR (ca 108 0)) rfl rfl (hc1 0 (by decide)) rfl rfl rfl ?_
  refine r_iconst hX (p2 := 29) rfl rfl rfl ?_
  obtain ⟨q2, hq2, h⟩ := bd_some h
  refine r_calls0 hX (p2 := 32) (v := none) (as := [vR (ca 108 0), vI 1]) (r := []) (st2 := []) rfl rfl rfl rfl rfl rfl (c_fillI_108 xs e 1 s1 q2 hq2) ?_
  refine r_aload_n hX (p2 := 33) rfl rfl rfl ⟨_, Or.inl rfl⟩ ?_
  obtain ⟨c3, h⟩ := ck_some h
  refine r_gf hX (p2 := 36) (v := vR (cc 0 ((sI q2 100 0).toNat))) rfl rfl (hc1 0 (by decide)) rfl rfl rfl ?_
  refine r_gf hX (p2 := 39) (v := vR (ca 11 ((sI q2 100 0).toNat))) rfl rfl (hc0 ((sI q2 100 0).toNat) (tn_lt c3)) rfl rfl rfl ?_
  refine r_iconst hX (p2 := 40) rfl rfl rfl ?_
  obtain ⟨q4, hq4, h⟩ := bd_some h
  refine r_calls0 hX (p2 := 43) (v := none) (as := [vR (ca 11 ((sI q2 100 0).toNat)), vI 0]) (r := []) (st2 := []) rfl rfl rfl rfl rfl rfl (c_fillI_11 xs e ((sI q2 100 0).toNat) 0 (tn_lt c3) q2 q4 hq4) ?_
  refine r_aload_n hX (p2 := 44) rfl rfl rfl ⟨_, Or.inl rfl⟩ ?_
  obtain ⟨c5, h⟩ := ck_some h
  refine r_gf hX (p2 := 47) (v := vR (cc 0 ((sI q4 101 0).toNat))) rfl rfl (hc1 0 (by decide)) rfl rfl rfl ?_
  refine r_gf hX (p2 := 50) (v := vR (ca 11 ((sI q4 101 0).toNat))) rfl rfl (hc0 ((sI q4 101 0).toNat) (tn_lt c5)) rfl rfl rfl ?_
  refine r_iconst hX (p2 := 51) rfl rfl rfl ?_
  obtain ⟨q6, hq6, h⟩ := bd_some h
  refine r_calls0 hX (p2 := 54) (v := none) (as := [vR (ca 11 ((sI q4 101 0).toNat)), vI 0]) (r := []) (st2 := []) rfl rfl rfl rfl rfl rfl (c_fillI_11 xs e ((sI q4 101 0).toNat) 0 (tn_lt c5) q4 q6 hq6) ?_
  refine r_aload_n hX (p2 := 55) rfl rfl rfl ⟨_, Or.inl rfl⟩ ?_
  refine r_iconst hX (p2 := 56) rfl rfl rfl ?_
  obtain ⟨s7, hs7, h⟩ := bs_some h
  refine r_pfI hX (p2 := 59) rfl rfl (hc1 0 (by decide)) rfl rfl rfl rfl rfl rfl hs7 ?_
  refine r_aload_n hX (p2 := 60) rfl rfl rfl ⟨_, Or.inl rfl⟩ ?_
  refine r_iconst hX (p2 := 61) rfl rfl rfl ?_
  obtain ⟨s8, hs8, h⟩ := bs_some h
  refine r_pfI hX (p2 := 64) rfl rfl (hc1 0 (by decide)) rfl rfl rfl rfl rfl rfl hs8 ?_
  exact r_return hX rfl rfl (eU_ok h)
noncomputable def f_X1_cellOf (a0 : Int) (a1 : Int) (s : pS) : Option (Int × pS) := ck (inR (a0 - 1)) (ck (inR ((a0 - 1) * 12)) (ck (inR (((a0 - 1) * 12) + a1)) (ck (inR ((((a0 - 1) * 12) + a1) - 1)) (some (((((a0 - 1) * 12) + a1) - 1), s)))))
set_option maxRecDepth 10000 in
theorem c_X1_cellOf (xs : Nat → Int) (e : Nat) (a0 : Int) (a1 : Int) (s : pS) (q : Int × pS) (h : f_X1_cellOf a0 a1 s = some q) : pCall pm_tx 1001 xs pm_P (e + 1) 17 [vI a0, vI a1] (pW s) (.inl (some (vI q.1))) (pW q.2) := by
  refine pCall_of mX1_cellOf rfl rfl (fun X hX => ?_)
  show X [some (vI a0), some (vI a1)] [] 0 (pW s)
  replace hX : pm_clo 1001 xs (pCall pm_tx 1001 xs pm_P e) e mX1_cellOf (eI q) X := hX
  unfold f_X1_cellOf at h
  refine r_iload_n hX (p2 := 1) rfl rfl rfl ?_
  refine r_iconst hX (p2 := 2) rfl rfl rfl ?_
  obtain ⟨c1, h⟩ := ck_some h
  refine r_isub hX (p2 := 3) rfl rfl c1 ?_
  refine r_bipush hX (p2 := 5) rfl rfl rfl ?_
  obtain ⟨c2, h⟩ := ck_some h
  refine r_imul hX (p2 := 6) rfl rfl c2 ?_
  refine r_iload_n hX (p2 := 7) rfl rfl rfl ?_
  obtain ⟨c3, h⟩ := ck_some h
  refine r_iadd hX (p2 := 8) rfl rfl c3 ?_
  refine r_iconst hX (p2 := 9) rfl rfl rfl ?_
  obtain ⟨c4, h⟩ := ck_some h
  refine r_isub hX (p2 := 10) rfl rfl c4 ?_
  exact r_iretI hX rfl rfl (eI_ok h)
noncomputable def f_X1_settle_42 (K77 : Int → Int → Int → Int → pS → Option (pS)) : Nat → Int → Int → Int → Int → Int → pS → Option (pS)
  | 0, _, _, _, _, _, _ => none
  | n + 1, x1, x2, x3, x4, x5, s => ck (0 ≤ (sI s 101 0) ∧ (sI s 101 0) < 2) (ck (0 ≤ x1 ∧ x1 < 10) (ck (inR (x3 + (sA s 5 ((sI s 101 0).toNat) x1.toNat))) ((if (x3 + (sA s 5 ((sI s 101 0).toNat) x1.toNat)) ≤ x5 then K77 x1 x2 x3 x4 s else (f_X1_cellOf x4 x5 s).bind (fun q4 => ck (0 ≤ q4.1 ∧ q4.1 < 144) (bs (wA q4.2 107 0 (pm_up (sA q4.2 107 0) q4.1.toNat 1)) (fun s6 => ck (inR (x5 + 1)) (f_X1_settle_42 K77 n x1 x2 x3 x4 (x5 + 1) s6))))))))
set_option maxRecDepth 10000 in
theorem t_X1_settle_42 (xs : Nat → Int) (e : Nat) (q : pS) (X : List (Option pV) → List pV → Nat → pH → Prop) (hX : pm_clo 1001 xs (pCall pm_tx 1001 xs pm_P (e + 1)) (e + 1) mX1_settle (eU q) X) (K77 : Int → Int → Int → Int → pS → Option (pS)) (hK77 : ∀ (x1 : Int) (x2 : Int) (x3 : Int) (x4 : Int) (d5 : Option pV) (s : pS), K77 x1 x2 x3 x4 s = some q → X [some (vR (cc 1 0)), some (vI x1), some (vI x2), some (vI x3), some (vI x4), d5] [] 77 (pW s)) : ∀ (n : Nat) (x1 : Int) (x2 : Int) (x3 : Int) (x4 : Int) (x5 : Int) (s : pS), f_X1_settle_42 K77 n x1 x2 x3 x4 x5 s = some q → X [some (vR (cc 1 0)), some (vI x1), some (vI x2), some (vI x3), some (vI x4), some (vI x5)] [] 42 (pW s) := by
  intro n
  induction n with
  | zero =>
    intro x1 x2 x3 x4 x5 s h
    rw [f_X1_settle_42] at h
    cases h
  | succ n ih =>
    intro x1 x2 x3 x4 x5 s h
    rw [f_X1_settle_42] at h
    refine r_iload hX (p2 := 44) rfl rfl rfl ?_
    refine r_iload_n hX (p2 := 45) rfl rfl rfl ?_
    refine r_aload_n hX (p2 := 46) rfl rfl rfl ⟨_, Or.inl rfl⟩ ?_
    obtain ⟨c1, h⟩ := ck_some h
    refine r_gf hX (p2 := 49) (v := vR (cc 0 ((sI s 101 0).toNat))) rfl rfl (hc1 0 (by decide)) rfl rfl rfl ?_
    refine r_gf hX (p2 := 52) (v := vR (ca 5 ((sI s 101 0).toNat))) rfl rfl (hc0 ((sI s 101 0).toNat) (tn_lt c1)) rfl rfl rfl ?_
    refine r_iload_n hX (p2 := 53) rfl rfl rfl ?_
    obtain ⟨c2, h⟩ := ck_some h
    refine r_iaload hX (p2 := 54) (j := x1.toNat) rfl rfl (ha5 ((sI s 101 0).toNat) (tn_lt c1)) rfl rfl c2 rfl ?_
    obtain ⟨c3, h⟩ := ck_some h
    refine r_iadd hX (p2 := 55) rfl rfl c3 ?_
    refine r_icmp hX (p2 := 77) (p3 := 58) (P := (x3 + (sA s 5 ((sI s 101 0).toNat) x1.toNat)) ≤ x5) rfl (by decide) rfl rfl (fun p8 => ?_) (fun p8 => ?_)
    · have h := it_pos h p8
      exact hK77 x1 x2 x3 x4 (some (vI x5)) s h
    · have h := it_neg h p8
      refine r_aload_n hX (p2 := 59) rfl rfl rfl ⟨_, Or.inl rfl⟩ ?_
      refine r_gf hX (p2 := 62) (v := vR (ca 107 0)) rfl rfl (hc1 0 (by decide)) rfl rfl rfl ?_
      refine r_iload hX (p2 := 64) rfl rfl rfl ?_
      refine r_iload hX (p2 := 66) rfl rfl rfl ?_
      obtain ⟨q4, hq4, h⟩ := bd_some h
      refine r_calls0 hX (p2 := 69) (v := some (vI q4.1)) (as := [vI x4, vI x5]) (r := [vR (ca 107 0)]) (st2 := [vI q4.1, vR (ca 107 0)]) rfl rfl rfl rfl rfl rfl (c_X1_cellOf xs e x4 x5 s q4 hq4) ?_
      refine r_iconst hX (p2 := 70) rfl rfl rfl ?_
      obtain ⟨c5, h⟩ := ck_some h
      obtain ⟨s6, hs6, h⟩ := bs_some h
      refine r_bastore hX (p2 := 71) (j := q4.1.toNat) rfl rfl (ha107 0 (by decide)) rfl rfl c5 rfl (Or.inr rfl) hs6 ?_
      obtain ⟨c7, h⟩ := ck_some h
      refine r_iinc hX (p2 := 74) (ls2 := [some (vR (cc 1 0)), some (vI x1), some (vI x2), some (vI x3), some (vI x4), some (vI (x5 + 1))]) rfl rfl rfl rfl c7 rfl ?_
      refine r_goto hX (p2 := 42) rfl (by decide) ?_
      exact ih x1 x2 x3 x4 (x5 + 1) s6 h
noncomputable def f_X1_settle_23 (K83 : pS → Option (pS)) : Nat → Int → Int → Int → Int → pS → Option (pS)
  | 0, _, _, _, _, _ => none
  | n + 1, x1, x2, x3, x4, s => ck (0 ≤ (sI s 100 0) ∧ (sI s 100 0) < 2) (ck (0 ≤ x1 ∧ x1 < 10) (ck (inR (x2 + (sA s 5 ((sI s 100 0).toNat) x1.toNat))) ((if (x2 + (sA s 5 ((sI s 100 0).toNat) x1.toNat)) ≤ x4 then K83 s else f_X1_settle_42 (fun x1 x2 x3 x4 s4 => ck (inR (x4 + 1)) (f_X1_settle_23 K83 n x1 x2 x3 (x4 + 1) s4)) 400 x1 x2 x3 x4 x3 s))))
set_option maxRecDepth 10000 in
theorem t_X1_settle_23 (xs : Nat → Int) (e : Nat) (q : pS) (X : List (Option pV) → List pV → Nat → pH → Prop) (hX : pm_clo 1001 xs (pCall pm_tx 1001 xs pm_P (e + 1)) (e + 1) mX1_settle (eU q) X) (K83 : pS → Option (pS)) (hK83 : ∀ (d0 : Option pV) (d1 : Option pV) (d2 : Option pV) (d3 : Option pV) (d4 : Option pV) (d5 : Option pV) (s : pS), K83 s = some q → X [d0, d1, d2, d3, d4, d5] [] 83 (pW s)) : ∀ (n : Nat) (x1 : Int) (x2 : Int) (x3 : Int) (x4 : Int) (d5 : Option pV) (s : pS), f_X1_settle_23 K83 n x1 x2 x3 x4 s = some q → X [some (vR (cc 1 0)), some (vI x1), some (vI x2), some (vI x3), some (vI x4), d5] [] 23 (pW s) := by
  intro n
  induction n with
  | zero =>
    intro x1 x2 x3 x4 d5 s h
    rw [f_X1_settle_23] at h
    cases h
  | succ n ih =>
    intro x1 x2 x3 x4 d5 s h
    rw [f_X1_settle_23] at h
    refine r_iload hX (p2 := 25) rfl rfl rfl ?_
    refine r_iload_n hX (p2 := 26) rfl rfl rfl ?_
    refine r_aload_n hX (p2 := 27) rfl rfl rfl ⟨_, Or.inl rfl⟩ ?_
    obtain ⟨c1, h⟩ := ck_some h
    refine r_gf hX (p2 := 30) (v := vR (cc 0 ((sI s 100 0).toNat))) rfl rfl (hc1 0 (by decide)) rfl rfl rfl ?_
    refine r_gf hX (p2 := 33) (v := vR (ca 5 ((sI s 100 0).toNat))) rfl rfl (hc0 ((sI s 100 0).toNat) (tn_lt c1)) rfl rfl rfl ?_
    refine r_iload_n hX (p2 := 34) rfl rfl rfl ?_
    obtain ⟨c2, h⟩ := ck_some h
    refine r_iaload hX (p2 := 35) (j := x1.toNat) rfl rfl (ha5 ((sI s 100 0).toNat) (tn_lt c1)) rfl rfl c2 rfl ?_
    obtain ⟨c3, h⟩ := ck_some h
    refine r_iadd hX (p2 := 36) rfl rfl c3 ?_
    refine r_icmp hX (p2 := 83) (p3 := 39) (P := (x2 + (sA s 5 ((sI s 100 0).toNat) x1.toNat)) ≤ x4) rfl (by decide) rfl rfl (fun p6 => ?_) (fun p6 => ?_)
    · have h := it_pos h p6
      exact hK83 (some (vR (cc 1 0))) (some (vI x1)) (some (vI x2)) (some (vI x3)) (some (vI x4)) d5 s h
    · have h := it_neg h p6
      refine r_iload_n hX (p2 := 40) rfl rfl rfl ?_
      refine r_istore hX (p2 := 42) (ls2 := [some (vR (cc 1 0)), some (vI x1), some (vI x2), some (vI x3), some (vI x4), some (vI x3)]) rfl rfl rfl rfl ?_
      refine t_X1_settle_42 xs e q X hX _ (fun x1 x2 x3 x4 d5 s4 h => ?_) 400 x1 x2 x3 x4 x3 s h
      obtain ⟨c5, h⟩ := ck_some h
      refine r_iinc hX (p2 := 80) (ls2 := [some (vR (cc 1 0)), some (vI x1), some (vI x2), some (vI x3), some (vI (x4 + 1)), d5]) rfl rfl rfl rfl c5 rfl ?_
      refine r_goto hX (p2 := 23) rfl (by decide) ?_
      exact ih x1 x2 x3 (x4 + 1) d5 s4 h
noncomputable def f_X1_settle (a1 : Int) (a2 : Int) (a3 : Int) (s : pS) : Option (pS) := ck (0 ≤ (sI s 100 0) ∧ (sI s 100 0) < 2) (ck (0 ≤ a1 ∧ a1 < 10) (bs (wA s 11 ((sI s 100 0).toNat) (pm_up (sA s 11 ((sI s 100 0).toNat)) a1.toNat a2)) (fun s3 => ck (0 ≤ (sI s3 101 0) ∧ (sI s3 101 0) < 2) (ck (0 ≤ a1 ∧ a1 < 10) (bs (wA s3 11 ((sI s3 101 0).toNat) (pm_up (sA s3 11 ((sI s3 101 0).toNat)) a1.toNat a3)) (fun s6 => f_X1_settle_23 (fun s7 => some s7) 400 a1 a2 a3 a2 s6))))))
set_option maxRecDepth 10000 in
theorem c_X1_settle (xs : Nat → Int) (e : Nat) (a1 : Int) (a2 : Int) (a3 : Int) (s : pS) (q : pS) (h : f_X1_settle a1 a2 a3 s = some q) : pCall pm_tx 1001 xs pm_P (e + 1 + 1) 16 [vR (cc 1 0), vI a1, vI a2, vI a3] (pW s) (.inl none) (pW q) := by
  refine pCall_of mX1_settle rfl rfl (fun X hX => ?_)
  show X [some (vR (cc 1 0)), some (vI a1), some (vI a2), some (vI a3), none, none] [] 0 (pW s)
  replace hX : pm_clo 1001 xs (pCall pm_tx 1001 xs pm_P (e + 1)) (e + 1) mX1_settle (eU q) X := hX
  unfold f_X1_settle at h
  refine r_aload_n hX (p2 := 1) rfl rfl rfl ⟨_, Or.inl rfl⟩ ?_
  obtain ⟨c1, h⟩ := ck_some h
  refine r_gf hX (p2 := 4) (v := vR (cc 0 ((sI s 100 0).toNat))) rfl rfl (hc1 0 (by decide)) rfl rfl rfl ?_
  refine r_gf hX (p2 := 7) (v := vR (ca 11 ((sI s 100 0).toNat))) rfl rfl (hc0 ((sI s 100 0).toNat) (tn_lt c1)) rfl rfl rfl ?_
  refine r_iload_n hX (p2 := 8) rfl rfl rfl ?_
  refine r_iload_n hX (p2 := 9) rfl rfl rfl ?_
  obtain ⟨c2, h⟩ := ck_some h
  obtain ⟨s3, hs3, h⟩ := bs_some h
  refine r_iastore hX (p2 := 10) (j := a1.toNat) rfl rfl (ha11 ((sI s 100 0).toNat) (tn_lt c1)) rfl rfl c2 rfl hs3 ?_
  refine r_aload_n hX (p2 := 11) rfl rfl rfl ⟨_, Or.inl rfl⟩ ?_
  obtain ⟨c4, h⟩ := ck_some h
  refine r_gf hX (p2 := 14) (v := vR (cc 0 ((sI s3 101 0).toNat))) rfl rfl (hc1 0 (by decide)) rfl rfl rfl ?_
  refine r_gf hX (p2 := 17) (v := vR (ca 11 ((sI s3 101 0).toNat))) rfl rfl (hc0 ((sI s3 101 0).toNat) (tn_lt c4)) rfl rfl rfl ?_
  refine r_iload_n hX (p2 := 18) rfl rfl rfl ?_
  refine r_iload_n hX (p2 := 19) rfl rfl rfl ?_
  obtain ⟨c5, h⟩ := ck_some h
  obtain ⟨s6, hs6, h⟩ := bs_some h
  refine r_iastore hX (p2 := 20) (j := a1.toNat) rfl rfl (ha11 ((sI s3 101 0).toNat) (tn_lt c4)) rfl rfl c5 rfl hs6 ?_
  refine r_iload_n hX (p2 := 21) rfl rfl rfl ?_
  refine r_istore hX (p2 := 23) (ls2 := [some (vR (cc 1 0)), some (vI a1), some (vI a2), some (vI a3), some (vI a2), none]) rfl rfl rfl rfl ?_
  refine t_X1_settle_23 xs e q X hX _ (fun d0 d1 d2 d3 d4 d5 s7 h => ?_) 400 a1 a2 a3 a2 none s6 h
  exact r_return hX rfl rfl (eU_ok h)
noncomputable def f_X1_placeTold_57 (K2 : Int → pS → Option (pS)) (K63 : pS → Option (pS)) (x1 : Int) (s : pS) : Option (pS) := ck (inR (x1 + 1)) (K2 (x1 + 1) s)
set_option maxRecDepth 10000 in
theorem t_X1_placeTold_57 (xs : Nat → Int) (e : Nat) (q : pS) (X : List (Option pV) → List pV → Nat → pH → Prop) (hX : pm_clo 1001 xs (pCall pm_tx 1001 xs pm_P (e + 2)) (e + 2) mX1_placeTold (eU q) X) (K2 : Int → pS → Option (pS)) (K63 : pS → Option (pS)) (hK2 : ∀ (x1 : Int) (s : pS), K2 x1 s = some q → X [some (vR (cc 1 0)), some (vI x1)] [] 2 (pW s)) (hK63 : ∀ (d0 : Option pV) (d1 : Option pV) (s : pS), K63 s = some q → X [d0, d1] [] 63 (pW s)) : ∀  (x1 : Int) (s : pS), f_X1_placeTold_57 K2 K63 x1 s = some q → X [some (vR (cc 1 0)), some (vI x1)] [] 57 (pW s) := by
  intro x1 s h
  unfold f_X1_placeTold_57 at h
  obtain ⟨c1, h⟩ := ck_some h
  refine r_iinc hX (p2 := 60) (ls2 := [some (vR (cc 1 0)), some (vI (x1 + 1))]) rfl rfl rfl rfl c1 rfl ?_
  refine r_goto hX (p2 := 2) rfl (by decide) ?_
  exact hK2 (x1 + 1) s h
noncomputable def f_X1_placeTold_2 (K63 : pS → Option (pS)) : Nat → Int → pS → Option (pS)
  | 0, _, _ => none
  | n + 1, x1, s => (if (sI s 102 0) ≤ x1 then K63 s else ck (0 ≤ (sI s 100 0) ∧ (sI s 100 0) < 2) (ck (0 ≤ x1 ∧ x1 < 10) ((if (sA s 4 ((sI s 100 0).toNat) x1.toNat) = 0 then f_X1_placeTold_57 (f_X1_placeTold_2 K63 n) K63 x1 s else ck (0 ≤ (sI s 101 0) ∧ (sI s 101 0) < 2) (ck (0 ≤ x1 ∧ x1 < 10) ((if (sA s 4 ((sI s 101 0).toNat) x1.toNat) = 0 then f_X1_placeTold_57 (f_X1_placeTold_2 K63 n) K63 x1 s else ck (0 ≤ (sI s 100 0) ∧ (sI s 100 0) < 2) (ck (0 ≤ x1 ∧ x1 < 10) (ck (0 ≤ (sI s 101 0) ∧ (sI s 101 0) < 2) (ck (0 ≤ x1 ∧ x1 < 10) ((f_X1_settle x1 (sA s 4 ((sI s 100 0).toNat) x1.toNat) (sA s 4 ((sI s 101 0).toNat) x1.toNat) s).bind (fun q9 => f_X1_placeTold_57 (f_X1_placeTold_2 K63 n) K63 x1 q9))))))))))))
set_option maxRecDepth 10000 in
theorem t_X1_placeTold_2 (xs : Nat → Int) (e : Nat) (q : pS) (X : List (Option pV) → List pV → Nat → pH → Prop) (hX : pm_clo 1001 xs (pCall pm_tx 1001 xs pm_P (e + 2)) (e + 2) mX1_placeTold (eU q) X) (K63 : pS → Option (pS)) (hK63 : ∀ (d0 : Option pV) (d1 : Option pV) (s : pS), K63 s = some q → X [d0, d1] [] 63 (pW s)) : ∀ (n : Nat) (x1 : Int) (s : pS), f_X1_placeTold_2 K63 n x1 s = some q → X [some (vR (cc 1 0)), some (vI x1)] [] 2 (pW s) := by
  intro n
  induction n with
  | zero =>
    intro x1 s h
    rw [f_X1_placeTold_2] at h
    cases h
  | succ n ih =>
    intro x1 s h
    rw [f_X1_placeTold_2] at h
    refine r_iload_n hX (p2 := 3) rfl rfl rfl ?_
    refine r_aload_n hX (p2 := 4) rfl rfl rfl ⟨_, Or.inl rfl⟩ ?_
    refine r_gf hX (p2 := 7) (v := vI (sI s 102 0)) rfl rfl (hc1 0 (by decide)) rfl rfl rfl ?_
    refine r_icmp hX (p2 := 63) (p3 := 10) (P := (sI s 102 0) ≤ x1) rfl (by decide) rfl rfl (fun p12 => ?_) (fun p12 => ?_)
    · have h := it_pos h p12
      exact hK63 (some (vR (cc 1 0))) (some (vI x1)) s h
    · have h := it_neg h p12
      refine r_aload_n hX (p2 := 11) rfl rfl rfl ⟨_, Or.inl rfl⟩ ?_
      obtain ⟨c1, h⟩ := ck_some h
      refine r_gf hX (p2 := 14) (v := vR (cc 0 ((sI s 100 0).toNat))) rfl rfl (hc1 0 (by decide)) rfl rfl rfl ?_
      refine r_gf hX (p2 := 17) (v := vR (ca 4 ((sI s 100 0).toNat))) rfl rfl (hc0 ((sI s 100 0).toNat) (tn_lt c1)) rfl rfl rfl ?_
      refine r_iload_n hX (p2 := 18) rfl rfl rfl ?_
      obtain ⟨c2, h⟩ := ck_some h
      refine r_iaload hX (p2 := 19) (j := x1.toNat) rfl rfl (ha4 ((sI s 100 0).toNat) (tn_lt c1)) rfl rfl c2 rfl ?_
      refine r_if hX (p2 := 57) (p3 := 22) (P := (sA s 4 ((sI s 100 0).toNat) x1.toNat) = 0) rfl (by decide) rfl rfl (fun p11 => ?_) (fun p11 => ?_)
      · have h := it_pos h p11
        exact t_X1_placeTold_57 xs e q X hX _ _ ih hK63 x1 s h
      · have h := it_neg h p11
        refine r_aload_n hX (p2 := 23) rfl rfl rfl ⟨_, Or.inl rfl⟩ ?_
        obtain ⟨c3, h⟩ := ck_some h
        refine r_gf hX (p2 := 26) (v := vR (cc 0 ((sI s 101 0).toNat))) rfl rfl (hc1 0 (by decide)) rfl rfl rfl ?_
        refine r_gf hX (p2 := 29) (v := vR (ca 4 ((sI s 101 0).toNat))) rfl rfl (hc0 ((sI s 101 0).toNat) (tn_lt c3)) rfl rfl rfl ?_
        refine r_iload_n hX (p2 := 30) rfl rfl rfl ?_
        obtain ⟨c4, h⟩ := ck_some h
        refine r_iaload hX (p2 := 31) (j := x1.toNat) rfl rfl (ha4 ((sI s 101 0).toNat) (tn_lt c3)) rfl rfl c4 rfl ?_
        refine r_if hX (p2 := 57) (p3 := 34) (P := (sA s 4 ((sI s 101 0).toNat) x1.toNat) = 0) rfl (by decide) rfl rfl (fun p10 => ?_) (fun p10 => ?_)
        · have h := it_pos h p10
          exact t_X1_placeTold_57 xs e q X hX _ _ ih hK63 x1 s h
        · have h := it_neg h p10
          refine r_aload_n hX (p2 := 35) rfl rfl rfl ⟨_, Or.inl rfl⟩ ?_
          refine r_iload_n hX (p2 := 36) rfl rfl rfl ?_
          refine r_aload_n hX (p2 := 37) rfl rfl rfl ⟨_, Or.inl rfl⟩ ?_
          obtain ⟨c5, h⟩ := ck_some h
          refine r_gf hX (p2 := 40) (v := vR (cc 0 ((sI s 100 0).toNat))) rfl rfl (hc1 0 (by decide)) rfl rfl rfl ?_
          refine r_gf hX (p2 := 43) (v := vR (ca 4 ((sI s 100 0).toNat))) rfl rfl (hc0 ((sI s 100 0).toNat) (tn_lt c5)) rfl rfl rfl ?_
          refine r_iload_n hX (p2 := 44) rfl rfl rfl ?_
          obtain ⟨c6, h⟩ := ck_some h
          refine r_iaload hX (p2 := 45) (j := x1.toNat) rfl rfl (ha4 ((sI s 100 0).toNat) (tn_lt c5)) rfl rfl c6 rfl ?_
          refine r_aload_n hX (p2 := 46) rfl rfl rfl ⟨_, Or.inl rfl⟩ ?_
          obtain ⟨c7, h⟩ := ck_some h
          refine r_gf hX (p2 := 49) (v := vR (cc 0 ((sI s 101 0).toNat))) rfl rfl (hc1 0 (by decide)) rfl rfl rfl ?_
          refine r_gf hX (p2 := 52) (v := vR (ca 4 ((sI s 101 0).toNat))) rfl rfl (hc0 ((sI s 101 0).toNat) (tn_lt c7)) rfl rfl rfl ?_
          refine r_iload_n hX (p2 := 53) rfl rfl rfl ?_
          obtain ⟨c8, h⟩ := ck_some h
          refine r_iaload hX (p2 := 54) (j := x1.toNat) rfl rfl (ha4 ((sI s 101 0).toNat) (tn_lt c7)) rfl rfl c8 rfl ?_
          obtain ⟨q9, hq9, h⟩ := bd_some h
          refine r_callv hX (p2 := 57) (v := none) (as := [vI x1, vI (sA s 4 ((sI s 100 0).toNat) x1.toNat), vI (sA s 4 ((sI s 101 0).toNat) x1.toNat)]) (r := []) (st2 := []) rfl rfl rfl rfl rfl (hc1 0 (by decide)) rfl rfl (c_X1_settle xs e x1 (sA s 4 ((sI s 100 0).toNat) x1.toNat) (sA s 4 ((sI s 101 0).toNat) x1.toNat) s q9 hq9) ?_
          exact t_X1_placeTold_57 xs e q X hX _ _ ih hK63 x1 q9 h
noncomputable def f_X1_placeTold (s : pS) : Option (pS) := f_X1_placeTold_2 (fun s1 => some s1) 400 0 s
set_option maxRecDepth 10000 in
theorem c_X1_placeTold (xs : Nat → Int) (e : Nat) (s : pS) (q : pS) (h : f_X1_placeTold s = some q) : pCall pm_tx 1001 xs pm_P (e + 2 + 1) 8 [vR (cc 1 0)] (pW s) (.inl none) (pW q) := by
  refine pCall_of mX1_placeTold rfl rfl (fun X hX => ?_)
  show X [some (vR (cc 1 0)), none] [] 0 (pW s)
  replace hX : pm_clo 1001 xs (pCall pm_tx 1001 xs pm_P (e + 2)) (e + 2) mX1_placeTold (eU q) X := hX
  unfold f_X1_placeTold at h
  refine r_iconst hX (p2 := 1) rfl rfl rfl ?_
  refine r_istore_n hX (p2 := 2) (ls2 := [some (vR (cc 1 0)), some (vI 0)]) rfl rfl rfl rfl ?_
  refine t_X1_placeTold_2 xs e q X hX _ (fun d0 d1 s1 h => ?_) 400 0 s h
  exact r_return hX rfl rfl (eU_ok h)
noncomputable def f_X1_isOpen_44 (s : pS) : Option (Int × pS) := some (0, s)
set_option maxRecDepth 10000 in
theorem t_X1_isOpen_44 (xs : Nat → Int) (e : Nat) (q : Int × pS) (X : List (Option pV) → List pV → Nat → pH → Prop) (hX : pm_clo 1001 xs (pCall pm_tx 1001 xs pm_P (e + 1)) (e + 1) mX1_isOpen (eI q) X) : ∀  (d0 : Option pV) (d1 : Option pV) (d2 : Option pV) (d3 : Option pV) (d4 : Option pV) (d5 : Option pV) (d6 : Option pV) (d7 : Option pV) (s : pS), f_X1_isOpen_44 s = some q → X [d0, d1, d2, d3, d4, d5, d6, d7] [] 44 (pW s) := by
  intro d0 d1 d2 d3 d4 d5 d6 d7 s h
  unfold f_X1_isOpen_44 at h
  refine r_iconst hX (p2 := 45) rfl rfl rfl ?_
  exact r_iretZ hX rfl rfl (Or.inl rfl) (eI_ok h)
noncomputable def f_X1_isOpen_59 (K89 : Int → Int → Int → Int → pS → Option (Int × pS)) : Nat → Int → Int → Int → Int → Int → pS → Option (Int × pS)
  | 0, _, _, _, _, _, _ => none
  | n + 1, x3, x4, x5, x6, x7, s => (if x5 ≤ x7 then K89 x3 x4 x5 x6 s else (f_X1_cellOf x6 x7 s).bind (fun q1 => ck (0 ≤ q1.1 ∧ q1.1 < 144) ((if (sA q1.2 107 0 q1.1.toNat) = 0 then ck (inR (x7 + 1)) (f_X1_isOpen_59 K89 n x3 x4 x5 x6 (x7 + 1) q1.2) else some (0, q1.2)))))
set_option maxRecDepth 10000 in
theorem t_X1_isOpen_59 (xs : Nat → Int) (e : Nat) (q : Int × pS) (X : List (Option pV) → List pV → Nat → pH → Prop) (hX : pm_clo 1001 xs (pCall pm_tx 1001 xs pm_P (e + 1)) (e + 1) mX1_isOpen (eI q) X) (K89 : Int → Int → Int → Int → pS → Option (Int × pS)) (hK89 : ∀ (x3 : Int) (x4 : Int) (x5 : Int) (x6 : Int) (d1 : Option pV) (d2 : Option pV) (d7 : Option pV) (s : pS), K89 x3 x4 x5 x6 s = some q → X [some (vR (cc 1 0)), d1, d2, some (vI x3), some (vI x4), some (vI x5), some (vI x6), d7] [] 89 (pW s)) : ∀ (n : Nat) (x3 : Int) (x4 : Int) (x5 : Int) (x6 : Int) (x7 : Int) (d1 : Option pV) (d2 : Option pV) (s : pS), f_X1_isOpen_59 K89 n x3 x4 x5 x6 x7 s = some q → X [some (vR (cc 1 0)), d1, d2, some (vI x3), some (vI x4), some (vI x5), some (vI x6), some (vI x7)] [] 59 (pW s) := by
  intro n
  induction n with
  | zero =>
    intro x3 x4 x5 x6 x7 d1 d2 s h
    rw [f_X1_isOpen_59] at h
    cases h
  | succ n ih =>
    intro x3 x4 x5 x6 x7 d1 d2 s h
    rw [f_X1_isOpen_59] at h
    refine r_iload hX (p2 := 61) rfl rfl rfl ?_
    refine r_iload hX (p2 := 63) rfl rfl rfl ?_
    refine r_icmp hX (p2 := 89) (p3 := 66) (P := x5 ≤ x7) rfl (by decide) rfl rfl (fun p5 => ?_) (fun p5 => ?_)
    · have h := it_pos h p5
      exact hK89 x3 x4 x5 x6 d1 d2 (some (vI x7)) s h
    · have h := it_neg h p5
      refine r_aload_n hX (p2 := 67) rfl rfl rfl ⟨_, Or.inl rfl⟩ ?_
      refine r_gf hX (p2 := 70) (v := vR (ca 107 0)) rfl rfl (hc1 0 (by decide)) rfl rfl rfl ?_
      refine r_iload hX (p2 := 72) rfl rfl rfl ?_
      refine r_iload hX (p2 := 74) rfl rfl rfl ?_
      obtain ⟨q1, hq1, h⟩ := bd_some h
      refine r_calls0 hX (p2 := 77) (v := some (vI q1.1)) (as := [vI x6, vI x7]) (r := [vR (ca 107 0)]) (st2 := [vI q1.1, vR (ca 107 0)]) rfl rfl rfl rfl rfl rfl (c_X1_cellOf xs e x6 x7 s q1 hq1) ?_
      obtain ⟨c2, h⟩ := ck_some h
      refine r_baload hX (p2 := 78) (j := q1.1.toNat) rfl rfl (ha107 0 (by decide)) rfl rfl c2 rfl ?_
      refine r_if hX (p2 := 83) (p3 := 81) (P := (sA q1.2 107 0 q1.1.toNat) = 0) rfl (by decide) rfl rfl (fun p4 => ?_) (fun p4 => ?_)
      · have h := it_pos h p4
        obtain ⟨c3, h⟩ := ck_some h
        refine r_iinc hX (p2 := 86) (ls2 := [some (vR (cc 1 0)), d1, d2, some (vI x3), some (vI x4), some (vI x5), some (vI x6), some (vI (x7 + 1))]) rfl rfl rfl rfl c3 rfl ?_
        refine r_goto hX (p2 := 59) rfl (by decide) ?_
        exact ih x3 x4 x5 x6 (x7 + 1) d1 d2 q1.2 h
      · have h := it_neg h p4
        refine r_iconst hX (p2 := 82) rfl rfl rfl ?_
        exact r_iretZ hX rfl rfl (Or.inl rfl) (eI_ok h)
noncomputable def f_X1_isOpen_49 (K95 : pS → Option (Int × pS)) : Nat → Int → Int → Int → Int → pS → Option (Int × pS)
  | 0, _, _, _, _, _ => none
  | n + 1, x3, x4, x5, x6, s => (if x4 ≤ x6 then K95 s else f_X1_isOpen_59 (fun x3 x4 x5 x6 s1 => ck (inR (x6 + 1)) (f_X1_isOpen_49 K95 n x3 x4 x5 (x6 + 1) s1)) 400 x3 x4 x5 x6 x3 s)
set_option maxRecDepth 10000 in
theorem t_X1_isOpen_49 (xs : Nat → Int) (e : Nat) (q : Int × pS) (X : List (Option pV) → List pV → Nat → pH → Prop) (hX : pm_clo 1001 xs (pCall pm_tx 1001 xs pm_P (e + 1)) (e + 1) mX1_isOpen (eI q) X) (K95 : pS → Option (Int × pS)) (hK95 : ∀ (d0 : Option pV) (d1 : Option pV) (d2 : Option pV) (d3 : Option pV) (d4 : Option pV) (d5 : Option pV) (d6 : Option pV) (d7 : Option pV) (s : pS), K95 s = some q → X [d0, d1, d2, d3, d4, d5, d6, d7] [] 95 (pW s)) : ∀ (n : Nat) (x3 : Int) (x4 : Int) (x5 : Int) (x6 : Int) (d1 : Option pV) (d2 : Option pV) (d7 : Option pV) (s : pS), f_X1_isOpen_49 K95 n x3 x4 x5 x6 s = some q → X [some (vR (cc 1 0)), d1, d2, some (vI x3), some (vI x4), some (vI x5), some (vI x6), d7] [] 49 (pW s) := by
  intro n
  induction n with
  | zero =>
    intro x3 x4 x5 x6 d1 d2 d7 s h
    rw [f_X1_isOpen_49] at h
    cases h
  | succ n ih =>
    intro x3 x4 x5 x6 d1 d2 d7 s h
    rw [f_X1_isOpen_49] at h
    refine r_iload hX (p2 := 51) rfl rfl rfl ?_
    refine r_iload hX (p2 := 53) rfl rfl rfl ?_
    refine r_icmp hX (p2 := 95) (p3 := 56) (P := x4 ≤ x6) rfl (by decide) rfl rfl (fun p3 => ?_) (fun p3 => ?_)
    · have h := it_pos h p3
      exact hK95 (some (vR (cc 1 0))) d1 d2 (some (vI x3)) (some (vI x4)) (some (vI x5)) (some (vI x6)) d7 s h
    · have h := it_neg h p3
      refine r_iload_n hX (p2 := 57) rfl rfl rfl ?_
      refine r_istore hX (p2 := 59) (ls2 := [some (vR (cc 1 0)), d1, d2, some (vI x3), some (vI x4), some (vI x5), some (vI x6), some (vI x3)]) rfl rfl rfl rfl ?_
      refine t_X1_isOpen_59 xs e q X hX _ (fun x3 x4 x5 x6 d1 d2 d7 s1 h => ?_) 400 x3 x4 x5 x6 x3 d1 d2 s h
      obtain ⟨c2, h⟩ := ck_some h
      refine r_iinc hX (p2 := 92) (ls2 := [some (vR (cc 1 0)), d1, d2, some (vI x3), some (vI x4), some (vI x5), some (vI (x6 + 1)), d7]) rfl rfl rfl rfl c2 rfl ?_
      refine r_goto hX (p2 := 49) rfl (by decide) ?_
      exact ih x3 x4 x5 (x6 + 1) d1 d2 d7 s1 h
noncomputable def f_X1_isOpen (a1 : Int) (a2 : Int) (a3 : Int) (s : pS) : Option (Int × pS) := ck (0 ≤ (sI s 100 0) ∧ (sI s 100 0) < 2) (ck (0 ≤ a1 ∧ a1 < 10) (ck (inR (a2 + (sA s 5 ((sI s 100 0).toNat) a1.toNat))) (bs ((a2 + (sA s 5 ((sI s 100 0).toNat) a1.toNat))) (fun v4 => ck (0 ≤ (sI s 101 0) ∧ (sI s 101 0) < 2) (ck (0 ≤ a1 ∧ a1 < 10) (ck (inR (a3 + (sA s 5 ((sI s 101 0).toNat) a1.toNat))) (bs ((a3 + (sA s 5 ((sI s 101 0).toNat) a1.toNat))) (fun v8 => (if 13 < v4 then f_X1_isOpen_44 s else ck (inR ((sI s 104 0) + 1)) ((if v8 ≤ ((sI s 104 0) + 1) then f_X1_isOpen_49 (fun s10 => some (1, s10)) 400 a3 v4 v8 a2 s else f_X1_isOpen_44 s)))))))))))
set_option maxRecDepth 10000 in
theorem c_X1_isOpen (xs : Nat → Int) (e : Nat) (a1 : Int) (a2 : Int) (a3 : Int) (s : pS) (q : Int × pS) (h : f_X1_isOpen a1 a2 a3 s = some q) : pCall pm_tx 1001 xs pm_P (e + 1 + 1) 14 [vR (cc 1 0), vI a1, vI a2, vI a3] (pW s) (.inl (some (vI q.1))) (pW q.2) := by
  refine pCall_of mX1_isOpen rfl rfl (fun X hX => ?_)
  show X [some (vR (cc 1 0)), some (vI a1), some (vI a2), some (vI a3), none, none, none, none] [] 0 (pW s)
  replace hX : pm_clo 1001 xs (pCall pm_tx 1001 xs pm_P (e + 1)) (e + 1) mX1_isOpen (eI q) X := hX
  unfold f_X1_isOpen at h
  refine r_iload_n hX (p2 := 1) rfl rfl rfl ?_
  refine r_aload_n hX (p2 := 2) rfl rfl rfl ⟨_, Or.inl rfl⟩ ?_
  obtain ⟨c1, h⟩ := ck_some h
  refine r_gf hX (p2 := 5) (v := vR (cc 0 ((sI s 100 0).toNat))) rfl rfl (hc1 0 (by decide)) rfl rfl rfl ?_
  refine r_gf hX (p2 := 8) (v := vR (ca 5 ((sI s 100 0).toNat))) rfl rfl (hc0 ((sI s 100 0).toNat) (tn_lt c1)) rfl rfl rfl ?_
  refine r_iload_n hX (p2 := 9) rfl rfl rfl ?_
  obtain ⟨c2, h⟩ := ck_some h
  refine r_iaload hX (p2 := 10) (j := a1.toNat) rfl rfl (ha5 ((sI s 100 0).toNat) (tn_lt c1)) rfl rfl c2 rfl ?_
  obtain ⟨c3, h⟩ := ck_some h
  refine r_iadd hX (p2 := 11) rfl rfl c3 ?_
  obtain ⟨v4, hv4, h⟩ := bs_some h
  refine r_istoreE hX (p2 := 13) (ls2 := [some (vR (cc 1 0)), some (vI a1), some (vI a2), some (vI a3), some (vI v4), none, none, none]) rfl rfl hv4 rfl rfl ?_
  refine r_iload_n hX (p2 := 14) rfl rfl rfl ?_
  refine r_aload_n hX (p2 := 15) rfl rfl rfl ⟨_, Or.inl rfl⟩ ?_
  obtain ⟨c5, h⟩ := ck_some h
  refine r_gf hX (p2 := 18) (v := vR (cc 0 ((sI s 101 0).toNat))) rfl rfl (hc1 0 (by decide)) rfl rfl rfl ?_
  refine r_gf hX (p2 := 21) (v := vR (ca 5 ((sI s 101 0).toNat))) rfl rfl (hc0 ((sI s 101 0).toNat) (tn_lt c5)) rfl rfl rfl ?_
  refine r_iload_n hX (p2 := 22) rfl rfl rfl ?_
  obtain ⟨c6, h⟩ := ck_some h
  refine r_iaload hX (p2 := 23) (j := a1.toNat) rfl rfl (ha5 ((sI s 101 0).toNat) (tn_lt c5)) rfl rfl c6 rfl ?_
  obtain ⟨c7, h⟩ := ck_some h
  refine r_iadd hX (p2 := 24) rfl rfl c7 ?_
  obtain ⟨v8, hv8, h⟩ := bs_some h
  refine r_istoreE hX (p2 := 26) (ls2 := [some (vR (cc 1 0)), some (vI a1), some (vI a2), some (vI a3), some (vI v4), some (vI v8), none, none]) rfl rfl hv8 rfl rfl ?_
  refine r_iload hX (p2 := 28) rfl rfl rfl ?_
  refine r_bipush hX (p2 := 30) rfl rfl rfl ?_
  refine r_icmp hX (p2 := 44) (p3 := 33) (P := 13 < v4) rfl (by decide) rfl rfl (fun p12 => ?_) (fun p12 => ?_)
  · have h := it_pos h p12
    exact t_X1_isOpen_44 xs e q X hX (some (vR (cc 1 0))) (some (vI a1)) (some (vI a2)) (some (vI a3)) (some (vI v4)) (some (vI v8)) none none s h
  · have h := it_neg h p12
    refine r_iload hX (p2 := 35) rfl rfl rfl ?_
    refine r_aload_n hX (p2 := 36) rfl rfl rfl ⟨_, Or.inl rfl⟩ ?_
    refine r_gf hX (p2 := 39) (v := vI (sI s 104 0)) rfl rfl (hc1 0 (by decide)) rfl rfl rfl ?_
    refine r_iconst hX (p2 := 40) rfl rfl rfl ?_
    obtain ⟨c9, h⟩ := ck_some h
    refine r_iadd hX (p2 := 41) rfl rfl c9 ?_
    refine r_icmp hX (p2 := 46) (p3 := 44) (P := v8 ≤ ((sI s 104 0) + 1)) rfl (by decide) rfl rfl (fun p11 => ?_) (fun p11 => ?_)
    · have h := it_pos h p11
      refine r_iload_n hX (p2 := 47) rfl rfl rfl ?_
      refine r_istore hX (p2 := 49) (ls2 := [some (vR (cc 1 0)), some (vI a1), some (vI a2), some (vI a3), some (vI v4), some (vI v8), some (vI a2), none]) rfl rfl rfl rfl ?_
      refine t_X1_isOpen_49 xs e q X hX _ (fun d0 d1 d2 d3 d4 d5 d6 d7 s10 h => ?_) 400 a3 v4 v8 a2 (some (vI a1)) (some (vI a2)) none s h
      refine r_iconst hX (p2 := 96) rfl rfl rfl ?_
      exact r_iretZ hX rfl rfl (Or.inr rfl) (eI_ok h)
    · have h := it_neg h p11
      exact t_X1_isOpen_44 xs e q X hX (some (vR (cc 1 0))) (some (vI a1)) (some (vI a2)) (some (vI a3)) (some (vI v4)) (some (vI v8)) none none s h
noncomputable def f_X1_placeOnMainLine_21 (K74 : pS → Option (pS)) : Nat → Int → Int → Int → pS → Option (pS)
  | 0, _, _, _, _ => none
  | n + 1, x1, x2, x4, s => (if (sI s 104 0) < x4 then K74 s else (f_X1_isOpen x1 x2 x4 s).bind (fun q1 => (if q1.1 = 0 then ck (inR (x4 + 1)) (f_X1_placeOnMainLine_21 K74 n x1 x2 (x4 + 1) q1.2) else (f_X1_settle x1 x2 x4 q1.2).bind (fun q3 => ck (0 ≤ (sI q3 101 0) ∧ (sI q3 101 0) < 2) (ck (0 ≤ x1 ∧ x1 < 10) (ck (inR (x4 + (sA q3 5 ((sI q3 101 0).toNat) x1.toNat))) (ck (0 ≤ x2 ∧ x2 < 13) (bs (wA q3 108 0 (pm_up (sA q3 108 0) x2.toNat (x4 + (sA q3 5 ((sI q3 101 0).toNat) x1.toNat)))) (fun s8 => some s8)))))))))
set_option maxRecDepth 10000 in
theorem t_X1_placeOnMainLine_21 (xs : Nat → Int) (e : Nat) (q : pS) (X : List (Option pV) → List pV → Nat → pH → Prop) (hX : pm_clo 1001 xs (pCall pm_tx 1001 xs pm_P (e + 2)) (e + 2) mX1_placeOnMainLine (eU q) X) (K74 : pS → Option (pS)) (hK74 : ∀ (d0 : Option pV) (d1 : Option pV) (d2 : Option pV) (d3 : Option pV) (d4 : Option pV) (s : pS), K74 s = some q → X [d0, d1, d2, d3, d4] [] 74 (pW s)) : ∀ (n : Nat) (x1 : Int) (x2 : Int) (x4 : Int) (d3 : Option pV) (hd3 : pm_nc d3) (s : pS), f_X1_placeOnMainLine_21 K74 n x1 x2 x4 s = some q → X [some (vR (cc 1 0)), some (vI x1), some (vI x2), d3, some (vI x4)] [] 21 (pW s) := by
  intro n
  induction n with
  | zero =>
    intro x1 x2 x4 d3 hd3 s h
    rw [f_X1_placeOnMainLine_21] at h
    cases h
  | succ n ih =>
    intro x1 x2 x4 d3 hd3 s h
    rw [f_X1_placeOnMainLine_21] at h
    refine r_iload hX (p2 := 23) rfl rfl rfl ?_
    refine r_aload_n hX (p2 := 24) rfl rfl rfl ⟨_, Or.inl rfl⟩ ?_
    refine r_gf hX (p2 := 27) (v := vI (sI s 104 0)) rfl rfl (hc1 0 (by decide)) rfl rfl rfl ?_
    refine r_icmp hX (p2 := 74) (p3 := 30) (P := (sI s 104 0) < x4) rfl (by decide) rfl rfl (fun p10 => ?_) (fun p10 => ?_)
    · have h := it_pos h p10
      exact hK74 (some (vR (cc 1 0))) (some (vI x1)) (some (vI x2)) d3 (some (vI x4)) s h
    · have h := it_neg h p10
      refine r_aload_n hX (p2 := 31) rfl rfl rfl ⟨_, Or.inl rfl⟩ ?_
      refine r_iload_n hX (p2 := 32) rfl rfl rfl ?_
      refine r_iload_n hX (p2 := 33) rfl rfl rfl ?_
      refine r_iload hX (p2 := 35) rfl rfl rfl ?_
      obtain ⟨q1, hq1, h⟩ := bd_some h
      refine r_callv hX (p2 := 38) (v := some (vI q1.1)) (as := [vI x1, vI x2, vI x4]) (r := []) (st2 := [vI q1.1]) rfl rfl rfl rfl rfl (hc1 0 (by decide)) rfl rfl (c_X1_isOpen xs e x1 x2 x4 s q1 hq1) ?_
      refine r_if hX (p2 := 68) (p3 := 41) (P := q1.1 = 0) rfl (by decide) rfl rfl (fun p9 => ?_) (fun p9 => ?_)
      · have h := it_pos h p9
        obtain ⟨c2, h⟩ := ck_some h
        refine r_iinc hX (p2 := 71) (ls2 := [some (vR (cc 1 0)), some (vI x1), some (vI x2), d3, some (vI (x4 + 1))]) rfl rfl rfl rfl c2 (st1_nc rfl hd3 rfl) ?_
        refine r_goto hX (p2 := 21) rfl (by decide) ?_
        exact ih x1 x2 (x4 + 1) d3 hd3 q1.2 h
      · have h := it_neg h p9
        refine r_aload_n hX (p2 := 42) rfl rfl rfl ⟨_, Or.inl rfl⟩ ?_
        refine r_iload_n hX (p2 := 43) rfl rfl rfl ?_
        refine r_iload_n hX (p2 := 44) rfl rfl rfl ?_
        refine r_iload hX (p2 := 46) rfl rfl rfl ?_
        obtain ⟨q3, hq3, h⟩ := bd_some h
        refine r_callv hX (p2 := 49) (v := none) (as := [vI x1, vI x2, vI x4]) (r := []) (st2 := []) rfl rfl rfl rfl rfl (hc1 0 (by decide)) rfl rfl (c_X1_settle xs e x1 x2 x4 q1.2 q3 hq3) ?_
        refine r_aload_n hX (p2 := 50) rfl rfl rfl ⟨_, Or.inl rfl⟩ ?_
        refine r_gf hX (p2 := 53) (v := vR (ca 108 0)) rfl rfl (hc1 0 (by decide)) rfl rfl rfl ?_
        refine r_iload_n hX (p2 := 54) rfl rfl rfl ?_
        refine r_iload hX (p2 := 56) rfl rfl rfl ?_
        refine r_aload_n hX (p2 := 57) rfl rfl rfl ⟨_, Or.inl rfl⟩ ?_
        obtain ⟨c4, h⟩ := ck_some h
        refine r_gf hX (p2 := 60) (v := vR (cc 0 ((sI q3 101 0).toNat))) rfl rfl (hc1 0 (by decide)) rfl rfl rfl ?_
        refine r_gf hX (p2 := 63) (v := vR (ca 5 ((sI q3 101 0).toNat))) rfl rfl (hc0 ((sI q3 101 0).toNat) (tn_lt c4)) rfl rfl rfl ?_
        refine r_iload_n hX (p2 := 64) rfl rfl rfl ?_
        obtain ⟨c5, h⟩ := ck_some h
        refine r_iaload hX (p2 := 65) (j := x1.toNat) rfl rfl (ha5 ((sI q3 101 0).toNat) (tn_lt c4)) rfl rfl c5 rfl ?_
        obtain ⟨c6, h⟩ := ck_some h
        refine r_iadd hX (p2 := 66) rfl rfl c6 ?_
        obtain ⟨c7, h⟩ := ck_some h
        obtain ⟨s8, hs8, h⟩ := bs_some h
        refine r_iastore hX (p2 := 67) (j := x2.toNat) rfl rfl (ha108 0 (by decide)) rfl rfl c7 rfl hs8 ?_
        exact r_return hX rfl rfl (eU_ok h)
noncomputable def f_X1_placeOnMainLine_17 (x1 : Int) (x2 : Int) (y0 : Int) (s : pS) : Option (pS) := f_X1_placeOnMainLine_21 (fun s1 => some s1) 400 x1 x2 y0 s
set_option maxRecDepth 10000 in
theorem t_X1_placeOnMainLine_17 (xs : Nat → Int) (e : Nat) (q : pS) (X : List (Option pV) → List pV → Nat → pH → Prop) (hX : pm_clo 1001 xs (pCall pm_tx 1001 xs pm_P (e + 2)) (e + 2) mX1_placeOnMainLine (eU q) X) : ∀  (x1 : Int) (x2 : Int) (y0 : Int) (d3 : Option pV) (d4 : Option pV) (s : pS), f_X1_placeOnMainLine_17 x1 x2 y0 s = some q → X [some (vR (cc 1 0)), some (vI x1), some (vI x2), d3, d4] [vI y0] 17 (pW s) := by
  intro x1 x2 y0 d3 d4 s h
  unfold f_X1_placeOnMainLine_17 at h
  refine r_istore_n hX (p2 := 18) (ls2 := [some (vR (cc 1 0)), some (vI x1), some (vI x2), some (vI y0), d4]) rfl rfl rfl rfl ?_
  refine r_iload_n hX (p2 := 19) rfl rfl rfl ?_
  refine r_istore hX (p2 := 21) (ls2 := [some (vR (cc 1 0)), some (vI x1), some (vI x2), some (vI y0), some (vI y0)]) rfl rfl rfl rfl ?_
  refine t_X1_placeOnMainLine_21 xs e q X hX _ (fun d0 d1 d2 d3 d4 s1 h => ?_) 400 x1 x2 y0 (some (vI y0)) rfl s h
  exact r_return hX rfl rfl (eU_ok h)
noncomputable def f_X1_placeOnMainLine (a1 : Int) (a2 : Int) (s : pS) : Option (pS) := (if (sI s 103 0) = 0 then ck (0 ≤ a2 ∧ a2 < 13) (f_X1_placeOnMainLine_17 a1 a2 (sA s 108 0 a2.toNat) s) else f_X1_placeOnMainLine_17 a1 a2 1 s)
set_option maxRecDepth 10000 in
theorem c_X1_placeOnMainLine (xs : Nat → Int) (e : Nat) (a1 : Int) (a2 : Int) (s : pS) (q : pS) (h : f_X1_placeOnMainLine a1 a2 s = some q) : pCall pm_tx 1001 xs pm_P (e + 2 + 1) 10 [vR (cc 1 0), vI a1, vI a2] (pW s) (.inl none) (pW q) := by
  refine pCall_of mX1_placeOnMainLine rfl rfl (fun X hX => ?_)
  show X [some (vR (cc 1 0)), some (vI a1), some (vI a2), none, none] [] 0 (pW s)
  replace hX : pm_clo 1001 xs (pCall pm_tx 1001 xs pm_P (e + 2)) (e + 2) mX1_placeOnMainLine (eU q) X := hX
  unfold f_X1_placeOnMainLine at h
  refine r_aload_n hX (p2 := 1) rfl rfl rfl ⟨_, Or.inl rfl⟩ ?_
  refine r_gf hX (p2 := 4) (v := vI (sI s 103 0)) rfl rfl (hc1 0 (by decide)) rfl rfl rfl ?_
  refine r_if hX (p2 := 11) (p3 := 7) (P := (sI s 103 0) = 0) rfl (by decide) rfl rfl (fun p2 => ?_) (fun p2 => ?_)
  · have h := it_pos h p2
    refine r_aload_n hX (p2 := 12) rfl rfl rfl ⟨_, Or.inl rfl⟩ ?_
    refine r_gf hX (p2 := 15) (v := vR (ca 108 0)) rfl rfl (hc1 0 (by decide)) rfl rfl rfl ?_
    refine r_iload_n hX (p2 := 16) rfl rfl rfl ?_
    obtain ⟨c1, h⟩ := ck_some h
    refine r_iaload hX (p2 := 17) (j := a2.toNat) rfl rfl (ha108 0 (by decide)) rfl rfl c1 rfl ?_
    exact t_X1_placeOnMainLine_17 xs e q X hX a1 a2 (sA s 108 0 a2.toNat) none none s h
  · have h := it_neg h p2
    refine r_iconst hX (p2 := 8) rfl rfl rfl ?_
    refine r_goto hX (p2 := 17) rfl (by decide) ?_
    exact t_X1_placeOnMainLine_17 xs e q X hX a1 a2 1 none none s h
noncomputable def f_X1_placeWithMainStart_48 (K2 : Int → pS → Option (pS)) (K54 : pS → Option (pS)) (x1 : Int) (s : pS) : Option (pS) := ck (inR (x1 + 1)) (K2 (x1 + 1) s)
set_option maxRecDepth 10000 in
theorem t_X1_placeWithMainStart_48 (xs : Nat → Int) (e : Nat) (q : pS) (X : List (Option pV) → List pV → Nat → pH → Prop) (hX : pm_clo 1001 xs (pCall pm_tx 1001 xs pm_P (e + 3)) (e + 3) mX1_placeWithMainStart (eU q) X) (K2 : Int → pS → Option (pS)) (K54 : pS → Option (pS)) (hK2 : ∀ (x1 : Int) (s : pS), K2 x1 s = some q → X [some (vR (cc 1 0)), some (vI x1)] [] 2 (pW s)) (hK54 : ∀ (d0 : Option pV) (d1 : Option pV) (s : pS), K54 s = some q → X [d0, d1] [] 54 (pW s)) : ∀  (x1 : Int) (s : pS), f_X1_placeWithMainStart_48 K2 K54 x1 s = some q → X [some (vR (cc 1 0)), some (vI x1)] [] 48 (pW s) := by
  intro x1 s h
  unfold f_X1_placeWithMainStart_48 at h
  obtain ⟨c1, h⟩ := ck_some h
  refine r_iinc hX (p2 := 51) (ls2 := [some (vR (cc 1 0)), some (vI (x1 + 1))]) rfl rfl rfl rfl c1 rfl ?_
  refine r_goto hX (p2 := 2) rfl (by decide) ?_
  exact hK2 (x1 + 1) s h
noncomputable def f_X1_placeWithMainStart_2 (K54 : pS → Option (pS)) : Nat → Int → pS → Option (pS)
  | 0, _, _ => none
  | n + 1, x1, s => (if (sI s 102 0) ≤ x1 then K54 s else ck (0 ≤ (sI s 100 0) ∧ (sI s 100 0) < 2) (ck (0 ≤ x1 ∧ x1 < 10) ((if (sA s 4 ((sI s 100 0).toNat) x1.toNat) = 0 then f_X1_placeWithMainStart_48 (f_X1_placeWithMainStart_2 K54 n) K54 x1 s else ck (0 ≤ (sI s 101 0) ∧ (sI s 101 0) < 2) (ck (0 ≤ x1 ∧ x1 < 10) ((if (sA s 4 ((sI s 101 0).toNat) x1.toNat) ≠ 0 then f_X1_placeWithMainStart_48 (f_X1_placeWithMainStart_2 K54 n) K54 x1 s else ck (0 ≤ (sI s 100 0) ∧ (sI s 100 0) < 2) (ck (0 ≤ x1 ∧ x1 < 10) ((f_X1_placeOnMainLine x1 (sA s 4 ((sI s 100 0).toNat) x1.toNat) s).bind (fun q7 => f_X1_placeWithMainStart_48 (f_X1_placeWithMainStart_2 K54 n) K54 x1 q7))))))))))
set_option maxRecDepth 10000 in
theorem t_X1_placeWithMainStart_2 (xs : Nat → Int) (e : Nat) (q : pS) (X : List (Option pV) → List pV → Nat → pH → Prop) (hX : pm_clo 1001 xs (pCall pm_tx 1001 xs pm_P (e + 3)) (e + 3) mX1_placeWithMainStart (eU q) X) (K54 : pS → Option (pS)) (hK54 : ∀ (d0 : Option pV) (d1 : Option pV) (s : pS), K54 s = some q → X [d0, d1] [] 54 (pW s)) : ∀ (n : Nat) (x1 : Int) (s : pS), f_X1_placeWithMainStart_2 K54 n x1 s = some q → X [some (vR (cc 1 0)), some (vI x1)] [] 2 (pW s) := by
  intro n
  induction n with
  | zero =>
    intro x1 s h
    rw [f_X1_placeWithMainStart_2] at h
    cases h
  | succ n ih =>
    intro x1 s h
    rw [f_X1_placeWithMainStart_2] at h
    refine r_iload_n hX (p2 := 3) rfl rfl rfl ?_
    refine r_aload_n hX (p2 := 4) rfl rfl rfl ⟨_, Or.inl rfl⟩ ?_
    refine r_gf hX (p2 := 7) (v := vI (sI s 102 0)) rfl rfl (hc1 0 (by decide)) rfl rfl rfl ?_
    refine r_icmp hX (p2 := 54) (p3 := 10) (P := (sI s 102 0) ≤ x1) rfl (by decide) rfl rfl (fun p10 => ?_) (fun p10 => ?_)
    · have h := it_pos h p10
      exact hK54 (some (vR (cc 1 0))) (some (vI x1)) s h
    · have h := it_neg h p10
      refine r_aload_n hX (p2 := 11) rfl rfl rfl ⟨_, Or.inl rfl⟩ ?_
      obtain ⟨c1, h⟩ := ck_some h
      refine r_gf hX (p2 := 14) (v := vR (cc 0 ((sI s 100 0).toNat))) rfl rfl (hc1 0 (by decide)) rfl rfl rfl ?_
      refine r_gf hX (p2 := 17) (v := vR (ca 4 ((sI s 100 0).toNat))) rfl rfl (hc0 ((sI s 100 0).toNat) (tn_lt c1)) rfl rfl rfl ?_
      refine r_iload_n hX (p2 := 18) rfl rfl rfl ?_
      obtain ⟨c2, h⟩ := ck_some h
      refine r_iaload hX (p2 := 19) (j := x1.toNat) rfl rfl (ha4 ((sI s 100 0).toNat) (tn_lt c1)) rfl rfl c2 rfl ?_
      refine r_if hX (p2 := 48) (p3 := 22) (P := (sA s 4 ((sI s 100 0).toNat) x1.toNat) = 0) rfl (by decide) rfl rfl (fun p9 => ?_) (fun p9 => ?_)
      · have h := it_pos h p9
        exact t_X1_placeWithMainStart_48 xs e q X hX _ _ ih hK54 x1 s h
      · have h := it_neg h p9
        refine r_aload_n hX (p2 := 23) rfl rfl rfl ⟨_, Or.inl rfl⟩ ?_
        obtain ⟨c3, h⟩ := ck_some h
        refine r_gf hX (p2 := 26) (v := vR (cc 0 ((sI s 101 0).toNat))) rfl rfl (hc1 0 (by decide)) rfl rfl rfl ?_
        refine r_gf hX (p2 := 29) (v := vR (ca 4 ((sI s 101 0).toNat))) rfl rfl (hc0 ((sI s 101 0).toNat) (tn_lt c3)) rfl rfl rfl ?_
        refine r_iload_n hX (p2 := 30) rfl rfl rfl ?_
        obtain ⟨c4, h⟩ := ck_some h
        refine r_iaload hX (p2 := 31) (j := x1.toNat) rfl rfl (ha4 ((sI s 101 0).toNat) (tn_lt c3)) rfl rfl c4 rfl ?_
        refine r_if hX (p2 := 48) (p3 := 34) (P := (sA s 4 ((sI s 101 0).toNat) x1.toNat) ≠ 0) rfl (by decide) rfl rfl (fun p8 => ?_) (fun p8 => ?_)
        · have h := it_pos h p8
          exact t_X1_placeWithMainStart_48 xs e q X hX _ _ ih hK54 x1 s h
        · have h := it_neg h p8
          refine r_aload_n hX (p2 := 35) rfl rfl rfl ⟨_, Or.inl rfl⟩ ?_
          refine r_iload_n hX (p2 := 36) rfl rfl rfl ?_
          refine r_aload_n hX (p2 := 37) rfl rfl rfl ⟨_, Or.inl rfl⟩ ?_
          obtain ⟨c5, h⟩ := ck_some h
          refine r_gf hX (p2 := 40) (v := vR (cc 0 ((sI s 100 0).toNat))) rfl rfl (hc1 0 (by decide)) rfl rfl rfl ?_
          refine r_gf hX (p2 := 43) (v := vR (ca 4 ((sI s 100 0).toNat))) rfl rfl (hc0 ((sI s 100 0).toNat) (tn_lt c5)) rfl rfl rfl ?_
          refine r_iload_n hX (p2 := 44) rfl rfl rfl ?_
          obtain ⟨c6, h⟩ := ck_some h
          refine r_iaload hX (p2 := 45) (j := x1.toNat) rfl rfl (ha4 ((sI s 100 0).toNat) (tn_lt c5)) rfl rfl c6 rfl ?_
          obtain ⟨q7, hq7, h⟩ := bd_some h
          refine r_callv hX (p2 := 48) (v := none) (as := [vI x1, vI (sA s 4 ((sI s 100 0).toNat) x1.toNat)]) (r := []) (st2 := []) rfl rfl rfl rfl rfl (hc1 0 (by decide)) rfl rfl (c_X1_placeOnMainLine xs e x1 (sA s 4 ((sI s 100 0).toNat) x1.toNat) s q7 hq7) ?_
          exact t_X1_placeWithMainStart_48 xs e q X hX _ _ ih hK54 x1 q7 h
noncomputable def f_X1_placeWithMainStart (s : pS) : Option (pS) := f_X1_placeWithMainStart_2 (fun s1 => some s1) 400 0 s
set_option maxRecDepth 10000 in
theorem c_X1_placeWithMainStart (xs : Nat → Int) (e : Nat) (s : pS) (q : pS) (h : f_X1_placeWithMainStart s = some q) : pCall pm_tx 1001 xs pm_P (e + 3 + 1) 9 [vR (cc 1 0)] (pW s) (.inl none) (pW q) := by
  refine pCall_of mX1_placeWithMainStart rfl rfl (fun X hX => ?_)
  show X [some (vR (cc 1 0)), none] [] 0 (pW s)
  replace hX : pm_clo 1001 xs (pCall pm_tx 1001 xs pm_P (e + 3)) (e + 3) mX1_placeWithMainStart (eU q) X := hX
  unfold f_X1_placeWithMainStart at h
  refine r_iconst hX (p2 := 1) rfl rfl rfl ?_
  refine r_istore_n hX (p2 := 2) (ls2 := [some (vR (cc 1 0)), some (vI 0)]) rfl rfl rfl rfl ?_
  refine t_X1_placeWithMainStart_2 xs e q X hX _ (fun d0 d1 s1 h => ?_) 400 0 s h
  exact r_return hX rfl rfl (eU_ok h)
noncomputable def f_X1_settleAtCursor (a1 : Int) (a2 : Int) (a3 : Int) (s : pS) : Option (pS) := (f_X1_settle a1 a2 a3 s).bind (fun q1 => bs (wI q1 105 0 a2) (fun s2 => bs (wI s2 106 0 a3) (fun s3 => some s3)))
set_option maxRecDepth 10000 in
theorem c_X1_settleAtCursor (xs : Nat → Int) (e : Nat) (a1 : Int) (a2 : Int) (a3 : Int) (s : pS) (q : pS) (h : f_X1_settleAtCursor a1 a2 a3 s = some q) : pCall pm_tx 1001 xs pm_P (e + 2 + 1) 15 [vR (cc 1 0), vI a1, vI a2, vI a3] (pW s) (.inl none) (pW q) := by
  refine pCall_of mX1_settleAtCursor rfl rfl (fun X hX => ?_)
  show X [some (vR (cc 1 0)), some (vI a1), some (vI a2), some (vI a3)] [] 0 (pW s)
  replace hX : pm_clo 1001 xs (pCall pm_tx 1001 xs pm_P (e + 2)) (e + 2) mX1_settleAtCursor (eU q) X := hX
  unfold f_X1_settleAtCursor at h
  refine r_aload_n hX (p2 := 1) rfl rfl rfl ⟨_, Or.inl rfl⟩ ?_
  refine r_iload_n hX (p2 := 2) rfl rfl rfl ?_
  refine r_iload_n hX (p2 := 3) rfl rfl rfl ?_
  refine r_iload_n hX (p2 := 4) rfl rfl rfl ?_
  obtain ⟨q1, hq1, h⟩ := bd_some h
  refine r_callv hX (p2 := 7) (v := none) (as := [vI a1, vI a2, vI a3]) (r := []) (st2 := []) rfl rfl rfl rfl rfl (hc1 0 (by decide)) rfl rfl (c_X1_settle xs e a1 a2 a3 s q1 hq1) ?_
  refine r_aload_n hX (p2 := 8) rfl rfl rfl ⟨_, Or.inl rfl⟩ ?_
  refine r_iload_n hX (p2 := 9) rfl rfl rfl ?_
  obtain ⟨s2, hs2, h⟩ := bs_some h
  refine r_pfI hX (p2 := 12) rfl rfl (hc1 0 (by decide)) rfl rfl rfl rfl rfl rfl hs2 ?_
  refine r_aload_n hX (p2 := 13) rfl rfl rfl ⟨_, Or.inl rfl⟩ ?_
  refine r_iload_n hX (p2 := 14) rfl rfl rfl ?_
  obtain ⟨s3, hs3, h⟩ := bs_some h
  refine r_pfI hX (p2 := 17) rfl rfl (hc1 0 (by decide)) rfl rfl rfl rfl rfl rfl hs3 ?_
  exact r_return hX rfl rfl (eU_ok h)
noncomputable def f_X1_placeAnywhere_19 (K54 : Int → Int → pS → Option (pS)) : Nat → Int → Int → Int → pS → Option (pS)
  | 0, _, _, _, _ => none
  | n + 1, x1, x3, x4, s => (if (sI s 104 0) < x4 then K54 x1 x3 s else (f_X1_isOpen x1 x3 x4 s).bind (fun q1 => (if q1.1 = 0 then ck (inR (x4 + 1)) (f_X1_placeAnywhere_19 K54 n x1 x3 (x4 + 1) q1.2) else (f_X1_settleAtCursor x1 x3 x4 q1.2).bind (fun q3 => some q3))))
set_option maxRecDepth 10000 in
theorem t_X1_placeAnywhere_19 (xs : Nat → Int) (e : Nat) (q : pS) (X : List (Option pV) → List pV → Nat → pH → Prop) (hX : pm_clo 1001 xs (pCall pm_tx 1001 xs pm_P (e + 3)) (e + 3) mX1_placeAnywhere (eU q) X) (K54 : Int → Int → pS → Option (pS)) (hK54 : ∀ (x1 : Int) (x3 : Int) (d2 : Option pV) (d4 : Option pV) (s : pS), K54 x1 x3 s = some q → X [some (vR (cc 1 0)), some (vI x1), d2, some (vI x3), d4] [] 54 (pW s)) : ∀ (n : Nat) (x1 : Int) (x3 : Int) (x4 : Int) (d2 : Option pV) (s : pS), f_X1_placeAnywhere_19 K54 n x1 x3 x4 s = some q → X [some (vR (cc 1 0)), some (vI x1), d2, some (vI x3), some (vI x4)] [] 19 (pW s) := by
  intro n
  induction n with
  | zero =>
    intro x1 x3 x4 d2 s h
    rw [f_X1_placeAnywhere_19] at h
    cases h
  | succ n ih =>
    intro x1 x3 x4 d2 s h
    rw [f_X1_placeAnywhere_19] at h
    refine r_iload hX (p2 := 21) rfl rfl rfl ?_
    refine r_aload_n hX (p2 := 22) rfl rfl rfl ⟨_, Or.inl rfl⟩ ?_
    refine r_gf hX (p2 := 25) (v := vI (sI s 104 0)) rfl rfl (hc1 0 (by decide)) rfl rfl rfl ?_
    refine r_icmp hX (p2 := 54) (p3 := 28) (P := (sI s 104 0) < x4) rfl (by decide) rfl rfl (fun p5 => ?_) (fun p5 => ?_)
    · have h := it_pos h p5
      exact hK54 x1 x3 d2 (some (vI x4)) s h
    · have h := it_neg h p5
      refine r_aload_n hX (p2 := 29) rfl rfl rfl ⟨_, Or.inl rfl⟩ ?_
      refine r_iload_n hX (p2 := 30) rfl rfl rfl ?_
      refine r_iload_n hX (p2 := 31) rfl rfl rfl ?_
      refine r_iload hX (p2 := 33) rfl rfl rfl ?_
      obtain ⟨q1, hq1, h⟩ := bd_some h
      refine r_callv hX (p2 := 36) (v := some (vI q1.1)) (as := [vI x1, vI x3, vI x4]) (r := []) (st2 := [vI q1.1]) rfl rfl rfl rfl rfl (hc1 0 (by decide)) rfl rfl (c_X1_isOpen xs (e + 1) x1 x3 x4 s q1 hq1) ?_
      refine r_if hX (p2 := 48) (p3 := 39) (P := q1.1 = 0) rfl (by decide) rfl rfl (fun p4 => ?_) (fun p4 => ?_)
      · have h := it_pos h p4
        obtain ⟨c2, h⟩ := ck_some h
        refine r_iinc hX (p2 := 51) (ls2 := [some (vR (cc 1 0)), some (vI x1), d2, some (vI x3), some (vI (x4 + 1))]) rfl rfl rfl rfl c2 rfl ?_
        refine r_goto hX (p2 := 19) rfl (by decide) ?_
        exact ih x1 x3 (x4 + 1) d2 q1.2 h
      · have h := it_neg h p4
        refine r_aload_n hX (p2 := 40) rfl rfl rfl ⟨_, Or.inl rfl⟩ ?_
        refine r_iload_n hX (p2 := 41) rfl rfl rfl ?_
        refine r_iload_n hX (p2 := 42) rfl rfl rfl ?_
        refine r_iload hX (p2 := 44) rfl rfl rfl ?_
        obtain ⟨q3, hq3, h⟩ := bd_some h
        refine r_callv hX (p2 := 47) (v := none) (as := [vI x1, vI x3, vI x4]) (r := []) (st2 := []) rfl rfl rfl rfl rfl (hc1 0 (by decide)) rfl rfl (c_X1_settleAtCursor xs e x1 x3 x4 q1.2 q3 hq3) ?_
        exact r_return hX rfl rfl (eU_ok h)
noncomputable def f_X1_placeAnywhere_10 (K62 : pS → Option (pS)) : Nat → Int → Int → Int → pS → Option (pS)
  | 0, _, _, _, _ => none
  | n + 1, x1, x2, x3, s => (if 12 < x3 then K62 s else f_X1_placeAnywhere_19 (fun x1 x3 s1 => ck (inR (x3 + 1)) (f_X1_placeAnywhere_10 K62 n x1 1 (x3 + 1) s1)) 400 x1 x3 x2 s)
set_option maxRecDepth 10000 in
theorem t_X1_placeAnywhere_10 (xs : Nat → Int) (e : Nat) (q : pS) (X : List (Option pV) → List pV → Nat → pH → Prop) (hX : pm_clo 1001 xs (pCall pm_tx 1001 xs pm_P (e + 3)) (e + 3) mX1_placeAnywhere (eU q) X) (K62 : pS → Option (pS)) (hK62 : ∀ (d0 : Option pV) (d1 : Option pV) (d2 : Option pV) (d3 : Option pV) (d4 : Option pV) (s : pS), K62 s = some q → X [d0, d1, d2, d3, d4] [] 62 (pW s)) : ∀ (n : Nat) (x1 : Int) (x2 : Int) (x3 : Int) (d4 : Option pV) (s : pS), f_X1_placeAnywhere_10 K62 n x1 x2 x3 s = some q → X [some (vR (cc 1 0)), some (vI x1), some (vI x2), some (vI x3), d4] [] 10 (pW s) := by
  intro n
  induction n with
  | zero =>
    intro x1 x2 x3 d4 s h
    rw [f_X1_placeAnywhere_10] at h
    cases h
  | succ n ih =>
    intro x1 x2 x3 d4 s h
    rw [f_X1_placeAnywhere_10] at h
    refine r_iload_n hX (p2 := 11) rfl rfl rfl ?_
    refine r_bipush hX (p2 := 13) rfl rfl rfl ?_
    refine r_icmp hX (p2 := 62) (p3 := 16) (P := 12 < x3) rfl (by decide) rfl rfl (fun p3 => ?_) (fun p3 => ?_)
    · have h := it_pos h p3
      exact hK62 (some (vR (cc 1 0))) (some (vI x1)) (some (vI x2)) (some (vI x3)) d4 s h
    · have h := it_neg h p3
      refine r_iload_n hX (p2 := 17) rfl rfl rfl ?_
      refine r_istore hX (p2 := 19) (ls2 := [some (vR (cc 1 0)), some (vI x1), some (vI x2), some (vI x3), some (vI x2)]) rfl rfl rfl rfl ?_
      refine t_X1_placeAnywhere_19 xs e q X hX _ (fun x1 x3 d2 d4 s1 h => ?_) 400 x1 x3 x2 (some (vI x2)) s h
      refine r_iconst hX (p2 := 55) rfl rfl rfl ?_
      refine r_istore_n hX (p2 := 56) (ls2 := [some (vR (cc 1 0)), some (vI x1), some (vI 1), some (vI x3), d4]) rfl rfl rfl rfl ?_
      obtain ⟨c2, h⟩ := ck_some h
      refine r_iinc hX (p2 := 59) (ls2 := [some (vR (cc 1 0)), some (vI x1), some (vI 1), some (vI (x3 + 1)), d4]) rfl rfl rfl rfl c2 rfl ?_
      refine r_goto hX (p2 := 10) rfl (by decide) ?_
      exact ih x1 1 (x3 + 1) d4 s1 h
noncomputable def f_X1_placeAnywhere (a1 : Int) (s : pS) : Option (pS) := bs ((sI s 106 0)) (fun v1 => bs ((sI s 105 0)) (fun v2 => f_X1_placeAnywhere_10 (fun s3 => some s3) 400 a1 v1 v2 s))
set_option maxRecDepth 10000 in
theorem c_X1_placeAnywhere (xs : Nat → Int) (e : Nat) (a1 : Int) (s : pS) (q : pS) (h : f_X1_placeAnywhere a1 s = some q) : pCall pm_tx 1001 xs pm_P (e + 3 + 1) 13 [vR (cc 1 0), vI a1] (pW s) (.inl none) (pW q) := by
  refine pCall_of mX1_placeAnywhere rfl rfl (fun X hX => ?_)
  show X [some (vR (cc 1 0)), some (vI a1), none, none, none] [] 0 (pW s)
  replace hX : pm_clo 1001 xs (pCall pm_tx 1001 xs pm_P (e + 3)) (e + 3) mX1_placeAnywhere (eU q) X := hX
  unfold f_X1_placeAnywhere at h
  refine r_aload_n hX (p2 := 1) rfl rfl rfl ⟨_, Or.inl rfl⟩ ?_
  refine r_gf hX (p2 := 4) (v := vI (sI s 106 0)) rfl rfl (hc1 0 (by decide)) rfl rfl rfl ?_
  obtain ⟨v1, hv1, h⟩ := bs_some h
  refine r_istoreE_n hX (p2 := 5) (ls2 := [some (vR (cc 1 0)), some (vI a1), some (vI v1), none, none]) rfl rfl hv1 rfl rfl ?_
  refine r_aload_n hX (p2 := 6) rfl rfl rfl ⟨_, Or.inl rfl⟩ ?_
  refine r_gf hX (p2 := 9) (v := vI (sI s 105 0)) rfl rfl (hc1 0 (by decide)) rfl rfl rfl ?_
  obtain ⟨v2, hv2, h⟩ := bs_some h
  refine r_istoreE_n hX (p2 := 10) (ls2 := [some (vR (cc 1 0)), some (vI a1), some (vI v1), some (vI v2), none]) rfl rfl hv2 rfl rfl ?_
  refine t_X1_placeAnywhere_10 xs e q X hX _ (fun d0 d1 d2 d3 d4 s3 h => ?_) 400 a1 v1 v2 none s h
  exact r_return hX rfl rfl (eU_ok h)
noncomputable def f_X1_placeOnOtherLine_25 (K58 : pS → Option (pS)) : Nat → Int → Int → Int → pS → Option (pS)
  | 0, _, _, _, _ => none
  | n + 1, x1, x2, x4, s => (if 12 < x4 then K58 s else (f_X1_isOpen x1 x4 x2 s).bind (fun q1 => (if q1.1 = 0 then ck (inR (x4 + 1)) (f_X1_placeOnOtherLine_25 K58 n x1 x2 (x4 + 1) q1.2) else (f_X1_settleAtCursor x1 x4 x2 q1.2).bind (fun q3 => some q3))))
set_option maxRecDepth 10000 in
theorem t_X1_placeOnOtherLine_25 (xs : Nat → Int) (e : Nat) (q : pS) (X : List (Option pV) → List pV → Nat → pH → Prop) (hX : pm_clo 1001 xs (pCall pm_tx 1001 xs pm_P (e + 3)) (e + 3) mX1_placeOnOtherLine (eU q) X) (K58 : pS → Option (pS)) (hK58 : ∀ (d0 : Option pV) (d1 : Option pV) (d2 : Option pV) (d3 : Option pV) (d4 : Option pV) (s : pS), K58 s = some q → X [d0, d1, d2, d3, d4] [] 58 (pW s)) : ∀ (n : Nat) (x1 : Int) (x2 : Int) (x4 : Int) (d3 : Option pV) (hd3 : pm_nc d3) (s : pS), f_X1_placeOnOtherLine_25 K58 n x1 x2 x4 s = some q → X [some (vR (cc 1 0)), some (vI x1), some (vI x2), d3, some (vI x4)] [] 25 (pW s) := by
  intro n
  induction n with
  | zero =>
    intro x1 x2 x4 d3 hd3 s h
    rw [f_X1_placeOnOtherLine_25] at h
    cases h
  | succ n ih =>
    intro x1 x2 x4 d3 hd3 s h
    rw [f_X1_placeOnOtherLine_25] at h
    refine r_iload hX (p2 := 27) rfl rfl rfl ?_
    refine r_bipush hX (p2 := 29) rfl rfl rfl ?_
    refine r_icmp hX (p2 := 58) (p3 := 32) (P := 12 < x4) rfl (by decide) rfl rfl (fun p5 => ?_) (fun p5 => ?_)
    · have h := it_pos h p5
      exact hK58 (some (vR (cc 1 0))) (some (vI x1)) (some (vI x2)) d3 (some (vI x4)) s h
    · have h := it_neg h p5
      refine r_aload_n hX (p2 := 33) rfl rfl rfl ⟨_, Or.inl rfl⟩ ?_
      refine r_iload_n hX (p2 := 34) rfl rfl rfl ?_
      refine r_iload hX (p2 := 36) rfl rfl rfl ?_
      refine r_iload_n hX (p2 := 37) rfl rfl rfl ?_
      obtain ⟨q1, hq1, h⟩ := bd_some h
      refine r_callv hX (p2 := 40) (v := some (vI q1.1)) (as := [vI x1, vI x4, vI x2]) (r := []) (st2 := [vI q1.1]) rfl rfl rfl rfl rfl (hc1 0 (by decide)) rfl rfl (c_X1_isOpen xs (e + 1) x1 x4 x2 s q1 hq1) ?_
      refine r_if hX (p2 := 52) (p3 := 43) (P := q1.1 = 0) rfl (by decide) rfl rfl (fun p4 => ?_) (fun p4 => ?_)
      · have h := it_pos h p4
        obtain ⟨c2, h⟩ := ck_some h
        refine r_iinc hX (p2 := 55) (ls2 := [some (vR (cc 1 0)), some (vI x1), some (vI x2), d3, some (vI (x4 + 1))]) rfl rfl rfl rfl c2 (st1_nc rfl hd3 rfl) ?_
        refine r_goto hX (p2 := 25) rfl (by decide) ?_
        exact ih x1 x2 (x4 + 1) d3 hd3 q1.2 h
      · have h := it_neg h p4
        refine r_aload_n hX (p2 := 44) rfl rfl rfl ⟨_, Or.inl rfl⟩ ?_
        refine r_iload_n hX (p2 := 45) rfl rfl rfl ?_
        refine r_iload hX (p2 := 47) rfl rfl rfl ?_
        refine r_iload_n hX (p2 := 48) rfl rfl rfl ?_
        obtain ⟨q3, hq3, h⟩ := bd_some h
        refine r_callv hX (p2 := 51) (v := none) (as := [vI x1, vI x4, vI x2]) (r := []) (st2 := []) rfl rfl rfl rfl rfl (hc1 0 (by decide)) rfl rfl (c_X1_settleAtCursor xs e x1 x4 x2 q1.2 q3 hq3) ?_
        exact r_return hX rfl rfl (eU_ok h)
noncomputable def f_X1_placeOnOtherLine_21 (x1 : Int) (x2 : Int) (y0 : Int) (s : pS) : Option (pS) := f_X1_placeOnOtherLine_25 (fun s1 => some s1) 400 x1 x2 y0 s
set_option maxRecDepth 10000 in
theorem t_X1_placeOnOtherLine_21 (xs : Nat → Int) (e : Nat) (q : pS) (X : List (Option pV) → List pV → Nat → pH → Prop) (hX : pm_clo 1001 xs (pCall pm_tx 1001 xs pm_P (e + 3)) (e + 3) mX1_placeOnOtherLine (eU q) X) : ∀  (x1 : Int) (x2 : Int) (y0 : Int) (d3 : Option pV) (d4 : Option pV) (s : pS), f_X1_placeOnOtherLine_21 x1 x2 y0 s = some q → X [some (vR (cc 1 0)), some (vI x1), some (vI x2), d3, d4] [vI y0] 21 (pW s) := by
  intro x1 x2 y0 d3 d4 s h
  unfold f_X1_placeOnOtherLine_21 at h
  refine r_istore_n hX (p2 := 22) (ls2 := [some (vR (cc 1 0)), some (vI x1), some (vI x2), some (vI y0), d4]) rfl rfl rfl rfl ?_
  refine r_iload_n hX (p2 := 23) rfl rfl rfl ?_
  refine r_istore hX (p2 := 25) (ls2 := [some (vR (cc 1 0)), some (vI x1), some (vI x2), some (vI y0), some (vI y0)]) rfl rfl rfl rfl ?_
  refine t_X1_placeOnOtherLine_25 xs e q X hX _ (fun d0 d1 d2 d3 d4 s1 h => ?_) 400 x1 x2 y0 (some (vI y0)) rfl s h
  exact r_return hX rfl rfl (eU_ok h)
noncomputable def f_X1_placeOnOtherLine (a1 : Int) (a2 : Int) (s : pS) : Option (pS) := (if (sI s 106 0) ≤ a2 then f_X1_placeOnOtherLine_21 a1 a2 (sI s 105 0) s else ck (inR ((sI s 105 0) + 1)) (f_X1_placeOnOtherLine_21 a1 a2 ((sI s 105 0) + 1) s))
set_option maxRecDepth 10000 in
theorem c_X1_placeOnOtherLine (xs : Nat → Int) (e : Nat) (a1 : Int) (a2 : Int) (s : pS) (q : pS) (h : f_X1_placeOnOtherLine a1 a2 s = some q) : pCall pm_tx 1001 xs pm_P (e + 3 + 1) 12 [vR (cc 1 0), vI a1, vI a2] (pW s) (.inl none) (pW q) := by
  refine pCall_of mX1_placeOnOtherLine rfl rfl (fun X hX => ?_)
  show X [some (vR (cc 1 0)), some (vI a1), some (vI a2), none, none] [] 0 (pW s)
  replace hX : pm_clo 1001 xs (pCall pm_tx 1001 xs pm_P (e + 3)) (e + 3) mX1_placeOnOtherLine (eU q) X := hX
  unfold f_X1_placeOnOtherLine at h
  refine r_iload_n hX (p2 := 1) rfl rfl rfl ?_
  refine r_aload_n hX (p2 := 2) rfl rfl rfl ⟨_, Or.inl rfl⟩ ?_
  refine r_gf hX (p2 := 5) (v := vI (sI s 106 0)) rfl rfl (hc1 0 (by decide)) rfl rfl rfl ?_
  refine r_icmp hX (p2 := 17) (p3 := 8) (P := (sI s 106 0) ≤ a2) rfl (by decide) rfl rfl (fun p2 => ?_) (fun p2 => ?_)
  · have h := it_pos h p2
    refine r_aload_n hX (p2 := 18) rfl rfl rfl ⟨_, Or.inl rfl⟩ ?_
    refine r_gf hX (p2 := 21) (v := vI (sI s 105 0)) rfl rfl (hc1 0 (by decide)) rfl rfl rfl ?_
    exact t_X1_placeOnOtherLine_21 xs e q X hX a1 a2 (sI s 105 0) none none s h
  · have h := it_neg h p2
    refine r_aload_n hX (p2 := 9) rfl rfl rfl ⟨_, Or.inl rfl⟩ ?_
    refine r_gf hX (p2 := 12) (v := vI (sI s 105 0)) rfl rfl (hc1 0 (by decide)) rfl rfl rfl ?_
    refine r_iconst hX (p2 := 13) rfl rfl rfl ?_
    obtain ⟨c1, h⟩ := ck_some h
    refine r_iadd hX (p2 := 14) rfl rfl c1 ?_
    refine r_goto hX (p2 := 21) rfl (by decide) ?_
    exact t_X1_placeOnOtherLine_21 xs e q X hX a1 a2 ((sI s 105 0) + 1) none none s h
