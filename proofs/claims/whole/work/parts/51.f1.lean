/-! ===== THE METHODS AS FUNCTIONS (written by wip/whole/gen_fun.py) ===== -/
noncomputable def f_X6_isRepeat_46 (x2 : Int) (x4 : Int) (s : pS) : Option (Int × pS) := ck (x4 = 0 ∨ x4 = 1) (some (x4, s))
set_option maxRecDepth 10000 in
theorem t_X6_isRepeat_46 (xs : Nat → Int) (e : Nat) (q : Int × pS) (X : List (Option pV) → List pV → Nat → pH → Prop) (hX : pm_clo 1001 xs (pCall pm_tx 1001 xs pm_P (e + 2)) (e + 2) mX6_isRepeat (eI q) X) : ∀  (x2 : Int) (x4 : Int) (d0 : Option pV) (d1 : Option pV) (s : pS), f_X6_isRepeat_46 x2 x4 s = some q → X [d0, d1, some (vL x2), none, some (vI x4)] [] 46 (pW s) := by
  intro x2 x4 d0 d1 s h
  unfold f_X6_isRepeat_46 at h
  refine r_iload hX (p2 := 48) rfl rfl rfl ?_
  obtain ⟨c1, h⟩ := ck_some h
  exact r_iretZ hX rfl rfl c1 (eI_ok h)
noncomputable def f_X6_isRepeat_34 (x1 : Int) (x2 : Int) (y0 : Int) (s : pS) : Option (Int × pS) := (if y0 ≠ 0 then f_X6_isRepeat_46 x2 y0 s else bs (wI s 609 0 x1) (fun s1 => f_X6_isRepeat_46 x2 y0 s1))
set_option maxRecDepth 10000 in
theorem t_X6_isRepeat_34 (xs : Nat → Int) (e : Nat) (q : Int × pS) (X : List (Option pV) → List pV → Nat → pH → Prop) (hX : pm_clo 1001 xs (pCall pm_tx 1001 xs pm_P (e + 2)) (e + 2) mX6_isRepeat (eI q) X) : ∀  (x1 : Int) (x2 : Int) (y0 : Int) (d4 : Option pV) (s : pS), f_X6_isRepeat_34 x1 x2 y0 s = some q → X [some (vR (cc 6 0)), some (vI x1), some (vL x2), none, d4] [vI y0] 34 (pW s) := by
  intro x1 x2 y0 d4 s h
  unfold f_X6_isRepeat_34 at h
  refine r_istore hX (p2 := 36) (ls2 := [some (vR (cc 6 0)), some (vI x1), some (vL x2), none, some (vI y0)]) rfl rfl rfl rfl ?_
  refine r_iload hX (p2 := 38) rfl rfl rfl ?_
  refine r_if hX (p2 := 46) (p3 := 41) (P := y0 ≠ 0) rfl (by decide) rfl rfl (fun p2 => ?_) (fun p2 => ?_)
  · have h := it_pos h p2
    exact t_X6_isRepeat_46 xs e q X hX x2 y0 (some (vR (cc 6 0))) (some (vI x1)) s h
  · have h := it_neg h p2
    refine r_aload_n hX (p2 := 42) rfl rfl rfl ⟨_, Or.inl rfl⟩ ?_
    refine r_iload_n hX (p2 := 43) rfl rfl rfl ?_
    obtain ⟨s1, hs1, h⟩ := bs_some h
    refine r_pfI hX (p2 := 46) rfl rfl (hc6 0 (by decide)) rfl rfl rfl rfl rfl rfl hs1 ?_
    exact t_X6_isRepeat_46 xs e q X hX x2 y0 (some (vR (cc 6 0))) (some (vI x1)) s1 h
noncomputable def f_X6_isRepeat_33 (x1 : Int) (x2 : Int) (s : pS) : Option (Int × pS) := f_X6_isRepeat_34 x1 x2 0 s
set_option maxRecDepth 10000 in
theorem t_X6_isRepeat_33 (xs : Nat → Int) (e : Nat) (q : Int × pS) (X : List (Option pV) → List pV → Nat → pH → Prop) (hX : pm_clo 1001 xs (pCall pm_tx 1001 xs pm_P (e + 2)) (e + 2) mX6_isRepeat (eI q) X) : ∀  (x1 : Int) (x2 : Int) (d4 : Option pV) (s : pS), f_X6_isRepeat_33 x1 x2 s = some q → X [some (vR (cc 6 0)), some (vI x1), some (vL x2), none, d4] [] 33 (pW s) := by
  intro x1 x2 d4 s h
  unfold f_X6_isRepeat_33 at h
  refine r_iconst hX (p2 := 34) rfl rfl rfl ?_
  exact t_X6_isRepeat_34 xs e q X hX x1 x2 0 d4 s h
noncomputable def f_X6_isRepeat (s : pS) : Option (Int × pS) := bs ((sI s 609 0)) (fun v1 => (f_X6_word s).bind (fun q2 => (if (pm_lc q2.1 609752116) ≠ 0 then f_X6_isRepeat_33 v1 q2.1 q2.2 else (if (sI q2.2 610 0) ≤ (sI q2.2 609 0) then f_X6_isRepeat_33 v1 q2.1 q2.2 else f_X6_isRepeat_34 v1 q2.1 1 q2.2))))
set_option maxRecDepth 10000 in
theorem c_X6_isRepeat (xs : Nat → Int) (e : Nat) (s : pS) (q : Int × pS) (h : f_X6_isRepeat s = some q) : pCall pm_tx 1001 xs pm_P (e + 2 + 1) 118 [vR (cc 6 0)] (pW s) (.inl (some (vI q.1))) (pW q.2) := by
  refine pCall_of mX6_isRepeat rfl rfl (fun X hX => ?_)
  show X [some (vR (cc 6 0)), none, none, none, none] [] 0 (pW s)
  replace hX : pm_clo 1001 xs (pCall pm_tx 1001 xs pm_P (e + 2)) (e + 2) mX6_isRepeat (eI q) X := hX
  unfold f_X6_isRepeat at h
  refine r_aload_n hX (p2 := 1) rfl rfl rfl ⟨_, Or.inl rfl⟩ ?_
  refine r_gf hX (p2 := 4) (v := vI (sI s 609 0)) rfl rfl (hc6 0 (by decide)) rfl rfl rfl ?_
  obtain ⟨v1, hv1, h⟩ := bs_some h
  refine r_istoreE_n hX (p2 := 5) (ls2 := [some (vR (cc 6 0)), some (vI v1), none, none, none]) rfl rfl hv1 rfl rfl ?_
  refine r_aload_n hX (p2 := 6) rfl rfl rfl ⟨_, Or.inl rfl⟩ ?_
  obtain ⟨q2, hq2, h⟩ := bd_some h
  refine r_callv hX (p2 := 9) (v := some (vL q2.1)) (as := []) (r := []) (st2 := [vL q2.1]) rfl rfl rfl rfl rfl (hc6 0 (by decide)) rfl rfl (c_X6_word xs e s q2 hq2) ?_
  refine r_lstore_n hX (p2 := 10) (ls2 := [some (vR (cc 6 0)), some (vI v1), some (vL q2.1), none, none]) rfl rfl rfl rfl ?_
  refine r_lload_n hX (p2 := 11) rfl rfl rfl ?_
  refine r_ldc2 hX (p2 := 14) (x := 609752116) rfl rfl rfl rfl ?_
  refine r_lcmp hX (p2 := 15) rfl rfl ?_
  refine r_if hX (p2 := 33) (p3 := 18) (P := (pm_lc q2.1 609752116) ≠ 0) rfl (by decide) rfl rfl (fun p4 => ?_) (fun p4 => ?_)
  · have h := it_pos h p4
    exact t_X6_isRepeat_33 xs e q X hX v1 q2.1 none q2.2 h
  · have h := it_neg h p4
    refine r_aload_n hX (p2 := 19) rfl rfl rfl ⟨_, Or.inl rfl⟩ ?_
    refine r_gf hX (p2 := 22) (v := vI (sI q2.2 609 0)) rfl rfl (hc6 0 (by decide)) rfl rfl rfl ?_
    refine r_aload_n hX (p2 := 23) rfl rfl rfl ⟨_, Or.inl rfl⟩ ?_
    refine r_gf hX (p2 := 26) (v := vI (sI q2.2 610 0)) rfl rfl (hc6 0 (by decide)) rfl rfl rfl ?_
    refine r_icmp hX (p2 := 33) (p3 := 29) (P := (sI q2.2 610 0) ≤ (sI q2.2 609 0)) rfl (by decide) rfl rfl (fun p3 => ?_) (fun p3 => ?_)
    · have h := it_pos h p3
      exact t_X6_isRepeat_33 xs e q X hX v1 q2.1 none q2.2 h
    · have h := it_neg h p3
      refine r_iconst hX (p2 := 30) rfl rfl rfl ?_
      refine r_goto hX (p2 := 34) rfl (by decide) ?_
      exact t_X6_isRepeat_34 xs e q X hX v1 q2.1 1 none q2.2 h
noncomputable def f_X6_simple_37 (x0 : Int) (y0 : Int) (s : pS) : Option (Int × pS) := some (y0, s)
set_option maxRecDepth 10000 in
theorem t_X6_simple_37 (xs : Nat → Int) (e : Nat) (q : Int × pS) (X : List (Option pV) → List pV → Nat → pH → Prop) (hX : pm_clo 1001 xs (pCall pm_tx 1001 xs pm_P e) e mX6_simple (eI q) X) : ∀  (x0 : Int) (y0 : Int) (s : pS), f_X6_simple_37 x0 y0 s = some q → X [some (vL x0), none] [vI y0] 37 (pW s) := by
  intro x0 y0 s h
  unfold f_X6_simple_37 at h
  exact r_iretI hX rfl rfl (eI_ok h)
noncomputable def f_X6_simple (a0 : Int) (s : pS) : Option (Int × pS) := (if (pm_lc a0 54927) ≠ 0 then (if (pm_lc a0 13614) ≠ 0 then (if (pm_lc a0 13368) ≠ 0 then f_X6_simple_37 a0 (-1) s else f_X6_simple_37 a0 2 s) else f_X6_simple_37 a0 1 s) else f_X6_simple_37 a0 3 s)
set_option maxRecDepth 10000 in
theorem c_X6_simple (xs : Nat → Int) (e : Nat) (a0 : Int) (s : pS) (q : Int × pS) (h : f_X6_simple a0 s = some q) : pCall pm_tx 1001 xs pm_P (e + 1) 112 [vL a0] (pW s) (.inl (some (vI q.1))) (pW q.2) := by
  refine pCall_of mX6_simple rfl rfl (fun X hX => ?_)
  show X [some (vL a0), none] [] 0 (pW s)
  replace hX : pm_clo 1001 xs (pCall pm_tx 1001 xs pm_P e) e mX6_simple (eI q) X := hX
  unfold f_X6_simple at h
  refine r_lload_n hX (p2 := 1) rfl rfl rfl ?_
  refine r_ldc2 hX (p2 := 4) (x := 54927) rfl rfl rfl rfl ?_
  refine r_lcmp hX (p2 := 5) rfl rfl ?_
  refine r_if hX (p2 := 12) (p3 := 8) (P := (pm_lc a0 54927) ≠ 0) rfl (by decide) rfl rfl (fun p3 => ?_) (fun p3 => ?_)
  · have h := it_pos h p3
    refine r_lload_n hX (p2 := 13) rfl rfl rfl ?_
    refine r_ldc2 hX (p2 := 16) (x := 13614) rfl rfl rfl rfl ?_
    refine r_lcmp hX (p2 := 17) rfl rfl ?_
    refine r_if hX (p2 := 24) (p3 := 20) (P := (pm_lc a0 13614) ≠ 0) rfl (by decide) rfl rfl (fun p2 => ?_) (fun p2 => ?_)
    · have h := it_pos h p2
      refine r_lload_n hX (p2 := 25) rfl rfl rfl ?_
      refine r_ldc2 hX (p2 := 28) (x := 13368) rfl rfl rfl rfl ?_
      refine r_lcmp hX (p2 := 29) rfl rfl ?_
      refine r_if hX (p2 := 36) (p3 := 32) (P := (pm_lc a0 13368) ≠ 0) rfl (by decide) rfl rfl (fun p1 => ?_) (fun p1 => ?_)
      · have h := it_pos h p1
        refine r_iconst hX (p2 := 37) rfl rfl rfl ?_
        exact t_X6_simple_37 xs e q X hX a0 (-1) s h
      · have h := it_neg h p1
        refine r_iconst hX (p2 := 33) rfl rfl rfl ?_
        refine r_goto hX (p2 := 37) rfl (by decide) ?_
        exact t_X6_simple_37 xs e q X hX a0 2 s h
    · have h := it_neg h p2
      refine r_iconst hX (p2 := 21) rfl rfl rfl ?_
      refine r_goto hX (p2 := 37) rfl (by decide) ?_
      exact t_X6_simple_37 xs e q X hX a0 1 s h
  · have h := it_neg h p3
    refine r_iconst hX (p2 := 9) rfl rfl rfl ?_
    refine r_goto hX (p2 := 37) rfl (by decide) ?_
    exact t_X6_simple_37 xs e q X hX a0 3 s h
noncomputable def f_X6_takes (a1 : Int) (s : pS) : Option (Int × pS) := (if (sI s 609 0) ≠ (sI s 610 0) then ck (0 ≤ (sI s 609 0) ∧ (sI s 609 0) < 41) ((if (sA s 602 0 (sI s 609 0).toNat) = a1 then ck (inR ((sI s 609 0) + 1)) (bs (wI s 609 0 ((sI s 609 0) + 1)) (fun s3 => some (1, s3))) else bs (wI s 611 0 0) (fun s4 => some (0, s4)))) else bs (wI s 611 0 1) (fun s6 => some (0, s6)))
set_option maxRecDepth 10000 in
theorem c_X6_takes (xs : Nat → Int) (e : Nat) (a1 : Int) (s : pS) (q : Int × pS) (h : f_X6_takes a1 s = some q) : pCall pm_tx 1001 xs pm_P (e + 1) 107 [vR (cc 6 0), vI a1] (pW s) (.inl (some (vI q.1))) (pW q.2) := by
  refine pCall_of mX6_takes rfl rfl (fun X hX => ?_)
  show X [some (vR (cc 6 0)), some (vI a1)] [] 0 (pW s)
  replace hX : pm_clo 1001 xs (pCall pm_tx 1001 xs pm_P e) e mX6_takes (eI q) X := hX
  unfold f_X6_takes at h
  refine r_aload_n hX (p2 := 1) rfl rfl rfl ⟨_, Or.inl rfl⟩ ?_
  refine r_gf hX (p2 := 4) (v := vI (sI s 609 0)) rfl rfl (hc6 0 (by decide)) rfl rfl rfl ?_
  refine r_aload_n hX (p2 := 5) rfl rfl rfl ⟨_, Or.inl rfl⟩ ?_
  refine r_gf hX (p2 := 8) (v := vI (sI s 610 0)) rfl rfl (hc6 0 (by decide)) rfl rfl rfl ?_
  refine r_icmp hX (p2 := 18) (p3 := 11) (P := (sI s 609 0) ≠ (sI s 610 0)) rfl (by decide) rfl rfl (fun p7 => ?_) (fun p7 => ?_)
  · have h := it_pos h p7
    refine r_aload_n hX (p2 := 19) rfl rfl rfl ⟨_, Or.inl rfl⟩ ?_
    refine r_gf hX (p2 := 22) (v := vR (ca 602 0)) rfl rfl (hc6 0 (by decide)) rfl rfl rfl ?_
    refine r_aload_n hX (p2 := 23) rfl rfl rfl ⟨_, Or.inl rfl⟩ ?_
    refine r_gf hX (p2 := 26) (v := vI (sI s 609 0)) rfl rfl (hc6 0 (by decide)) rfl rfl rfl ?_
    obtain ⟨c1, h⟩ := ck_some h
    refine r_iaload hX (p2 := 27) (j := (sI s 609 0).toNat) rfl rfl (ha602 0 (by decide)) rfl rfl c1 rfl ?_
    refine r_iload_n hX (p2 := 28) rfl rfl rfl ?_
    refine r_icmp hX (p2 := 38) (p3 := 31) (P := (sA s 602 0 (sI s 609 0).toNat) = a1) rfl (by decide) rfl rfl (fun p5 => ?_) (fun p5 => ?_)
    · have h := it_pos h p5
      refine r_aload_n hX (p2 := 39) rfl rfl rfl ⟨_, Or.inl rfl⟩ ?_
      refine r_dup hX (p2 := 40) rfl rfl rfl ?_
      refine r_gf hX (p2 := 43) (v := vI (sI s 609 0)) rfl rfl (hc6 0 (by decide)) rfl rfl rfl ?_
      refine r_iconst hX (p2 := 44) rfl rfl rfl ?_
      obtain ⟨c2, h⟩ := ck_some h
      refine r_iadd hX (p2 := 45) rfl rfl c2 ?_
      obtain ⟨s3, hs3, h⟩ := bs_some h
      refine r_pfI hX (p2 := 48) rfl rfl (hc6 0 (by decide)) rfl rfl rfl rfl rfl rfl hs3 ?_
      refine r_iconst hX (p2 := 49) rfl rfl rfl ?_
      exact r_iretZ hX rfl rfl (Or.inr rfl) (eI_ok h)
    · have h := it_neg h p5
      refine r_aload_n hX (p2 := 32) rfl rfl rfl ⟨_, Or.inl rfl⟩ ?_
      refine r_iconst hX (p2 := 33) rfl rfl rfl ?_
      obtain ⟨s4, hs4, h⟩ := bs_some h
      refine r_pfI hX (p2 := 36) rfl rfl (hc6 0 (by decide)) rfl rfl rfl rfl rfl rfl hs4 ?_
      refine r_iconst hX (p2 := 37) rfl rfl rfl ?_
      exact r_iretZ hX rfl rfl (Or.inl rfl) (eI_ok h)
  · have h := it_neg h p7
    refine r_aload_n hX (p2 := 12) rfl rfl rfl ⟨_, Or.inl rfl⟩ ?_
    refine r_iconst hX (p2 := 13) rfl rfl rfl ?_
    obtain ⟨s6, hs6, h⟩ := bs_some h
    refine r_pfI hX (p2 := 16) rfl rfl (hc6 0 (by decide)) rfl rfl rfl rfl rfl rfl hs6 ?_
    refine r_iconst hX (p2 := 17) rfl rfl rfl ?_
    exact r_iretZ hX rfl rfl (Or.inl rfl) (eI_ok h)
noncomputable def f_X6_isDigit_23 (y0 : Int) (s : pS) : Option (Int × pS) := ck (y0 = 0 ∨ y0 = 1) (some (y0, s))
set_option maxRecDepth 10000 in
theorem t_X6_isDigit_23 (xs : Nat → Int) (e : Nat) (q : Int × pS) (X : List (Option pV) → List pV → Nat → pH → Prop) (hX : pm_clo 1001 xs (pCall pm_tx 1001 xs pm_P (e + 1)) (e + 1) mX6_isDigit (eI q) X) : ∀  (y0 : Int) (d0 : Option pV) (s : pS), f_X6_isDigit_23 y0 s = some q → X [d0] [vI y0] 23 (pW s) := by
  intro y0 d0 s h
  unfold f_X6_isDigit_23 at h
  obtain ⟨c1, h⟩ := ck_some h
  exact r_iretZ hX rfl rfl c1 (eI_ok h)
noncomputable def f_X6_isDigit_22 (s : pS) : Option (Int × pS) := f_X6_isDigit_23 0 s
set_option maxRecDepth 10000 in
theorem t_X6_isDigit_22 (xs : Nat → Int) (e : Nat) (q : Int × pS) (X : List (Option pV) → List pV → Nat → pH → Prop) (hX : pm_clo 1001 xs (pCall pm_tx 1001 xs pm_P (e + 1)) (e + 1) mX6_isDigit (eI q) X) : ∀  (d0 : Option pV) (s : pS), f_X6_isDigit_22 s = some q → X [d0] [] 22 (pW s) := by
  intro d0 s h
  unfold f_X6_isDigit_22 at h
  refine r_iconst hX (p2 := 23) rfl rfl rfl ?_
  exact t_X6_isDigit_23 xs e q X hX 0 d0 s h
noncomputable def f_X6_isDigit (s : pS) : Option (Int × pS) := (f_X6_now s).bind (fun q1 => (if q1.1 < 48 then f_X6_isDigit_22 q1.2 else (f_X6_now q1.2).bind (fun q2 => (if 57 < q2.1 then f_X6_isDigit_22 q2.2 else f_X6_isDigit_23 1 q2.2))))
set_option maxRecDepth 10000 in
theorem c_X6_isDigit (xs : Nat → Int) (e : Nat) (s : pS) (q : Int × pS) (h : f_X6_isDigit s = some q) : pCall pm_tx 1001 xs pm_P (e + 1 + 1) 105 [vR (cc 6 0)] (pW s) (.inl (some (vI q.1))) (pW q.2) := by
  refine pCall_of mX6_isDigit rfl rfl (fun X hX => ?_)
  show X [some (vR (cc 6 0))] [] 0 (pW s)
  replace hX : pm_clo 1001 xs (pCall pm_tx 1001 xs pm_P (e + 1)) (e + 1) mX6_isDigit (eI q) X := hX
  unfold f_X6_isDigit at h
  refine r_aload_n hX (p2 := 1) rfl rfl rfl ⟨_, Or.inl rfl⟩ ?_
  obtain ⟨q1, hq1, h⟩ := bd_some h
  refine r_callv hX (p2 := 4) (v := some (vI q1.1)) (as := []) (r := []) (st2 := [vI q1.1]) rfl rfl rfl rfl rfl (hc6 0 (by decide)) rfl rfl (c_X6_now xs e s q1 hq1) ?_
  refine r_bipush hX (p2 := 6) rfl rfl rfl ?_
  refine r_icmp hX (p2 := 22) (p3 := 9) (P := q1.1 < 48) rfl (by decide) rfl rfl (fun p4 => ?_) (fun p4 => ?_)
  · have h := it_pos h p4
    exact t_X6_isDigit_22 xs e q X hX (some (vR (cc 6 0))) q1.2 h
  · have h := it_neg h p4
    refine r_aload_n hX (p2 := 10) rfl rfl rfl ⟨_, Or.inl rfl⟩ ?_
    obtain ⟨q2, hq2, h⟩ := bd_some h
    refine r_callv hX (p2 := 13) (v := some (vI q2.1)) (as := []) (r := []) (st2 := [vI q2.1]) rfl rfl rfl rfl rfl (hc6 0 (by decide)) rfl rfl (c_X6_now xs e q1.2 q2 hq2) ?_
    refine r_bipush hX (p2 := 15) rfl rfl rfl ?_
    refine r_icmp hX (p2 := 22) (p3 := 18) (P := 57 < q2.1) rfl (by decide) rfl rfl (fun p3 => ?_) (fun p3 => ?_)
    · have h := it_pos h p3
      exact t_X6_isDigit_22 xs e q X hX (some (vR (cc 6 0))) q2.2 h
    · have h := it_neg h p3
      refine r_iconst hX (p2 := 19) rfl rfl rfl ?_
      refine r_goto hX (p2 := 23) rfl (by decide) ?_
      exact t_X6_isDigit_23 xs e q X hX 1 (some (vR (cc 6 0))) q2.2 h
noncomputable def f_X6_digits_7 (K59 : Int → pS → Option (Int × pS)) : Nat → Int → Int → pS → Option (Int × pS)
  | 0, _, _, _ => none
  | n + 1, x1, x2, s => (if x1 ≤ x2 then K59 x2 s else (f_X6_isDigit s).bind (fun q1 => (if q1.1 = 0 then K59 x2 q1.2 else ck (inR (10 * (sI q1.2 613 0))) (ck (0 ≤ (sI q1.2 609 0) ∧ (sI q1.2 609 0) < 41) (ck (inR ((10 * (sI q1.2 613 0)) + (sA q1.2 602 0 (sI q1.2 609 0).toNat))) (ck (inR (((10 * (sI q1.2 613 0)) + (sA q1.2 602 0 (sI q1.2 609 0).toNat)) - 48)) (bs (wI q1.2 613 0 (((10 * (sI q1.2 613 0)) + (sA q1.2 602 0 (sI q1.2 609 0).toNat)) - 48)) (fun s6 => ck (inR ((sI s6 609 0) + 1)) (bs (wI s6 609 0 ((sI s6 609 0) + 1)) (fun s8 => ck (inR (x2 + 1)) (f_X6_digits_7 K59 n x1 (x2 + 1) s8)))))))))))
set_option maxRecDepth 10000 in
theorem t_X6_digits_7 (xs : Nat → Int) (e : Nat) (q : Int × pS) (X : List (Option pV) → List pV → Nat → pH → Prop) (hX : pm_clo 1001 xs (pCall pm_tx 1001 xs pm_P (e + 2)) (e + 2) mX6_digits (eI q) X) (K59 : Int → pS → Option (Int × pS)) (hK59 : ∀ (x2 : Int) (d1 : Option pV) (s : pS), K59 x2 s = some q → X [some (vR (cc 6 0)), d1, some (vI x2)] [] 59 (pW s)) : ∀ (n : Nat) (x1 : Int) (x2 : Int) (s : pS), f_X6_digits_7 K59 n x1 x2 s = some q → X [some (vR (cc 6 0)), some (vI x1), some (vI x2)] [] 7 (pW s) := by
  intro n
  induction n with
  | zero =>
    intro x1 x2 s h
    rw [f_X6_digits_7] at h
    cases h
  | succ n ih =>
    intro x1 x2 s h
    rw [f_X6_digits_7] at h
    refine r_iload_n hX (p2 := 8) rfl rfl rfl ?_
    refine r_iload_n hX (p2 := 9) rfl rfl rfl ?_
    refine r_icmp hX (p2 := 59) (p3 := 12) (P := x1 ≤ x2) rfl (by decide) rfl rfl (fun p11 => ?_) (fun p11 => ?_)
    · have h := it_pos h p11
      exact hK59 x2 (some (vI x1)) s h
    · have h := it_neg h p11
      refine r_aload_n hX (p2 := 13) rfl rfl rfl ⟨_, Or.inl rfl⟩ ?_
      obtain ⟨q1, hq1, h⟩ := bd_some h
      refine r_callv hX (p2 := 16) (v := some (vI q1.1)) (as := []) (r := []) (st2 := [vI q1.1]) rfl rfl rfl rfl rfl (hc6 0 (by decide)) rfl rfl (c_X6_isDigit xs e s q1 hq1) ?_
      refine r_if hX (p2 := 59) (p3 := 19) (P := q1.1 = 0) rfl (by decide) rfl rfl (fun p10 => ?_) (fun p10 => ?_)
      · have h := it_pos h p10
        exact hK59 x2 (some (vI x1)) q1.2 h
      · have h := it_neg h p10
        refine r_aload_n hX (p2 := 20) rfl rfl rfl ⟨_, Or.inl rfl⟩ ?_
        refine r_bipush hX (p2 := 22) rfl rfl rfl ?_
        refine r_aload_n hX (p2 := 23) rfl rfl rfl ⟨_, Or.inl rfl⟩ ?_
        refine r_gf hX (p2 := 26) (v := vI (sI q1.2 613 0)) rfl rfl (hc6 0 (by decide)) rfl rfl rfl ?_
        obtain ⟨c2, h⟩ := ck_some h
        refine r_imul hX (p2 := 27) rfl rfl c2 ?_
        refine r_aload_n hX (p2 := 28) rfl rfl rfl ⟨_, Or.inl rfl⟩ ?_
        refine r_gf hX (p2 := 31) (v := vR (ca 602 0)) rfl rfl (hc6 0 (by decide)) rfl rfl rfl ?_
        refine r_aload_n hX (p2 := 32) rfl rfl rfl ⟨_, Or.inl rfl⟩ ?_
        refine r_gf hX (p2 := 35) (v := vI (sI q1.2 609 0)) rfl rfl (hc6 0 (by decide)) rfl rfl rfl ?_
        obtain ⟨c3, h⟩ := ck_some h
        refine r_iaload hX (p2 := 36) (j := (sI q1.2 609 0).toNat) rfl rfl (ha602 0 (by decide)) rfl rfl c3 rfl ?_
        obtain ⟨c4, h⟩ := ck_some h
        refine r_iadd hX (p2 := 37) rfl rfl c4 ?_
        refine r_bipush hX (p2 := 39) rfl rfl rfl ?_
        obtain ⟨c5, h⟩ := ck_some h
        refine r_isub hX (p2 := 40) rfl rfl c5 ?_
        obtain ⟨s6, hs6, h⟩ := bs_some h
        refine r_pfI hX (p2 := 43) rfl rfl (hc6 0 (by decide)) rfl rfl rfl rfl rfl rfl hs6 ?_
        refine r_aload_n hX (p2 := 44) rfl rfl rfl ⟨_, Or.inl rfl⟩ ?_
        refine r_dup hX (p2 := 45) rfl rfl rfl ?_
        refine r_gf hX (p2 := 48) (v := vI (sI s6 609 0)) rfl rfl (hc6 0 (by decide)) rfl rfl rfl ?_
        refine r_iconst hX (p2 := 49) rfl rfl rfl ?_
        obtain ⟨c7, h⟩ := ck_some h
        refine r_iadd hX (p2 := 50) rfl rfl c7 ?_
        obtain ⟨s8, hs8, h⟩ := bs_some h
        refine r_pfI hX (p2 := 53) rfl rfl (hc6 0 (by decide)) rfl rfl rfl rfl rfl rfl hs8 ?_
        obtain ⟨c9, h⟩ := ck_some h
        refine r_iinc hX (p2 := 56) (ls2 := [some (vR (cc 6 0)), some (vI x1), some (vI (x2 + 1))]) rfl rfl rfl rfl c9 rfl ?_
        refine r_goto hX (p2 := 7) rfl (by decide) ?_
        exact ih x1 (x2 + 1) s8 h
noncomputable def f_X6_digits_83 (x2 : Int) (s : pS) : Option (Int × pS) := some (x2, s)
set_option maxRecDepth 10000 in
theorem t_X6_digits_83 (xs : Nat → Int) (e : Nat) (q : Int × pS) (X : List (Option pV) → List pV → Nat → pH → Prop) (hX : pm_clo 1001 xs (pCall pm_tx 1001 xs pm_P (e + 2)) (e + 2) mX6_digits (eI q) X) : ∀  (x2 : Int) (d0 : Option pV) (d1 : Option pV) (s : pS), f_X6_digits_83 x2 s = some q → X [d0, d1, some (vI x2)] [] 83 (pW s) := by
  intro x2 d0 d1 s h
  unfold f_X6_digits_83 at h
  refine r_iload_n hX (p2 := 84) rfl rfl rfl ?_
  exact r_iretI hX rfl rfl (eI_ok h)
noncomputable def f_X6_digits_80 (x2 : Int) (y1 : Int) (s : pS) : Option (Int × pS) := bs (wI s 611 0 y1) (fun s1 => f_X6_digits_83 x2 s1)
set_option maxRecDepth 10000 in
theorem t_X6_digits_80 (xs : Nat → Int) (e : Nat) (q : Int × pS) (X : List (Option pV) → List pV → Nat → pH → Prop) (hX : pm_clo 1001 xs (pCall pm_tx 1001 xs pm_P (e + 2)) (e + 2) mX6_digits (eI q) X) : ∀  (x2 : Int) (y1 : Int) (d0 : Option pV) (d1 : Option pV) (s : pS), f_X6_digits_80 x2 y1 s = some q → X [d0, d1, some (vI x2)] [vI y1, vR (cc 6 0)] 80 (pW s) := by
  intro x2 y1 d0 d1 s h
  unfold f_X6_digits_80 at h
  obtain ⟨s1, hs1, h⟩ := bs_some h
  refine r_pfI hX (p2 := 83) rfl rfl (hc6 0 (by decide)) rfl rfl rfl rfl rfl rfl hs1 ?_
  exact t_X6_digits_83 xs e q X hX x2 d0 d1 s1 h
noncomputable def f_X6_digits_59 (x2 : Int) (s : pS) : Option (Int × pS) := (if x2 ≠ 0 then f_X6_digits_83 x2 s else (if (sI s 609 0) ≠ (sI s 610 0) then f_X6_digits_80 x2 0 s else f_X6_digits_80 x2 1 s))
set_option maxRecDepth 10000 in
theorem t_X6_digits_59 (xs : Nat → Int) (e : Nat) (q : Int × pS) (X : List (Option pV) → List pV → Nat → pH → Prop) (hX : pm_clo 1001 xs (pCall pm_tx 1001 xs pm_P (e + 2)) (e + 2) mX6_digits (eI q) X) : ∀  (x2 : Int) (d1 : Option pV) (s : pS), f_X6_digits_59 x2 s = some q → X [some (vR (cc 6 0)), d1, some (vI x2)] [] 59 (pW s) := by
  intro x2 d1 s h
  unfold f_X6_digits_59 at h
  refine r_iload_n hX (p2 := 60) rfl rfl rfl ?_
  refine r_if hX (p2 := 83) (p3 := 63) (P := x2 ≠ 0) rfl (by decide) rfl rfl (fun p2 => ?_) (fun p2 => ?_)
  · have h := it_pos h p2
    exact t_X6_digits_83 xs e q X hX x2 (some (vR (cc 6 0))) d1 s h
  · have h := it_neg h p2
    refine r_aload_n hX (p2 := 64) rfl rfl rfl ⟨_, Or.inl rfl⟩ ?_
    refine r_aload_n hX (p2 := 65) rfl rfl rfl ⟨_, Or.inl rfl⟩ ?_
    refine r_gf hX (p2 := 68) (v := vI (sI s 609 0)) rfl rfl (hc6 0 (by decide)) rfl rfl rfl ?_
    refine r_aload_n hX (p2 := 69) rfl rfl rfl ⟨_, Or.inl rfl⟩ ?_
    refine r_gf hX (p2 := 72) (v := vI (sI s 610 0)) rfl rfl (hc6 0 (by decide)) rfl rfl rfl ?_
    refine r_icmp hX (p2 := 79) (p3 := 75) (P := (sI s 609 0) ≠ (sI s 610 0)) rfl (by decide) rfl rfl (fun p1 => ?_) (fun p1 => ?_)
    · have h := it_pos h p1
      refine r_iconst hX (p2 := 80) rfl rfl rfl ?_
      exact t_X6_digits_80 xs e q X hX x2 0 (some (vR (cc 6 0))) d1 s h
    · have h := it_neg h p1
      refine r_iconst hX (p2 := 76) rfl rfl rfl ?_
      refine r_goto hX (p2 := 80) rfl (by decide) ?_
      exact t_X6_digits_80 xs e q X hX x2 1 (some (vR (cc 6 0))) d1 s h
noncomputable def f_X6_digits (a1 : Int) (s : pS) : Option (Int × pS) := bs (wI s 613 0 0) (fun s1 => f_X6_digits_7 (fun x2 s2 => f_X6_digits_59 x2 s2) 400 a1 0 s1)
set_option maxRecDepth 10000 in
theorem c_X6_digits (xs : Nat → Int) (e : Nat) (a1 : Int) (s : pS) (q : Int × pS) (h : f_X6_digits a1 s = some q) : pCall pm_tx 1001 xs pm_P (e + 2 + 1) 108 [vR (cc 6 0), vI a1] (pW s) (.inl (some (vI q.1))) (pW q.2) := by
  refine pCall_of mX6_digits rfl rfl (fun X hX => ?_)
  show X [some (vR (cc 6 0)), some (vI a1), none] [] 0 (pW s)
  replace hX : pm_clo 1001 xs (pCall pm_tx 1001 xs pm_P (e + 2)) (e + 2) mX6_digits (eI q) X := hX
  unfold f_X6_digits at h
  refine r_iconst hX (p2 := 1) rfl rfl rfl ?_
  refine r_istore_n hX (p2 := 2) (ls2 := [some (vR (cc 6 0)), some (vI a1), some (vI 0)]) rfl rfl rfl rfl ?_
  refine r_aload_n hX (p2 := 3) rfl rfl rfl ⟨_, Or.inl rfl⟩ ?_
  refine r_iconst hX (p2 := 4) rfl rfl rfl ?_
  obtain ⟨s1, hs1, h⟩ := bs_some h
  refine r_pfI hX (p2 := 7) rfl rfl (hc6 0 (by decide)) rfl rfl rfl rfl rfl rfl hs1 ?_
  refine t_X6_digits_7 xs e q X hX _ (fun x2 d1 s2 h => ?_) 400 a1 0 s1 h
  exact t_X6_digits_59 xs e q X hX x2 d1 s2 h
noncomputable def f_X6_readNumber_84 (y1 : UInt32) (y2 : UInt32) (y3 : UInt32) (s : pS) : Option (Int × pS) := ck (vf_n32 (FP.fdiv y2 y3)) (ck (vf_n32 (FP.fadd y1 (FP.fdiv y2 y3))) (bs (wF s 614 0 (FP.fadd y1 (FP.fdiv y2 y3))) (fun s3 => some (1, s3))))
set_option maxRecDepth 10000 in
theorem t_X6_readNumber_84 (xs : Nat → Int) (e : Nat) (q : Int × pS) (X : List (Option pV) → List pV → Nat → pH → Prop) (hX : pm_clo 1001 xs (pCall pm_tx 1001 xs pm_P (e + 3)) (e + 3) mX6_readNumber (eI q) X) : ∀  (y1 : UInt32) (y2 : UInt32) (y3 : UInt32) (d0 : Option pV) (d1 : Option pV) (s : pS), f_X6_readNumber_84 y1 y2 y3 s = some q → X [d0, d1] [vF y3, vF y2, vF y1, vR (cc 6 0)] 84 (pW s) := by
  intro y1 y2 y3 d0 d1 s h
  unfold f_X6_readNumber_84 at h
  obtain ⟨c1, h⟩ := ck_some h
  refine r_fdiv hX (p2 := 85) rfl rfl c1 ?_
  obtain ⟨c2, h⟩ := ck_some h
  refine r_fadd hX (p2 := 86) rfl rfl c2 ?_
  obtain ⟨s3, hs3, h⟩ := bs_some h
  refine r_pfF hX (p2 := 89) rfl rfl (hc6 0 (by decide)) rfl rfl rfl rfl hs3 ?_
  refine r_iconst hX (p2 := 90) rfl rfl rfl ?_
  exact r_iretZ hX rfl rfl (Or.inr rfl) (eI_ok h)
noncomputable def f_X6_readNumber (s : pS) : Option (Int × pS) := (f_X6_digits 4 s).bind (fun q1 => (if q1.1 ≠ 0 then bs (wF q1.2 614 0 (FP.i2f (Int32.ofInt (sI q1.2 613 0)))) (fun s2 => (f_X6_now s2).bind (fun q3 => (if q3.1 = 46 then ck (inR ((sI q3.2 609 0) + 1)) (bs (wI q3.2 609 0 ((sI q3.2 609 0) + 1)) (fun s5 => (f_X6_digits 3 s5).bind (fun q6 => (if q6.1 ≠ 0 then (if q6.1 ≠ 1 then (if q6.1 ≠ 2 then f_X6_readNumber_84 (sF q6.2 614 0) (FP.i2f (Int32.ofInt (sI q6.2 613 0))) (UInt32.ofNat 1148846080) q6.2 else f_X6_readNumber_84 (sF q6.2 614 0) (FP.i2f (Int32.ofInt (sI q6.2 613 0))) (UInt32.ofNat 1120403456) q6.2) else f_X6_readNumber_84 (sF q6.2 614 0) (FP.i2f (Int32.ofInt (sI q6.2 613 0))) (UInt32.ofNat 1092616192) q6.2) else some (0, q6.2))))) else some (1, q3.2)))) else some (0, q1.2)))
set_option maxRecDepth 10000 in
theorem c_X6_readNumber (xs : Nat → Int) (e : Nat) (s : pS) (q : Int × pS) (h : f_X6_readNumber s = some q) : pCall pm_tx 1001 xs pm_P (e + 3 + 1) 109 [vR (cc 6 0)] (pW s) (.inl (some (vI q.1))) (pW q.2) := by
  refine pCall_of mX6_readNumber rfl rfl (fun X hX => ?_)
  show X [some (vR (cc 6 0)), none] [] 0 (pW s)
  replace hX : pm_clo 1001 xs (pCall pm_tx 1001 xs pm_P (e + 3)) (e + 3) mX6_readNumber (eI q) X := hX
  unfold f_X6_readNumber at h
  refine r_aload_n hX (p2 := 1) rfl rfl rfl ⟨_, Or.inl rfl⟩ ?_
  refine r_iconst hX (p2 := 2) rfl rfl rfl ?_
  obtain ⟨q1, hq1, h⟩ := bd_some h
  refine r_callv hX (p2 := 5) (v := some (vI q1.1)) (as := [vI 4]) (r := []) (st2 := [vI q1.1]) rfl rfl rfl rfl rfl (hc6 0 (by decide)) rfl rfl (c_X6_digits xs e 4 s q1 hq1) ?_
  refine r_if hX (p2 := 10) (p3 := 8) (P := q1.1 ≠ 0) rfl (by decide) rfl rfl (fun p11 => ?_) (fun p11 => ?_)
  · have h := it_pos h p11
    refine r_aload_n hX (p2 := 11) rfl rfl rfl ⟨_, Or.inl rfl⟩ ?_
    refine r_aload_n hX (p2 := 12) rfl rfl rfl ⟨_, Or.inl rfl⟩ ?_
    refine r_gf hX (p2 := 15) (v := vI (sI q1.2 613 0)) rfl rfl (hc6 0 (by decide)) rfl rfl rfl ?_
    refine r_i2f hX (p2 := 16) rfl rfl ?_
    obtain ⟨s2, hs2, h⟩ := bs_some h
    refine r_pfF hX (p2 := 19) rfl rfl (hc6 0 (by decide)) rfl rfl rfl rfl hs2 ?_
    refine r_aload_n hX (p2 := 20) rfl rfl rfl ⟨_, Or.inl rfl⟩ ?_
    obtain ⟨q3, hq3, h⟩ := bd_some h
    refine r_callv hX (p2 := 23) (v := some (vI q3.1)) (as := []) (r := []) (st2 := [vI q3.1]) rfl rfl rfl rfl rfl (hc6 0 (by decide)) rfl rfl (c_X6_now xs (e + 2) s2 q3 hq3) ?_
    refine r_bipush hX (p2 := 25) rfl rfl rfl ?_
    refine r_icmp hX (p2 := 30) (p3 := 28) (P := q3.1 = 46) rfl (by decide) rfl rfl (fun p10 => ?_) (fun p10 => ?_)
    · have h := it_pos h p10
      refine r_aload_n hX (p2 := 31) rfl rfl rfl ⟨_, Or.inl rfl⟩ ?_
      refine r_dup hX (p2 := 32) rfl rfl rfl ?_
      refine r_gf hX (p2 := 35) (v := vI (sI q3.2 609 0)) rfl rfl (hc6 0 (by decide)) rfl rfl rfl ?_
      refine r_iconst hX (p2 := 36) rfl rfl rfl ?_
      obtain ⟨c4, h⟩ := ck_some h
      refine r_iadd hX (p2 := 37) rfl rfl c4 ?_
      obtain ⟨s5, hs5, h⟩ := bs_some h
      refine r_pfI hX (p2 := 40) rfl rfl (hc6 0 (by decide)) rfl rfl rfl rfl rfl rfl hs5 ?_
      refine r_aload_n hX (p2 := 41) rfl rfl rfl ⟨_, Or.inl rfl⟩ ?_
      refine r_iconst hX (p2 := 42) rfl rfl rfl ?_
      obtain ⟨q6, hq6, h⟩ := bd_some h
      refine r_callv hX (p2 := 45) (v := some (vI q6.1)) (as := [vI 3]) (r := []) (st2 := [vI q6.1]) rfl rfl rfl rfl rfl (hc6 0 (by decide)) rfl rfl (c_X6_digits xs e 3 s5 q6 hq6) ?_
      refine r_istore_n hX (p2 := 46) (ls2 := [some (vR (cc 6 0)), some (vI q6.1)]) rfl rfl rfl rfl ?_
      refine r_iload_n hX (p2 := 47) rfl rfl rfl ?_
      refine r_if hX (p2 := 52) (p3 := 50) (P := q6.1 ≠ 0) rfl (by decide) rfl rfl (fun p9 => ?_) (fun p9 => ?_)
      · have h := it_pos h p9
        refine r_aload_n hX (p2 := 53) rfl rfl rfl ⟨_, Or.inl rfl⟩ ?_
        refine r_aload_n hX (p2 := 54) rfl rfl rfl ⟨_, Or.inl rfl⟩ ?_
        refine r_gf hX (p2 := 57) (v := vF (sF q6.2 614 0)) rfl rfl (hc6 0 (by decide)) rfl rfl rfl ?_
        refine r_aload_n hX (p2 := 58) rfl rfl rfl ⟨_, Or.inl rfl⟩ ?_
        refine r_gf hX (p2 := 61) (v := vI (sI q6.2 613 0)) rfl rfl (hc6 0 (by decide)) rfl rfl rfl ?_
        refine r_i2f hX (p2 := 62) rfl rfl ?_
        refine r_iload_n hX (p2 := 63) rfl rfl rfl ?_
        refine r_iconst hX (p2 := 64) rfl rfl rfl ?_
        refine r_icmp hX (p2 := 72) (p3 := 67) (P := q6.1 ≠ 1) rfl (by decide) rfl rfl (fun p8 => ?_) (fun p8 => ?_)
        · have h := it_pos h p8
          refine r_iload_n hX (p2 := 73) rfl rfl rfl ?_
          refine r_iconst hX (p2 := 74) rfl rfl rfl ?_
          refine r_icmp hX (p2 := 82) (p3 := 77) (P := q6.1 ≠ 2) rfl (by decide) rfl rfl (fun p7 => ?_) (fun p7 => ?_)
          · have h := it_pos h p7
            refine r_ldcF hX (p2 := 84) (x := UInt32.ofNat 1148846080) rfl rfl rfl rfl ?_
            exact t_X6_readNumber_84 xs e q X hX (sF q6.2 614 0) (FP.i2f (Int32.ofInt (sI q6.2 613 0))) (UInt32.ofNat 1148846080) (some (vR (cc 6 0))) (some (vI q6.1)) q6.2 h
          · have h := it_neg h p7
            refine r_ldcF hX (p2 := 79) (x := UInt32.ofNat 1120403456) rfl rfl rfl rfl ?_
            refine r_goto hX (p2 := 84) rfl (by decide) ?_
            exact t_X6_readNumber_84 xs e q X hX (sF q6.2 614 0) (FP.i2f (Int32.ofInt (sI q6.2 613 0))) (UInt32.ofNat 1120403456) (some (vR (cc 6 0))) (some (vI q6.1)) q6.2 h
        · have h := it_neg h p8
          refine r_ldcF hX (p2 := 69) (x := UInt32.ofNat 1092616192) rfl rfl rfl rfl ?_
          refine r_goto hX (p2 := 84) rfl (by decide) ?_
          exact t_X6_readNumber_84 xs e q X hX (sF q6.2 614 0) (FP.i2f (Int32.ofInt (sI q6.2 613 0))) (UInt32.ofNat 1092616192) (some (vR (cc 6 0))) (some (vI q6.1)) q6.2 h
      · have h := it_neg h p9
        refine r_iconst hX (p2 := 51) rfl rfl rfl ?_
        exact r_iretZ hX rfl rfl (Or.inl rfl) (eI_ok h)
    · have h := it_neg h p10
      refine r_iconst hX (p2 := 29) rfl rfl rfl ?_
      exact r_iretZ hX rfl rfl (Or.inr rfl) (eI_ok h)
  · have h := it_neg h p11
    refine r_iconst hX (p2 := 9) rfl rfl rfl ?_
    exact r_iretZ hX rfl rfl (Or.inl rfl) (eI_ok h)
noncomputable def f_X6_begins_3 (K27 : Int → Int → Int → pS → Option (Int × pS)) : Nat → Int → Int → Int → pS → Option (Int × pS)
  | 0, _, _, _, _ => none
  | n + 1, x0, x2, x4, s => (if (pm_lc x0 0) ≤ 0 then K27 x0 x2 x4 s else (if (pm_lc x4 x0) ≤ 0 then K27 x0 x2 x4 s else ck (0 ≤ x4 ∧ 0 < (32 : Int)) (bs ((x4 / 32)) (fun v2 => f_X6_begins_3 K27 n x0 x2 v2 s))))
set_option maxRecDepth 10000 in
theorem t_X6_begins_3 (xs : Nat → Int) (e : Nat) (q : Int × pS) (X : List (Option pV) → List pV → Nat → pH → Prop) (hX : pm_clo 1001 xs (pCall pm_tx 1001 xs pm_P e) e mX6_begins (eI q) X) (K27 : Int → Int → Int → pS → Option (Int × pS)) (hK27 : ∀ (x0 : Int) (x2 : Int) (x4 : Int) (s : pS), K27 x0 x2 x4 s = some q → X [some (vL x0), none, some (vL x2), none, some (vL x4), none] [] 27 (pW s)) : ∀ (n : Nat) (x0 : Int) (x2 : Int) (x4 : Int) (s : pS), f_X6_begins_3 K27 n x0 x2 x4 s = some q → X [some (vL x0), none, some (vL x2), none, some (vL x4), none] [] 3 (pW s) := by
  intro n
  induction n with
  | zero =>
    intro x0 x2 x4 s h
    rw [f_X6_begins_3] at h
    cases h
  | succ n ih =>
    intro x0 x2 x4 s h
    rw [f_X6_begins_3] at h
    refine r_lload_n hX (p2 := 4) rfl rfl rfl ?_
    refine r_lconst hX (p2 := 5) (x := 0) rfl rfl rfl ?_
    refine r_lcmp hX (p2 := 6) rfl rfl ?_
    refine r_if hX (p2 := 27) (p3 := 9) (P := (pm_lc x0 0) ≤ 0) rfl (by decide) rfl rfl (fun p4 => ?_) (fun p4 => ?_)
    · have h := it_pos h p4
      exact hK27 x0 x2 x4 s h
    · have h := it_neg h p4
      refine r_lload hX (p2 := 11) rfl rfl rfl ?_
      refine r_lload_n hX (p2 := 12) rfl rfl rfl ?_
      refine r_lcmp hX (p2 := 13) rfl rfl ?_
      refine r_if hX (p2 := 27) (p3 := 16) (P := (pm_lc x4 x0) ≤ 0) rfl (by decide) rfl rfl (fun p3 => ?_) (fun p3 => ?_)
      · have h := it_pos h p3
        exact hK27 x0 x2 x4 s h
      · have h := it_neg h p3
        refine r_lload hX (p2 := 18) rfl rfl rfl ?_
        refine r_ldc2 hX (p2 := 21) (x := 32) rfl rfl rfl rfl ?_
        obtain ⟨c1, h⟩ := ck_some h
        refine r_ldiv hX (p2 := 22) rfl rfl c1 ?_
        obtain ⟨v2, hv2, h⟩ := bs_some h
        refine r_lstoreE hX (p2 := 24) (ls2 := [some (vL x0), none, some (vL x2), none, some (vL v2), none]) rfl rfl hv2 rfl rfl ?_
        refine r_goto hX (p2 := 3) rfl (by decide) ?_
        exact ih x0 x2 v2 s h
noncomputable def f_X6_begins_39 (x0 : Int) (x2 : Int) (x4 : Int) (y0 : Int) (s : pS) : Option (Int × pS) := ck (y0 = 0 ∨ y0 = 1) (some (y0, s))
set_option maxRecDepth 10000 in
theorem t_X6_begins_39 (xs : Nat → Int) (e : Nat) (q : Int × pS) (X : List (Option pV) → List pV → Nat → pH → Prop) (hX : pm_clo 1001 xs (pCall pm_tx 1001 xs pm_P e) e mX6_begins (eI q) X) : ∀  (x0 : Int) (x2 : Int) (x4 : Int) (y0 : Int) (s : pS), f_X6_begins_39 x0 x2 x4 y0 s = some q → X [some (vL x0), none, some (vL x2), none, some (vL x4), none] [vI y0] 39 (pW s) := by
  intro x0 x2 x4 y0 s h
  unfold f_X6_begins_39 at h
  obtain ⟨c1, h⟩ := ck_some h
  exact r_iretZ hX rfl rfl c1 (eI_ok h)
noncomputable def f_X6_begins_27 (x0 : Int) (x2 : Int) (x4 : Int) (s : pS) : Option (Int × pS) := (if (pm_lc x4 x0) ≠ 0 then f_X6_begins_39 x0 x2 x4 0 s else f_X6_begins_39 x0 x2 x4 1 s)
set_option maxRecDepth 10000 in
theorem t_X6_begins_27 (xs : Nat → Int) (e : Nat) (q : Int × pS) (X : List (Option pV) → List pV → Nat → pH → Prop) (hX : pm_clo 1001 xs (pCall pm_tx 1001 xs pm_P e) e mX6_begins (eI q) X) : ∀  (x0 : Int) (x2 : Int) (x4 : Int) (s : pS), f_X6_begins_27 x0 x2 x4 s = some q → X [some (vL x0), none, some (vL x2), none, some (vL x4), none] [] 27 (pW s) := by
  intro x0 x2 x4 s h
  unfold f_X6_begins_27 at h
  refine r_lload hX (p2 := 29) rfl rfl rfl ?_
  refine r_lload_n hX (p2 := 30) rfl rfl rfl ?_
  refine r_lcmp hX (p2 := 31) rfl rfl ?_
  refine r_if hX (p2 := 38) (p3 := 34) (P := (pm_lc x4 x0) ≠ 0) rfl (by decide) rfl rfl (fun p1 => ?_) (fun p1 => ?_)
  · have h := it_pos h p1
    refine r_iconst hX (p2 := 39) rfl rfl rfl ?_
    exact t_X6_begins_39 xs e q X hX x0 x2 x4 0 s h
  · have h := it_neg h p1
    refine r_iconst hX (p2 := 35) rfl rfl rfl ?_
    refine r_goto hX (p2 := 39) rfl (by decide) ?_
    exact t_X6_begins_39 xs e q X hX x0 x2 x4 1 s h
noncomputable def f_X6_begins (a0 : Int) (a1 : Int) (s : pS) : Option (Int × pS) := f_X6_begins_3 (fun x0 x2 x4 s1 => f_X6_begins_27 x0 x2 x4 s1) 400 a0 a1 a1 s
set_option maxRecDepth 10000 in
theorem c_X6_begins (xs : Nat → Int) (e : Nat) (a0 : Int) (a1 : Int) (s : pS) (q : Int × pS) (h : f_X6_begins a0 a1 s = some q) : pCall pm_tx 1001 xs pm_P (e + 1) 111 [vL a0, vL a1] (pW s) (.inl (some (vI q.1))) (pW q.2) := by
  refine pCall_of mX6_begins rfl rfl (fun X hX => ?_)
  show X [some (vL a0), none, some (vL a1), none, none, none] [] 0 (pW s)
  replace hX : pm_clo 1001 xs (pCall pm_tx 1001 xs pm_P e) e mX6_begins (eI q) X := hX
  unfold f_X6_begins at h
  refine r_lload_n hX (p2 := 1) rfl rfl rfl ?_
  refine r_lstore hX (p2 := 3) (ls2 := [some (vL a0), none, some (vL a1), none, some (vL a1), none]) rfl rfl rfl rfl ?_
  refine t_X6_begins_3 xs e q X hX _ (fun x0 x2 x4 s1 h => ?_) 400 a0 a1 a1 s h
  exact t_X6_begins_27 xs e q X hX x0 x2 x4 s1 h
noncomputable def f_X6_beginsSimple_35 (x0 : Int) (y0 : Int) (s : pS) : Option (Int × pS) := ck (y0 = 0 ∨ y0 = 1) (some (y0, s))
set_option maxRecDepth 10000 in
theorem t_X6_beginsSimple_35 (xs : Nat → Int) (e : Nat) (q : Int × pS) (X : List (Option pV) → List pV → Nat → pH → Prop) (hX : pm_clo 1001 xs (pCall pm_tx 1001 xs pm_P (e + 1)) (e + 1) mX6_beginsSimple (eI q) X) : ∀  (x0 : Int) (y0 : Int) (s : pS), f_X6_beginsSimple_35 x0 y0 s = some q → X [some (vL x0), none] [vI y0] 35 (pW s) := by
  intro x0 y0 s h
  unfold f_X6_beginsSimple_35 at h
  obtain ⟨c1, h⟩ := ck_some h
  exact r_iretZ hX rfl rfl c1 (eI_ok h)
noncomputable def f_X6_beginsSimple_30 (x0 : Int) (s : pS) : Option (Int × pS) := f_X6_beginsSimple_35 x0 1 s
set_option maxRecDepth 10000 in
theorem t_X6_beginsSimple_30 (xs : Nat → Int) (e : Nat) (q : Int × pS) (X : List (Option pV) → List pV → Nat → pH → Prop) (hX : pm_clo 1001 xs (pCall pm_tx 1001 xs pm_P (e + 1)) (e + 1) mX6_beginsSimple (eI q) X) : ∀  (x0 : Int) (s : pS), f_X6_beginsSimple_30 x0 s = some q → X [some (vL x0), none] [] 30 (pW s) := by
  intro x0 s h
  unfold f_X6_beginsSimple_30 at h
  refine r_iconst hX (p2 := 31) rfl rfl rfl ?_
  refine r_goto hX (p2 := 35) rfl (by decide) ?_
  exact t_X6_beginsSimple_35 xs e q X hX x0 1 s h
noncomputable def f_X6_beginsSimple (a0 : Int) (s : pS) : Option (Int × pS) := (f_X6_begins a0 54927 s).bind (fun q1 => (if q1.1 ≠ 0 then f_X6_beginsSimple_30 a0 q1.2 else (f_X6_begins a0 13614 q1.2).bind (fun q2 => (if q2.1 ≠ 0 then f_X6_beginsSimple_30 a0 q2.2 else (f_X6_begins a0 13368 q2.2).bind (fun q3 => (if q3.1 = 0 then f_X6_beginsSimple_35 a0 0 q3.2 else f_X6_beginsSimple_30 a0 q3.2))))))
set_option maxRecDepth 10000 in
theorem c_X6_beginsSimple (xs : Nat → Int) (e : Nat) (a0 : Int) (s : pS) (q : Int × pS) (h : f_X6_beginsSimple a0 s = some q) : pCall pm_tx 1001 xs pm_P (e + 1 + 1) 113 [vL a0] (pW s) (.inl (some (vI q.1))) (pW q.2) := by
  refine pCall_of mX6_beginsSimple rfl rfl (fun X hX => ?_)
  show X [some (vL a0), none] [] 0 (pW s)
  replace hX : pm_clo 1001 xs (pCall pm_tx 1001 xs pm_P (e + 1)) (e + 1) mX6_beginsSimple (eI q) X := hX
  unfold f_X6_beginsSimple at h
  refine r_lload_n hX (p2 := 1) rfl rfl rfl ?_
  refine r_ldc2 hX (p2 := 4) (x := 54927) rfl rfl rfl rfl ?_
  obtain ⟨q1, hq1, h⟩ := bd_some h
  refine r_calls0 hX (p2 := 7) (v := some (vI q1.1)) (as := [vL a0, vL 54927]) (r := []) (st2 := [vI q1.1]) rfl rfl rfl rfl rfl rfl (c_X6_begins xs e a0 54927 s q1 hq1) ?_
  refine r_if hX (p2 := 30) (p3 := 10) (P := q1.1 ≠ 0) rfl (by decide) rfl rfl (fun p6 => ?_) (fun p6 => ?_)
  · have h := it_pos h p6
    exact t_X6_beginsSimple_30 xs e q X hX a0 q1.2 h
  · have h := it_neg h p6
    refine r_lload_n hX (p2 := 11) rfl rfl rfl ?_
    refine r_ldc2 hX (p2 := 14) (x := 13614) rfl rfl rfl rfl ?_
    obtain ⟨q2, hq2, h⟩ := bd_some h
    refine r_calls0 hX (p2 := 17) (v := some (vI q2.1)) (as := [vL a0, vL 13614]) (r := []) (st2 := [vI q2.1]) rfl rfl rfl rfl rfl rfl (c_X6_begins xs e a0 13614 q1.2 q2 hq2) ?_
    refine r_if hX (p2 := 30) (p3 := 20) (P := q2.1 ≠ 0) rfl (by decide) rfl rfl (fun p5 => ?_) (fun p5 => ?_)
    · have h := it_pos h p5
      exact t_X6_beginsSimple_30 xs e q X hX a0 q2.2 h
    · have h := it_neg h p5
      refine r_lload_n hX (p2 := 21) rfl rfl rfl ?_
      refine r_ldc2 hX (p2 := 24) (x := 13368) rfl rfl rfl rfl ?_
      obtain ⟨q3, hq3, h⟩ := bd_some h
      refine r_calls0 hX (p2 := 27) (v := some (vI q3.1)) (as := [vL a0, vL 13368]) (r := []) (st2 := [vI q3.1]) rfl rfl rfl rfl rfl rfl (c_X6_begins xs e a0 13368 q2.2 q3 hq3) ?_
      refine r_if hX (p2 := 34) (p3 := 30) (P := q3.1 = 0) rfl (by decide) rfl rfl (fun p4 => ?_) (fun p4 => ?_)
      · have h := it_pos h p4
        refine r_iconst hX (p2 := 35) rfl rfl rfl ?_
        exact t_X6_beginsSimple_35 xs e q X hX a0 0 q3.2 h
      · have h := it_neg h p4
        exact t_X6_beginsSimple_30 xs e q X hX a0 q3.2 h
noncomputable def f_X6_readSide_56 (x2 : Int) (y1 : Int) (s : pS) : Option (Int × pS) := bs (wI s 611 0 y1) (fun s1 => some (0, s1))
set_option maxRecDepth 10000 in
theorem t_X6_readSide_56 (xs : Nat → Int) (e : Nat) (q : Int × pS) (X : List (Option pV) → List pV → Nat → pH → Prop) (hX : pm_clo 1001 xs (pCall pm_tx 1001 xs pm_P (e + 4)) (e + 4) mX6_readSide (eI q) X) : ∀  (x2 : Int) (y1 : Int) (d0 : Option pV) (d1 : Option pV) (s : pS), f_X6_readSide_56 x2 y1 s = some q → X [d0, d1, some (vL x2), none] [vI y1, vR (cc 6 0)] 56 (pW s) := by
  intro x2 y1 d0 d1 s h
  unfold f_X6_readSide_56 at h
  obtain ⟨s1, hs1, h⟩ := bs_some h
  refine r_pfI hX (p2 := 59) rfl rfl (hc6 0 (by decide)) rfl rfl rfl rfl rfl rfl hs1 ?_
  refine r_iconst hX (p2 := 60) rfl rfl rfl ?_
  exact r_iretZ hX rfl rfl (Or.inl rfl) (eI_ok h)
noncomputable def f_X6_readSide_55 (x2 : Int) (s : pS) : Option (Int × pS) := f_X6_readSide_56 x2 0 s
set_option maxRecDepth 10000 in
theorem t_X6_readSide_55 (xs : Nat → Int) (e : Nat) (q : Int × pS) (X : List (Option pV) → List pV → Nat → pH → Prop) (hX : pm_clo 1001 xs (pCall pm_tx 1001 xs pm_P (e + 4)) (e + 4) mX6_readSide (eI q) X) : ∀  (x2 : Int) (d0 : Option pV) (d1 : Option pV) (s : pS), f_X6_readSide_55 x2 s = some q → X [d0, d1, some (vL x2), none] [vR (cc 6 0)] 55 (pW s) := by
  intro x2 d0 d1 s h
  unfold f_X6_readSide_55 at h
  refine r_iconst hX (p2 := 56) rfl rfl rfl ?_
  exact t_X6_readSide_56 xs e q X hX x2 0 d0 d1 s h
noncomputable def f_X6_readSide_110 (s : pS) : Option (Int × pS) := some (1, s)
set_option maxRecDepth 10000 in
theorem t_X6_readSide_110 (xs : Nat → Int) (e : Nat) (q : Int × pS) (X : List (Option pV) → List pV → Nat → pH → Prop) (hX : pm_clo 1001 xs (pCall pm_tx 1001 xs pm_P (e + 4)) (e + 4) mX6_readSide (eI q) X) : ∀  (d0 : Option pV) (d1 : Option pV) (d2 : Option pV) (d3 : Option pV) (s : pS), f_X6_readSide_110 s = some q → X [d0, d1, d2, d3] [] 110 (pW s) := by
  intro d0 d1 d2 d3 s h
  unfold f_X6_readSide_110 at h
  refine r_iconst hX (p2 := 111) rfl rfl rfl ?_
  exact r_iretZ hX rfl rfl (Or.inr rfl) (eI_ok h)
noncomputable def f_X6_readSide (a1 : Int) (s : pS) : Option (Int × pS) := (f_X6_now s).bind (fun q1 => (f_X6_isLetter q1.1 q1.2).bind (fun q2 => (if q2.1 = 0 then (f_X6_readNumber q2.2).bind (fun q3 => (if q3.1 ≠ 0 then bs (wI q3.2 613 0 0) (fun s4 => (if a1 = 0 then f_X6_readSide_110 s4 else (f_X6_now s4).bind (fun q5 => (if q5.1 ≠ 102 then f_X6_readSide_110 q5.2 else ck (inR ((sI q5.2 609 0) + 1)) (bs (wI q5.2 609 0 ((sI q5.2 609 0) + 1)) (fun s7 => bs (wI s7 613 0 4) (fun s8 => (f_X6_takes 114 s8).bind (fun q9 => ck (q9.1 = 0 ∨ q9.1 = 1) (some (q9.1, q9.2)))))))))) else some (0, q3.2))) else (f_X6_word q2.2).bind (fun q14 => (f_X6_simple q14.1 q14.2).bind (fun q15 => bs (wI q15.2 613 0 q15.1) (fun s16 => (if (sI s16 613 0) < 0 then (if (sI s16 609 0) ≠ (sI s16 610 0) then f_X6_readSide_55 q14.1 s16 else (f_X6_beginsSimple q14.1 s16).bind (fun q17 => (if q17.1 = 0 then f_X6_readSide_55 q14.1 q17.2 else f_X6_readSide_56 q14.1 1 q17.2))) else some (1, s16))))))))
set_option maxRecDepth 10000 in
theorem c_X6_readSide (xs : Nat → Int) (e : Nat) (a1 : Int) (s : pS) (q : Int × pS) (h : f_X6_readSide a1 s = some q) : pCall pm_tx 1001 xs pm_P (e + 4 + 1) 114 [vR (cc 6 0), vI a1] (pW s) (.inl (some (vI q.1))) (pW q.2) := by
  refine pCall_of mX6_readSide rfl rfl (fun X hX => ?_)
  show X [some (vR (cc 6 0)), some (vI a1), none, none] [] 0 (pW s)
  replace hX : pm_clo 1001 xs (pCall pm_tx 1001 xs pm_P (e + 4)) (e + 4) mX6_readSide (eI q) X := hX
  unfold f_X6_readSide at h
  refine r_aload_n hX (p2 := 1) rfl rfl rfl ⟨_, Or.inl rfl⟩ ?_
  obtain ⟨q1, hq1, h⟩ := bd_some h
  refine r_callv hX (p2 := 4) (v := some (vI q1.1)) (as := []) (r := []) (st2 := [vI q1.1]) rfl rfl rfl rfl rfl (hc6 0 (by decide)) rfl rfl (c_X6_now xs (e + 3) s q1 hq1) ?_
  obtain ⟨q2, hq2, h⟩ := bd_some h
  refine r_calls0 hX (p2 := 7) (v := some (vI q2.1)) (as := [vI q1.1]) (r := []) (st2 := [vI q2.1]) rfl rfl rfl rfl rfl rfl (c_X6_isLetter xs (e + 3) q1.1 q1.2 q2 hq2) ?_
  refine r_if hX (p2 := 61) (p3 := 10) (P := q2.1 = 0) rfl (by decide) rfl rfl (fun p21 => ?_) (fun p21 => ?_)
  · have h := it_pos h p21
    refine r_aload_n hX (p2 := 62) rfl rfl rfl ⟨_, Or.inl rfl⟩ ?_
    obtain ⟨q3, hq3, h⟩ := bd_some h
    refine r_callv hX (p2 := 65) (v := some (vI q3.1)) (as := []) (r := []) (st2 := [vI q3.1]) rfl rfl rfl rfl rfl (hc6 0 (by decide)) rfl rfl (c_X6_readNumber xs e q2.2 q3 hq3) ?_
    refine r_if hX (p2 := 70) (p3 := 68) (P := q3.1 ≠ 0) rfl (by decide) rfl rfl (fun p13 => ?_) (fun p13 => ?_)
    · have h := it_pos h p13
      refine r_aload_n hX (p2 := 71) rfl rfl rfl ⟨_, Or.inl rfl⟩ ?_
      refine r_iconst hX (p2 := 72) rfl rfl rfl ?_
      obtain ⟨s4, hs4, h⟩ := bs_some h
      refine r_pfI hX (p2 := 75) rfl rfl (hc6 0 (by decide)) rfl rfl rfl rfl rfl rfl hs4 ?_
      refine r_iload_n hX (p2 := 76) rfl rfl rfl ?_
      refine r_if hX (p2 := 110) (p3 := 79) (P := a1 = 0) rfl (by decide) rfl rfl (fun p12 => ?_) (fun p12 => ?_)
      · have h := it_pos h p12
        exact t_X6_readSide_110 xs e q X hX (some (vR (cc 6 0))) (some (vI a1)) none none s4 h
      · have h := it_neg h p12
        refine r_aload_n hX (p2 := 80) rfl rfl rfl ⟨_, Or.inl rfl⟩ ?_
        obtain ⟨q5, hq5, h⟩ := bd_some h
        refine r_callv hX (p2 := 83) (v := some (vI q5.1)) (as := []) (r := []) (st2 := [vI q5.1]) rfl rfl rfl rfl rfl (hc6 0 (by decide)) rfl rfl (c_X6_now xs (e + 3) s4 q5 hq5) ?_
        refine r_bipush hX (p2 := 85) rfl rfl rfl ?_
        refine r_icmp hX (p2 := 110) (p3 := 88) (P := q5.1 ≠ 102) rfl (by decide) rfl rfl (fun p11 => ?_) (fun p11 => ?_)
        · have h := it_pos h p11
          exact t_X6_readSide_110 xs e q X hX (some (vR (cc 6 0))) (some (vI a1)) none none q5.2 h
        · have h := it_neg h p11
          refine r_aload_n hX (p2 := 89) rfl rfl rfl ⟨_, Or.inl rfl⟩ ?_
          refine r_dup hX (p2 := 90) rfl rfl rfl ?_
          refine r_gf hX (p2 := 93) (v := vI (sI q5.2 609 0)) rfl rfl (hc6 0 (by decide)) rfl rfl rfl ?_
          refine r_iconst hX (p2 := 94) rfl rfl rfl ?_
          obtain ⟨c6, h⟩ := ck_some h
          refine r_iadd hX (p2 := 95) rfl rfl c6 ?_
          obtain ⟨s7, hs7, h⟩ := bs_some h
          refine r_pfI hX (p2 := 98) rfl rfl (hc6 0 (by decide)) rfl rfl rfl rfl rfl rfl hs7 ?_
          refine r_aload_n hX (p2 := 99) rfl rfl rfl ⟨_, Or.inl rfl⟩ ?_
          refine r_iconst hX (p2 := 100) rfl rfl rfl ?_
          obtain ⟨s8, hs8, h⟩ := bs_some h
          refine r_pfI hX (p2 := 103) rfl rfl (hc6 0 (by decide)) rfl rfl rfl rfl rfl rfl hs8 ?_
          refine r_aload_n hX (p2 := 104) rfl rfl rfl ⟨_, Or.inl rfl⟩ ?_
          refine r_bipush hX (p2 := 106) rfl rfl rfl ?_
          obtain ⟨q9, hq9, h⟩ := bd_some h
          refine r_callv hX (p2 := 109) (v := some (vI q9.1)) (as := [vI 114]) (r := []) (st2 := [vI q9.1]) rfl rfl rfl rfl rfl (hc6 0 (by decide)) rfl rfl (c_X6_takes xs (e + 3) 114 s8 q9 hq9) ?_
          obtain ⟨c10, h⟩ := ck_some h
          exact r_iretZ hX rfl rfl c10 (eI_ok h)
    · have h := it_neg h p13
      refine r_iconst hX (p2 := 69) rfl rfl rfl ?_
      exact r_iretZ hX rfl rfl (Or.inl rfl) (eI_ok h)
  · have h := it_neg h p21
    refine r_aload_n hX (p2 := 11) rfl rfl rfl ⟨_, Or.inl rfl⟩ ?_
    obtain ⟨q14, hq14, h⟩ := bd_some h
    refine r_callv hX (p2 := 14) (v := some (vL q14.1)) (as := []) (r := []) (st2 := [vL q14.1]) rfl rfl rfl rfl rfl (hc6 0 (by decide)) rfl rfl (c_X6_word xs (e + 2) q2.2 q14 hq14) ?_
    refine r_lstore_n hX (p2 := 15) (ls2 := [some (vR (cc 6 0)), some (vI a1), some (vL q14.1), none]) rfl rfl rfl rfl ?_
    refine r_aload_n hX (p2 := 16) rfl rfl rfl ⟨_, Or.inl rfl⟩ ?_
    refine r_lload_n hX (p2 := 17) rfl rfl rfl ?_
    obtain ⟨q15, hq15, h⟩ := bd_some h
    refine r_calls0 hX (p2 := 20) (v := some (vI q15.1)) (as := [vL q14.1]) (r := [vR (cc 6 0)]) (st2 := [vI q15.1, vR (cc 6 0)]) rfl rfl rfl rfl rfl rfl (c_X6_simple xs (e + 3) q14.1 q14.2 q15 hq15) ?_
    obtain ⟨s16, hs16, h⟩ := bs_some h
    refine r_pfI hX (p2 := 23) rfl rfl (hc6 0 (by decide)) rfl rfl rfl rfl rfl rfl hs16 ?_
    refine r_aload_n hX (p2 := 24) rfl rfl rfl ⟨_, Or.inl rfl⟩ ?_
    refine r_gf hX (p2 := 27) (v := vI (sI s16 613 0)) rfl rfl (hc6 0 (by decide)) rfl rfl rfl ?_
    refine r_if hX (p2 := 32) (p3 := 30) (P := (sI s16 613 0) < 0) rfl (by decide) rfl rfl (fun p20 => ?_) (fun p20 => ?_)
    · have h := it_pos h p20
      refine r_aload_n hX (p2 := 33) rfl rfl rfl ⟨_, Or.inl rfl⟩ ?_
      refine r_aload_n hX (p2 := 34) rfl rfl rfl ⟨_, Or.inl rfl⟩ ?_
      refine r_gf hX (p2 := 37) (v := vI (sI s16 609 0)) rfl rfl (hc6 0 (by decide)) rfl rfl rfl ?_
      refine r_aload_n hX (p2 := 38) rfl rfl rfl ⟨_, Or.inl rfl⟩ ?_
      refine r_gf hX (p2 := 41) (v := vI (sI s16 610 0)) rfl rfl (hc6 0 (by decide)) rfl rfl rfl ?_
      refine r_icmp hX (p2 := 55) (p3 := 44) (P := (sI s16 609 0) ≠ (sI s16 610 0)) rfl (by decide) rfl rfl (fun p19 => ?_) (fun p19 => ?_)
      · have h := it_pos h p19
        exact t_X6_readSide_55 xs e q X hX q14.1 (some (vR (cc 6 0))) (some (vI a1)) s16 h
      · have h := it_neg h p19
        refine r_lload_n hX (p2 := 45) rfl rfl rfl ?_
        obtain ⟨q17, hq17, h⟩ := bd_some h
        refine r_calls0 hX (p2 := 48) (v := some (vI q17.1)) (as := [vL q14.1]) (r := [vR (cc 6 0)]) (st2 := [vI q17.1, vR (cc 6 0)]) rfl rfl rfl rfl rfl rfl (c_X6_beginsSimple xs (e + 2) q14.1 s16 q17 hq17) ?_
        refine r_if hX (p2 := 55) (p3 := 51) (P := q17.1 = 0) rfl (by decide) rfl rfl (fun p18 => ?_) (fun p18 => ?_)
        · have h := it_pos h p18
          exact t_X6_readSide_55 xs e q X hX q14.1 (some (vR (cc 6 0))) (some (vI a1)) q17.2 h
        · have h := it_neg h p18
          refine r_iconst hX (p2 := 52) rfl rfl rfl ?_
          refine r_goto hX (p2 := 56) rfl (by decide) ?_
          exact t_X6_readSide_56 xs e q X hX q14.1 1 (some (vR (cc 6 0))) (some (vI a1)) q17.2 h
    · have h := it_neg h p20
      refine r_iconst hX (p2 := 31) rfl rfl rfl ?_
      exact r_iretZ hX rfl rfl (Or.inr rfl) (eI_ok h)
noncomputable def f_X6_readMinmax_17 (s : pS) : Option (Int × pS) := some (0, s)
set_option maxRecDepth 10000 in
theorem t_X6_readMinmax_17 (xs : Nat → Int) (e : Nat) (q : Int × pS) (X : List (Option pV) → List pV → Nat → pH → Prop) (hX : pm_clo 1001 xs (pCall pm_tx 1001 xs pm_P (e + 5)) (e + 5) mX6_readMinmax (eI q) X) : ∀  (d0 : Option pV) (s : pS), f_X6_readMinmax_17 s = some q → X [d0] [] 17 (pW s) := by
  intro d0 s h
  unfold f_X6_readMinmax_17 at h
  refine r_iconst hX (p2 := 18) rfl rfl rfl ?_
  exact r_iretZ hX rfl rfl (Or.inl rfl) (eI_ok h)
noncomputable def f_X6_readMinmax_52 (s : pS) : Option (Int × pS) := some (0, s)
set_option maxRecDepth 10000 in
theorem t_X6_readMinmax_52 (xs : Nat → Int) (e : Nat) (q : Int × pS) (X : List (Option pV) → List pV → Nat → pH → Prop) (hX : pm_clo 1001 xs (pCall pm_tx 1001 xs pm_P (e + 5)) (e + 5) mX6_readMinmax (eI q) X) : ∀  (d0 : Option pV) (s : pS), f_X6_readMinmax_52 s = some q → X [d0] [] 52 (pW s) := by
  intro d0 s h
  unfold f_X6_readMinmax_52 at h
  refine r_iconst hX (p2 := 53) rfl rfl rfl ?_
  exact r_iretZ hX rfl rfl (Or.inl rfl) (eI_ok h)
noncomputable def f_X6_readMinmax (s : pS) : Option (Int × pS) := (f_X6_takes 40 s).bind (fun q1 => (if q1.1 = 0 then f_X6_readMinmax_17 q1.2 else (f_X6_readSide 0 q1.2).bind (fun q2 => (if q2.1 ≠ 0 then bs (wI q2.2 615 0 (sI q2.2 613 0)) (fun s3 => bs (wF s3 617 0 (sF s3 614 0)) (fun s4 => (f_X6_takes 44 s4).bind (fun q5 => (if q5.1 = 0 then f_X6_readMinmax_52 q5.2 else (f_X6_readSide 1 q5.2).bind (fun q6 => (if q6.1 ≠ 0 then bs (wI q6.2 616 0 (sI q6.2 613 0)) (fun s7 => bs (wF s7 618 0 (sF s7 614 0)) (fun s8 => (f_X6_takes 41 s8).bind (fun q9 => ck (q9.1 = 0 ∨ q9.1 = 1) (some (q9.1, q9.2))))) else f_X6_readMinmax_52 q6.2)))))) else f_X6_readMinmax_17 q2.2))))
set_option maxRecDepth 10000 in
theorem c_X6_readMinmax (xs : Nat → Int) (e : Nat) (s : pS) (q : Int × pS) (h : f_X6_readMinmax s = some q) : pCall pm_tx 1001 xs pm_P (e + 5 + 1) 115 [vR (cc 6 0)] (pW s) (.inl (some (vI q.1))) (pW q.2) := by
  refine pCall_of mX6_readMinmax rfl rfl (fun X hX => ?_)
  show X [some (vR (cc 6 0))] [] 0 (pW s)
  replace hX : pm_clo 1001 xs (pCall pm_tx 1001 xs pm_P (e + 5)) (e + 5) mX6_readMinmax (eI q) X := hX
  unfold f_X6_readMinmax at h
  refine r_aload_n hX (p2 := 1) rfl rfl rfl ⟨_, Or.inl rfl⟩ ?_
  refine r_bipush hX (p2 := 3) rfl rfl rfl ?_
  obtain ⟨q1, hq1, h⟩ := bd_some h
  refine r_callv hX (p2 := 6) (v := some (vI q1.1)) (as := [vI 40]) (r := []) (st2 := [vI q1.1]) rfl rfl rfl rfl rfl (hc6 0 (by decide)) rfl rfl (c_X6_takes xs (e + 4) 40 s q1 hq1) ?_
  refine r_if hX (p2 := 17) (p3 := 9) (P := q1.1 = 0) rfl (by decide) rfl rfl (fun p14 => ?_) (fun p14 => ?_)
  · have h := it_pos h p14
    exact t_X6_readMinmax_17 xs e q X hX (some (vR (cc 6 0))) q1.2 h
  · have h := it_neg h p14
    refine r_aload_n hX (p2 := 10) rfl rfl rfl ⟨_, Or.inl rfl⟩ ?_
    refine r_iconst hX (p2 := 11) rfl rfl rfl ?_
    obtain ⟨q2, hq2, h⟩ := bd_some h
    refine r_callv hX (p2 := 14) (v := some (vI q2.1)) (as := [vI 0]) (r := []) (st2 := [vI q2.1]) rfl rfl rfl rfl rfl (hc6 0 (by decide)) rfl rfl (c_X6_readSide xs e 0 q1.2 q2 hq2) ?_
    refine r_if hX (p2 := 19) (p3 := 17) (P := q2.1 ≠ 0) rfl (by decide) rfl rfl (fun p13 => ?_) (fun p13 => ?_)
    · have h := it_pos h p13
      refine r_aload_n hX (p2 := 20) rfl rfl rfl ⟨_, Or.inl rfl⟩ ?_
      refine r_aload_n hX (p2 := 21) rfl rfl rfl ⟨_, Or.inl rfl⟩ ?_
      refine r_gf hX (p2 := 24) (v := vI (sI q2.2 613 0)) rfl rfl (hc6 0 (by decide)) rfl rfl rfl ?_
      obtain ⟨s3, hs3, h⟩ := bs_some h
      refine r_pfI hX (p2 := 27) rfl rfl (hc6 0 (by decide)) rfl rfl rfl rfl rfl rfl hs3 ?_
      refine r_aload_n hX (p2 := 28) rfl rfl rfl ⟨_, Or.inl rfl⟩ ?_
      refine r_aload_n hX (p2 := 29) rfl rfl rfl ⟨_, Or.inl rfl⟩ ?_
      refine r_gf hX (p2 := 32) (v := vF (sF s3 614 0)) rfl rfl (hc6 0 (by decide)) rfl rfl rfl ?_
      obtain ⟨s4, hs4, h⟩ := bs_some h
      refine r_pfF hX (p2 := 35) rfl rfl (hc6 0 (by decide)) rfl rfl rfl rfl hs4 ?_
      refine r_aload_n hX (p2 := 36) rfl rfl rfl ⟨_, Or.inl rfl⟩ ?_
      refine r_bipush hX (p2 := 38) rfl rfl rfl ?_
      obtain ⟨q5, hq5, h⟩ := bd_some h
      refine r_callv hX (p2 := 41) (v := some (vI q5.1)) (as := [vI 44]) (r := []) (st2 := [vI q5.1]) rfl rfl rfl rfl rfl (hc6 0 (by decide)) rfl rfl (c_X6_takes xs (e + 4) 44 s4 q5 hq5) ?_
      refine r_if hX (p2 := 52) (p3 := 44) (P := q5.1 = 0) rfl (by decide) rfl rfl (fun p12 => ?_) (fun p12 => ?_)
      · have h := it_pos h p12
        exact t_X6_readMinmax_52 xs e q X hX (some (vR (cc 6 0))) q5.2 h
      · have h := it_neg h p12
        refine r_aload_n hX (p2 := 45) rfl rfl rfl ⟨_, Or.inl rfl⟩ ?_
        refine r_iconst hX (p2 := 46) rfl rfl rfl ?_
        obtain ⟨q6, hq6, h⟩ := bd_some h
        refine r_callv hX (p2 := 49) (v := some (vI q6.1)) (as := [vI 1]) (r := []) (st2 := [vI q6.1]) rfl rfl rfl rfl rfl (hc6 0 (by decide)) rfl rfl (c_X6_readSide xs e 1 q5.2 q6 hq6) ?_
        refine r_if hX (p2 := 54) (p3 := 52) (P := q6.1 ≠ 0) rfl (by decide) rfl rfl (fun p11 => ?_) (fun p11 => ?_)
        · have h := it_pos h p11
          refine r_aload_n hX (p2 := 55) rfl rfl rfl ⟨_, Or.inl rfl⟩ ?_
          refine r_aload_n hX (p2 := 56) rfl rfl rfl ⟨_, Or.inl rfl⟩ ?_
          refine r_gf hX (p2 := 59) (v := vI (sI q6.2 613 0)) rfl rfl (hc6 0 (by decide)) rfl rfl rfl ?_
          obtain ⟨s7, hs7, h⟩ := bs_some h
          refine r_pfI hX (p2 := 62) rfl rfl (hc6 0 (by decide)) rfl rfl rfl rfl rfl rfl hs7 ?_
          refine r_aload_n hX (p2 := 63) rfl rfl rfl ⟨_, Or.inl rfl⟩ ?_
          refine r_aload_n hX (p2 := 64) rfl rfl rfl ⟨_, Or.inl rfl⟩ ?_
          refine r_gf hX (p2 := 67) (v := vF (sF s7 614 0)) rfl rfl (hc6 0 (by decide)) rfl rfl rfl ?_
          obtain ⟨s8, hs8, h⟩ := bs_some h
          refine r_pfF hX (p2 := 70) rfl rfl (hc6 0 (by decide)) rfl rfl rfl rfl hs8 ?_
          refine r_aload_n hX (p2 := 71) rfl rfl rfl ⟨_, Or.inl rfl⟩ ?_
          refine r_bipush hX (p2 := 73) rfl rfl rfl ?_
          obtain ⟨q9, hq9, h⟩ := bd_some h
          refine r_callv hX (p2 := 76) (v := some (vI q9.1)) (as := [vI 41]) (r := []) (st2 := [vI q9.1]) rfl rfl rfl rfl rfl (hc6 0 (by decide)) rfl rfl (c_X6_takes xs (e + 4) 41 s8 q9 hq9) ?_
          obtain ⟨c10, h⟩ := ck_some h
          exact r_iretZ hX rfl rfl c10 (eI_ok h)
        · have h := it_neg h p11
          exact t_X6_readMinmax_52 xs e q X hX (some (vR (cc 6 0))) q6.2 h
    · have h := it_neg h p13
      exact t_X6_readMinmax_17 xs e q X hX (some (vR (cc 6 0))) q2.2 h
noncomputable def f_X6_readTrack_198 (x2 : Int) (y0 : Int) (s : pS) : Option (Int × pS) := ck (y0 = 0 ∨ y0 = 1) (some (y0, s))
set_option maxRecDepth 10000 in
theorem t_X6_readTrack_198 (xs : Nat → Int) (e : Nat) (q : Int × pS) (X : List (Option pV) → List pV → Nat → pH → Prop) (hX : pm_clo 1001 xs (pCall pm_tx 1001 xs pm_P (e + 6)) (e + 6) mX6_readTrack (eI q) X) : ∀  (x2 : Int) (y0 : Int) (d0 : Option pV) (d1 : Option pV) (d4 : Option pV) (d5 : Option pV) (s : pS), f_X6_readTrack_198 x2 y0 s = some q → X [d0, d1, some (vL x2), none, d4, d5] [vI y0] 198 (pW s) := by
  intro x2 y0 d0 d1 d4 d5 s h
  unfold f_X6_readTrack_198 at h
  obtain ⟨c1, h⟩ := ck_some h
  exact r_iretZ hX rfl rfl c1 (eI_ok h)
noncomputable def f_X6_readTrack_173 (x2 : Int) (x4 : Int) (y1 : Int) (s : pS) : Option (Int × pS) := bs (wI s 611 0 y1) (fun s1 => bs (wI s1 615 0 x4) (fun s2 => bs (wI s2 616 0 x4) (fun s3 => (if x4 < 0 then f_X6_readTrack_198 x2 0 s3 else f_X6_readTrack_198 x2 1 s3))))
set_option maxRecDepth 10000 in
theorem t_X6_readTrack_173 (xs : Nat → Int) (e : Nat) (q : Int × pS) (X : List (Option pV) → List pV → Nat → pH → Prop) (hX : pm_clo 1001 xs (pCall pm_tx 1001 xs pm_P (e + 6)) (e + 6) mX6_readTrack (eI q) X) : ∀  (x2 : Int) (x4 : Int) (y1 : Int) (d1 : Option pV) (d5 : Option pV) (s : pS), f_X6_readTrack_173 x2 x4 y1 s = some q → X [some (vR (cc 6 0)), d1, some (vL x2), none, some (vI x4), d5] [vI y1, vR (cc 6 0)] 173 (pW s) := by
  intro x2 x4 y1 d1 d5 s h
  unfold f_X6_readTrack_173 at h
  obtain ⟨s1, hs1, h⟩ := bs_some h
  refine r_pfI hX (p2 := 176) rfl rfl (hc6 0 (by decide)) rfl rfl rfl rfl rfl rfl hs1 ?_
  refine r_aload_n hX (p2 := 177) rfl rfl rfl ⟨_, Or.inl rfl⟩ ?_
  refine r_iload hX (p2 := 179) rfl rfl rfl ?_
  obtain ⟨s2, hs2, h⟩ := bs_some h
  refine r_pfI hX (p2 := 182) rfl rfl (hc6 0 (by decide)) rfl rfl rfl rfl rfl rfl hs2 ?_
  refine r_aload_n hX (p2 := 183) rfl rfl rfl ⟨_, Or.inl rfl⟩ ?_
  refine r_iload hX (p2 := 185) rfl rfl rfl ?_
  obtain ⟨s3, hs3, h⟩ := bs_some h
  refine r_pfI hX (p2 := 188) rfl rfl (hc6 0 (by decide)) rfl rfl rfl rfl rfl rfl hs3 ?_
  refine r_iload hX (p2 := 190) rfl rfl rfl ?_
  refine r_if hX (p2 := 197) (p3 := 193) (P := x4 < 0) rfl (by decide) rfl rfl (fun p4 => ?_) (fun p4 => ?_)
  · have h := it_pos h p4
    refine r_iconst hX (p2 := 198) rfl rfl rfl ?_
    exact t_X6_readTrack_198 xs e q X hX x2 0 (some (vR (cc 6 0))) d1 (some (vI x4)) d5 s3 h
  · have h := it_neg h p4
    refine r_iconst hX (p2 := 194) rfl rfl rfl ?_
    refine r_goto hX (p2 := 198) rfl (by decide) ?_
    exact t_X6_readTrack_198 xs e q X hX x2 1 (some (vR (cc 6 0))) d1 (some (vI x4)) d5 s3 h
noncomputable def f_X6_readTrack_151 (x2 : Int) (x4 : Int) (y0 : Int) (s : pS) : Option (Int × pS) := (if x4 < 0 then (if y0 = 0 then f_X6_readTrack_173 x2 x4 0 s else f_X6_readTrack_173 x2 x4 1 s) else f_X6_readTrack_173 x2 x4 2 s)
set_option maxRecDepth 10000 in
theorem t_X6_readTrack_151 (xs : Nat → Int) (e : Nat) (q : Int × pS) (X : List (Option pV) → List pV → Nat → pH → Prop) (hX : pm_clo 1001 xs (pCall pm_tx 1001 xs pm_P (e + 6)) (e + 6) mX6_readTrack (eI q) X) : ∀  (x2 : Int) (x4 : Int) (y0 : Int) (d1 : Option pV) (d5 : Option pV) (s : pS), f_X6_readTrack_151 x2 x4 y0 s = some q → X [some (vR (cc 6 0)), d1, some (vL x2), none, some (vI x4), d5] [vI y0] 151 (pW s) := by
  intro x2 x4 y0 d1 d5 s h
  unfold f_X6_readTrack_151 at h
  refine r_istore hX (p2 := 153) (ls2 := [some (vR (cc 6 0)), d1, some (vL x2), none, some (vI x4), some (vI y0)]) rfl rfl rfl rfl ?_
  refine r_aload_n hX (p2 := 154) rfl rfl rfl ⟨_, Or.inl rfl⟩ ?_
  refine r_iload hX (p2 := 156) rfl rfl rfl ?_
  refine r_if hX (p2 := 163) (p3 := 159) (P := x4 < 0) rfl (by decide) rfl rfl (fun p2 => ?_) (fun p2 => ?_)
  · have h := it_pos h p2
    refine r_iload hX (p2 := 165) rfl rfl rfl ?_
    refine r_if hX (p2 := 172) (p3 := 168) (P := y0 = 0) rfl (by decide) rfl rfl (fun p1 => ?_) (fun p1 => ?_)
    · have h := it_pos h p1
      refine r_iconst hX (p2 := 173) rfl rfl rfl ?_
      exact t_X6_readTrack_173 xs e q X hX x2 x4 0 d1 (some (vI y0)) s h
    · have h := it_neg h p1
      refine r_iconst hX (p2 := 169) rfl rfl rfl ?_
      refine r_goto hX (p2 := 173) rfl (by decide) ?_
      exact t_X6_readTrack_173 xs e q X hX x2 x4 1 d1 (some (vI y0)) s h
  · have h := it_neg h p2
    refine r_iconst hX (p2 := 160) rfl rfl rfl ?_
    refine r_goto hX (p2 := 173) rfl (by decide) ?_
    exact t_X6_readTrack_173 xs e q X hX x2 x4 2 d1 (some (vI y0)) s h
noncomputable def f_X6_readTrack_146 (x2 : Int) (x4 : Int) (s : pS) : Option (Int × pS) := f_X6_readTrack_151 x2 x4 1 s
set_option maxRecDepth 10000 in
theorem t_X6_readTrack_146 (xs : Nat → Int) (e : Nat) (q : Int × pS) (X : List (Option pV) → List pV → Nat → pH → Prop) (hX : pm_clo 1001 xs (pCall pm_tx 1001 xs pm_P (e + 6)) (e + 6) mX6_readTrack (eI q) X) : ∀  (x2 : Int) (x4 : Int) (d1 : Option pV) (d5 : Option pV) (s : pS), f_X6_readTrack_146 x2 x4 s = some q → X [some (vR (cc 6 0)), d1, some (vL x2), none, some (vI x4), d5] [] 146 (pW s) := by
  intro x2 x4 d1 d5 s h
  unfold f_X6_readTrack_146 at h
  refine r_iconst hX (p2 := 147) rfl rfl rfl ?_
  refine r_goto hX (p2 := 151) rfl (by decide) ?_
  exact t_X6_readTrack_151 xs e q X hX x2 x4 1 d1 d5 s h
noncomputable def f_X6_readTrack_150 (x2 : Int) (x4 : Int) (s : pS) : Option (Int × pS) := f_X6_readTrack_151 x2 x4 0 s
set_option maxRecDepth 10000 in
theorem t_X6_readTrack_150 (xs : Nat → Int) (e : Nat) (q : Int × pS) (X : List (Option pV) → List pV → Nat → pH → Prop) (hX : pm_clo 1001 xs (pCall pm_tx 1001 xs pm_P (e + 6)) (e + 6) mX6_readTrack (eI q) X) : ∀  (x2 : Int) (x4 : Int) (d1 : Option pV) (d5 : Option pV) (s : pS), f_X6_readTrack_150 x2 x4 s = some q → X [some (vR (cc 6 0)), d1, some (vL x2), none, some (vI x4), d5] [] 150 (pW s) := by
  intro x2 x4 d1 d5 s h
  unfold f_X6_readTrack_150 at h
  refine r_iconst hX (p2 := 151) rfl rfl rfl ?_
  exact t_X6_readTrack_151 xs e q X hX x2 x4 0 d1 d5 s h
noncomputable def f_X6_readTrack_255 (x2 : Int) (s : pS) : Option (Int × pS) := some (0, s)
set_option maxRecDepth 10000 in
theorem t_X6_readTrack_255 (xs : Nat → Int) (e : Nat) (q : Int × pS) (X : List (Option pV) → List pV → Nat → pH → Prop) (hX : pm_clo 1001 xs (pCall pm_tx 1001 xs pm_P (e + 6)) (e + 6) mX6_readTrack (eI q) X) : ∀  (x2 : Int) (d0 : Option pV) (d1 : Option pV) (d4 : Option pV) (d5 : Option pV) (s : pS), f_X6_readTrack_255 x2 s = some q → X [d0, d1, some (vL x2), none, d4, d5] [] 255 (pW s) := by
  intro x2 d0 d1 d4 d5 s h
  unfold f_X6_readTrack_255 at h
  refine r_iconst hX (p2 := 256) rfl rfl rfl ?_
  exact r_iretZ hX rfl rfl (Or.inl rfl) (eI_ok h)
noncomputable def f_X6_readTrack (a1 : Int) (s : pS) : Option (Int × pS) := (f_X6_now s).bind (fun q1 => (f_X6_isLetter q1.1 q1.2).bind (fun q2 => (if q2.1 ≠ 0 then (f_X6_word q2.2).bind (fun q3 => (f_X6_simple q3.1 q3.2).bind (fun q4 => (if (sI q4.2 609 0) ≠ (sI q4.2 610 0) then (if q4.1 < 0 then (if (pm_lc q3.1 446116920) ≠ 0 then (if (pm_lc q3.1 6452) ≠ 0 then bs (wI q4.2 611 0 0) (fun s5 => some (0, s5)) else (f_X6_takes 40 q4.2).bind (fun q6 => (if q6.1 = 0 then f_X6_readTrack_255 q3.1 q6.2 else (f_X6_readNumber q6.2).bind (fun q7 => (if q7.1 ≠ 0 then bs (wI q7.2 615 0 3) (fun s8 => bs (wI s8 616 0 5) (fun s9 => bs (wF s9 618 0 (sF s9 614 0)) (fun s10 => (f_X6_takes 41 s10).bind (fun q11 => ck (q11.1 = 0 ∨ q11.1 = 1) (some (q11.1, q11.2)))))) else f_X6_readTrack_255 q3.1 q7.2))))) else (f_X6_readMinmax q4.2).bind (fun q16 => ck (q16.1 = 0 ∨ q16.1 = 1) (some (q16.1, q16.2)))) else bs (wI q4.2 615 0 q4.1) (fun s19 => bs (wI s19 616 0 q4.1) (fun s20 => some (1, s20)))) else (f_X6_beginsSimple q3.1 q4.2).bind (fun q22 => (if q22.1 ≠ 0 then f_X6_readTrack_146 q3.1 q4.1 q22.2 else (f_X6_begins q3.1 6452 q22.2).bind (fun q23 => (if q23.1 ≠ 0 then f_X6_readTrack_146 q3.1 q4.1 q23.2 else (f_X6_begins q3.1 446116920 q23.2).bind (fun q24 => (if q24.1 ≠ 0 then f_X6_readTrack_146 q3.1 q4.1 q24.2 else (if a1 ≠ 0 then f_X6_readTrack_150 q3.1 q4.1 q24.2 else (f_X6_begins q3.1 609752116 q24.2).bind (fun q25 => (if q25.1 = 0 then f_X6_readTrack_150 q3.1 q4.1 q25.2 else f_X6_readTrack_146 q3.1 q4.1 q25.2)))))))))))) else (f_X6_readNumber q2.2).bind (fun q32 => (if q32.1 ≠ 0 then bs (wI q32.2 615 0 0) (fun s33 => bs (wI s33 616 0 0) (fun s34 => bs (wF s34 617 0 (sF s34 614 0)) (fun s35 => bs (wF s35 618 0 (sF s35 614 0)) (fun s36 => (f_X6_now s36).bind (fun q37 => (if q37.1 = 102 then ck (inR ((sI q37.2 609 0) + 1)) (bs (wI q37.2 609 0 ((sI q37.2 609 0) + 1)) (fun s39 => bs (wI s39 615 0 3) (fun s40 => bs (wI s40 616 0 4) (fun s41 => (f_X6_takes 114 s41).bind (fun q42 => ck (q42.1 = 0 ∨ q42.1 = 1) (some (q42.1, q42.2))))))) else some (1, q37.2))))))) else some (0, q32.2))))))
set_option maxRecDepth 10000 in
theorem c_X6_readTrack (xs : Nat → Int) (e : Nat) (a1 : Int) (s : pS) (q : Int × pS) (h : f_X6_readTrack a1 s = some q) : pCall pm_tx 1001 xs pm_P (e + 6 + 1) 116 [vR (cc 6 0), vI a1] (pW s) (.inl (some (vI q.1))) (pW q.2) := by
  refine pCall_of mX6_readTrack rfl rfl (fun X hX => ?_)
  show X [some (vR (cc 6 0)), some (vI a1), none, none, none, none] [] 0 (pW s)
  replace hX : pm_clo 1001 xs (pCall pm_tx 1001 xs pm_P (e + 6)) (e + 6) mX6_readTrack (eI q) X := hX
  unfold f_X6_readTrack at h
  refine r_aload_n hX (p2 := 1) rfl rfl rfl ⟨_, Or.inl rfl⟩ ?_
  obtain ⟨q1, hq1, h⟩ := bd_some h
  refine r_callv hX (p2 := 4) (v := some (vI q1.1)) (as := []) (r := []) (st2 := [vI q1.1]) rfl rfl rfl rfl rfl (hc6 0 (by decide)) rfl rfl (c_X6_now xs (e + 5) s q1 hq1) ?_
  obtain ⟨q2, hq2, h⟩ := bd_some h
  refine r_calls0 hX (p2 := 7) (v := some (vI q2.1)) (as := [vI q1.1]) (r := []) (st2 := [vI q2.1]) rfl rfl rfl rfl rfl rfl (c_X6_isLetter xs (e + 5) q1.1 q1.2 q2 hq2) ?_
  refine r_if hX (p2 := 83) (p3 := 10) (P := q2.1 ≠ 0) rfl (by decide) rfl rfl (fun p46 => ?_) (fun p46 => ?_)
  · have h := it_pos h p46
    refine r_aload_n hX (p2 := 84) rfl rfl rfl ⟨_, Or.inl rfl⟩ ?_
    obtain ⟨q3, hq3, h⟩ := bd_some h
    refine r_callv hX (p2 := 87) (v := some (vL q3.1)) (as := []) (r := []) (st2 := [vL q3.1]) rfl rfl rfl rfl rfl (hc6 0 (by decide)) rfl rfl (c_X6_word xs (e + 4) q2.2 q3 hq3) ?_
    refine r_lstore_n hX (p2 := 88) (ls2 := [some (vR (cc 6 0)), some (vI a1), some (vL q3.1), none, none, none]) rfl rfl rfl rfl ?_
    refine r_lload_n hX (p2 := 89) rfl rfl rfl ?_
    obtain ⟨q4, hq4, h⟩ := bd_some h
    refine r_calls0 hX (p2 := 92) (v := some (vI q4.1)) (as := [vL q3.1]) (r := []) (st2 := [vI q4.1]) rfl rfl rfl rfl rfl rfl (c_X6_simple xs (e + 5) q3.1 q3.2 q4 hq4) ?_
    refine r_istore hX (p2 := 94) (ls2 := [some (vR (cc 6 0)), some (vI a1), some (vL q3.1), none, some (vI q4.1), none]) rfl rfl rfl rfl ?_
    refine r_aload_n hX (p2 := 95) rfl rfl rfl ⟨_, Or.inl rfl⟩ ?_
    refine r_gf hX (p2 := 98) (v := vI (sI q4.2 609 0)) rfl rfl (hc6 0 (by decide)) rfl rfl rfl ?_
    refine r_aload_n hX (p2 := 99) rfl rfl rfl ⟨_, Or.inl rfl⟩ ?_
    refine r_gf hX (p2 := 102) (v := vI (sI q4.2 610 0)) rfl rfl (hc6 0 (by decide)) rfl rfl rfl ?_
    refine r_icmp hX (p2 := 199) (p3 := 105) (P := (sI q4.2 609 0) ≠ (sI q4.2 610 0)) rfl (by decide) rfl rfl (fun p31 => ?_) (fun p31 => ?_)
    · have h := it_pos h p31
      refine r_iload hX (p2 := 201) rfl rfl rfl ?_
      refine r_if hX (p2 := 218) (p3 := 204) (P := q4.1 < 0) rfl (by decide) rfl rfl (fun p21 => ?_) (fun p21 => ?_)
      · have h := it_pos h p21
        refine r_lload_n hX (p2 := 219) rfl rfl rfl ?_
        refine r_ldc2 hX (p2 := 222) (x := 446116920) rfl rfl rfl rfl ?_
        refine r_lcmp hX (p2 := 223) rfl rfl ?_
        refine r_if hX (p2 := 231) (p3 := 226) (P := (pm_lc q3.1 446116920) ≠ 0) rfl (by decide) rfl rfl (fun p18 => ?_) (fun p18 => ?_)
        · have h := it_pos h p18
          refine r_lload_n hX (p2 := 232) rfl rfl rfl ?_
          refine r_ldc2 hX (p2 := 235) (x := 6452) rfl rfl rfl rfl ?_
          refine r_lcmp hX (p2 := 236) rfl rfl ?_
          refine r_if hX (p2 := 282) (p3 := 239) (P := (pm_lc q3.1 6452) ≠ 0) rfl (by decide) rfl rfl (fun p15 => ?_) (fun p15 => ?_)
          · have h := it_pos h p15
            refine r_aload_n hX (p2 := 283) rfl rfl rfl ⟨_, Or.inl rfl⟩ ?_
            refine r_iconst hX (p2 := 284) rfl rfl rfl ?_
            obtain ⟨s5, hs5, h⟩ := bs_some h
            refine r_pfI hX (p2 := 287) rfl rfl (hc6 0 (by decide)) rfl rfl rfl rfl rfl rfl hs5 ?_
            refine r_iconst hX (p2 := 288) rfl rfl rfl ?_
            exact r_iretZ hX rfl rfl (Or.inl rfl) (eI_ok h)
          · have h := it_neg h p15
            refine r_aload_n hX (p2 := 240) rfl rfl rfl ⟨_, Or.inl rfl⟩ ?_
            refine r_bipush hX (p2 := 242) rfl rfl rfl ?_
            obtain ⟨q6, hq6, h⟩ := bd_some h
            refine r_callv hX (p2 := 245) (v := some (vI q6.1)) (as := [vI 40]) (r := []) (st2 := [vI q6.1]) rfl rfl rfl rfl rfl (hc6 0 (by decide)) rfl rfl (c_X6_takes xs (e + 5) 40 q4.2 q6 hq6) ?_
            refine r_if hX (p2 := 255) (p3 := 248) (P := q6.1 = 0) rfl (by decide) rfl rfl (fun p14 => ?_) (fun p14 => ?_)
            · have h := it_pos h p14
              exact t_X6_readTrack_255 xs e q X hX q3.1 (some (vR (cc 6 0))) (some (vI a1)) (some (vI q4.1)) none q6.2 h
            · have h := it_neg h p14
              refine r_aload_n hX (p2 := 249) rfl rfl rfl ⟨_, Or.inl rfl⟩ ?_
              obtain ⟨q7, hq7, h⟩ := bd_some h
              refine r_callv hX (p2 := 252) (v := some (vI q7.1)) (as := []) (r := []) (st2 := [vI q7.1]) rfl rfl rfl rfl rfl (hc6 0 (by decide)) rfl rfl (c_X6_readNumber xs (e + 2) q6.2 q7 hq7) ?_
              refine r_if hX (p2 := 257) (p3 := 255) (P := q7.1 ≠ 0) rfl (by decide) rfl rfl (fun p13 => ?_) (fun p13 => ?_)
              · have h := it_pos h p13
                refine r_aload_n hX (p2 := 258) rfl rfl rfl ⟨_, Or.inl rfl⟩ ?_
                refine r_iconst hX (p2 := 259) rfl rfl rfl ?_
                obtain ⟨s8, hs8, h⟩ := bs_some h
                refine r_pfI hX (p2 := 262) rfl rfl (hc6 0 (by decide)) rfl rfl rfl rfl rfl rfl hs8 ?_
                refine r_aload_n hX (p2 := 263) rfl rfl rfl ⟨_, Or.inl rfl⟩ ?_
                refine r_iconst hX (p2 := 264) rfl rfl rfl ?_
                obtain ⟨s9, hs9, h⟩ := bs_some h
                refine r_pfI hX (p2 := 267) rfl rfl (hc6 0 (by decide)) rfl rfl rfl rfl rfl rfl hs9 ?_
                refine r_aload_n hX (p2 := 268) rfl rfl rfl ⟨_, Or.inl rfl⟩ ?_
                refine r_aload_n hX (p2 := 269) rfl rfl rfl ⟨_, Or.inl rfl⟩ ?_
                refine r_gf hX (p2 := 272) (v := vF (sF s9 614 0)) rfl rfl (hc6 0 (by decide)) rfl rfl rfl ?_
                obtain ⟨s10, hs10, h⟩ := bs_some h
                refine r_pfF hX (p2 := 275) rfl rfl (hc6 0 (by decide)) rfl rfl rfl rfl hs10 ?_
                refine r_aload_n hX (p2 := 276) rfl rfl rfl ⟨_, Or.inl rfl⟩ ?_
                refine r_bipush hX (p2 := 278) rfl rfl rfl ?_
                obtain ⟨q11, hq11, h⟩ := bd_some h
                refine r_callv hX (p2 := 281) (v := some (vI q11.1)) (as := [vI 41]) (r := []) (st2 := [vI q11.1]) rfl rfl rfl rfl rfl (hc6 0 (by decide)) rfl rfl (c_X6_takes xs (e + 5) 41 s10 q11 hq11) ?_
                obtain ⟨c12, h⟩ := ck_some h
                exact r_iretZ hX rfl rfl c12 (eI_ok h)
              · have h := it_neg h p13
                exact t_X6_readTrack_255 xs e q X hX q3.1 (some (vR (cc 6 0))) (some (vI a1)) (some (vI q4.1)) none q7.2 h
        · have h := it_neg h p18
          refine r_aload_n hX (p2 := 227) rfl rfl rfl ⟨_, Or.inl rfl⟩ ?_
          obtain ⟨q16, hq16, h⟩ := bd_some h
          refine r_callv hX (p2 := 230) (v := some (vI q16.1)) (as := []) (r := []) (st2 := [vI q16.1]) rfl rfl rfl rfl rfl (hc6 0 (by decide)) rfl rfl (c_X6_readMinmax xs e q4.2 q16 hq16) ?_
          obtain ⟨c17, h⟩ := ck_some h
          exact r_iretZ hX rfl rfl c17 (eI_ok h)
      · have h := it_neg h p21
        refine r_aload_n hX (p2 := 205) rfl rfl rfl ⟨_, Or.inl rfl⟩ ?_
        refine r_iload hX (p2 := 207) rfl rfl rfl ?_
        obtain ⟨s19, hs19, h⟩ := bs_some h
        refine r_pfI hX (p2 := 210) rfl rfl (hc6 0 (by decide)) rfl rfl rfl rfl rfl rfl hs19 ?_
        refine r_aload_n hX (p2 := 211) rfl rfl rfl ⟨_, Or.inl rfl⟩ ?_
        refine r_iload hX (p2 := 213) rfl rfl rfl ?_
        obtain ⟨s20, hs20, h⟩ := bs_some h
        refine r_pfI hX (p2 := 216) rfl rfl (hc6 0 (by decide)) rfl rfl rfl rfl rfl rfl hs20 ?_
        refine r_iconst hX (p2 := 217) rfl rfl rfl ?_
        exact r_iretZ hX rfl rfl (Or.inr rfl) (eI_ok h)
    · have h := it_neg h p31
      refine r_lload_n hX (p2 := 106) rfl rfl rfl ?_
      obtain ⟨q22, hq22, h⟩ := bd_some h
      refine r_calls0 hX (p2 := 109) (v := some (vI q22.1)) (as := [vL q3.1]) (r := []) (st2 := [vI q22.1]) rfl rfl rfl rfl rfl rfl (c_X6_beginsSimple xs (e + 4) q3.1 q4.2 q22 hq22) ?_
      refine r_if hX (p2 := 146) (p3 := 112) (P := q22.1 ≠ 0) rfl (by decide) rfl rfl (fun p30 => ?_) (fun p30 => ?_)
      · have h := it_pos h p30
        exact t_X6_readTrack_146 xs e q X hX q3.1 q4.1 (some (vI a1)) none q22.2 h
      · have h := it_neg h p30
        refine r_lload_n hX (p2 := 113) rfl rfl rfl ?_
        refine r_ldc2 hX (p2 := 116) (x := 6452) rfl rfl rfl rfl ?_
        obtain ⟨q23, hq23, h⟩ := bd_some h
        refine r_calls0 hX (p2 := 119) (v := some (vI q23.1)) (as := [vL q3.1, vL 6452]) (r := []) (st2 := [vI q23.1]) rfl rfl rfl rfl rfl rfl (c_X6_begins xs (e + 5) q3.1 6452 q22.2 q23 hq23) ?_
        refine r_if hX (p2 := 146) (p3 := 122) (P := q23.1 ≠ 0) rfl (by decide) rfl rfl (fun p29 => ?_) (fun p29 => ?_)
        · have h := it_pos h p29
          exact t_X6_readTrack_146 xs e q X hX q3.1 q4.1 (some (vI a1)) none q23.2 h
        · have h := it_neg h p29
          refine r_lload_n hX (p2 := 123) rfl rfl rfl ?_
          refine r_ldc2 hX (p2 := 126) (x := 446116920) rfl rfl rfl rfl ?_
          obtain ⟨q24, hq24, h⟩ := bd_some h
          refine r_calls0 hX (p2 := 129) (v := some (vI q24.1)) (as := [vL q3.1, vL 446116920]) (r := []) (st2 := [vI q24.1]) rfl rfl rfl rfl rfl rfl (c_X6_begins xs (e + 5) q3.1 446116920 q23.2 q24 hq24) ?_
          refine r_if hX (p2 := 146) (p3 := 132) (P := q24.1 ≠ 0) rfl (by decide) rfl rfl (fun p28 => ?_) (fun p28 => ?_)
          · have h := it_pos h p28
            exact t_X6_readTrack_146 xs e q X hX q3.1 q4.1 (some (vI a1)) none q24.2 h
          · have h := it_neg h p28
            refine r_iload_n hX (p2 := 133) rfl rfl rfl ?_
            refine r_if hX (p2 := 150) (p3 := 136) (P := a1 ≠ 0) rfl (by decide) rfl rfl (fun p27 => ?_) (fun p27 => ?_)
            · have h := it_pos h p27
              exact t_X6_readTrack_150 xs e q X hX q3.1 q4.1 (some (vI a1)) none q24.2 h
            · have h := it_neg h p27
              refine r_lload_n hX (p2 := 137) rfl rfl rfl ?_
              refine r_ldc2 hX (p2 := 140) (x := 609752116) rfl rfl rfl rfl ?_
              obtain ⟨q25, hq25, h⟩ := bd_some h
              refine r_calls0 hX (p2 := 143) (v := some (vI q25.1)) (as := [vL q3.1, vL 609752116]) (r := []) (st2 := [vI q25.1]) rfl rfl rfl rfl rfl rfl (c_X6_begins xs (e + 5) q3.1 609752116 q24.2 q25 hq25) ?_
              refine r_if hX (p2 := 150) (p3 := 146) (P := q25.1 = 0) rfl (by decide) rfl rfl (fun p26 => ?_) (fun p26 => ?_)
              · have h := it_pos h p26
                exact t_X6_readTrack_150 xs e q X hX q3.1 q4.1 (some (vI a1)) none q25.2 h
              · have h := it_neg h p26
                exact t_X6_readTrack_146 xs e q X hX q3.1 q4.1 (some (vI a1)) none q25.2 h
  · have h := it_neg h p46
    refine r_aload_n hX (p2 := 11) rfl rfl rfl ⟨_, Or.inl rfl⟩ ?_
    obtain ⟨q32, hq32, h⟩ := bd_some h
    refine r_callv hX (p2 := 14) (v := some (vI q32.1)) (as := []) (r := []) (st2 := [vI q32.1]) rfl rfl rfl rfl rfl (hc6 0 (by decide)) rfl rfl (c_X6_readNumber xs (e + 2) q2.2 q32 hq32) ?_
    refine r_if hX (p2 := 19) (p3 := 17) (P := q32.1 ≠ 0) rfl (by decide) rfl rfl (fun p45 => ?_) (fun p45 => ?_)
    · have h := it_pos h p45
      refine r_aload_n hX (p2 := 20) rfl rfl rfl ⟨_, Or.inl rfl⟩ ?_
      refine r_iconst hX (p2 := 21) rfl rfl rfl ?_
      obtain ⟨s33, hs33, h⟩ := bs_some h
      refine r_pfI hX (p2 := 24) rfl rfl (hc6 0 (by decide)) rfl rfl rfl rfl rfl rfl hs33 ?_
      refine r_aload_n hX (p2 := 25) rfl rfl rfl ⟨_, Or.inl rfl⟩ ?_
      refine r_iconst hX (p2 := 26) rfl rfl rfl ?_
      obtain ⟨s34, hs34, h⟩ := bs_some h
      refine r_pfI hX (p2 := 29) rfl rfl (hc6 0 (by decide)) rfl rfl rfl rfl rfl rfl hs34 ?_
      refine r_aload_n hX (p2 := 30) rfl rfl rfl ⟨_, Or.inl rfl⟩ ?_
      refine r_aload_n hX (p2 := 31) rfl rfl rfl ⟨_, Or.inl rfl⟩ ?_
      refine r_gf hX (p2 := 34) (v := vF (sF s34 614 0)) rfl rfl (hc6 0 (by decide)) rfl rfl rfl ?_
      obtain ⟨s35, hs35, h⟩ := bs_some h
      refine r_pfF hX (p2 := 37) rfl rfl (hc6 0 (by decide)) rfl rfl rfl rfl hs35 ?_
      refine r_aload_n hX (p2 := 38) rfl rfl rfl ⟨_, Or.inl rfl⟩ ?_
      refine r_aload_n hX (p2 := 39) rfl rfl rfl ⟨_, Or.inl rfl⟩ ?_
      refine r_gf hX (p2 := 42) (v := vF (sF s35 614 0)) rfl rfl (hc6 0 (by decide)) rfl rfl rfl ?_
      obtain ⟨s36, hs36, h⟩ := bs_some h
      refine r_pfF hX (p2 := 45) rfl rfl (hc6 0 (by decide)) rfl rfl rfl rfl hs36 ?_
      refine r_aload_n hX (p2 := 46) rfl rfl rfl ⟨_, Or.inl rfl⟩ ?_
      obtain ⟨q37, hq37, h⟩ := bd_some h
      refine r_callv hX (p2 := 49) (v := some (vI q37.1)) (as := []) (r := []) (st2 := [vI q37.1]) rfl rfl rfl rfl rfl (hc6 0 (by decide)) rfl rfl (c_X6_now xs (e + 5) s36 q37 hq37) ?_
      refine r_bipush hX (p2 := 51) rfl rfl rfl ?_
      refine r_icmp hX (p2 := 56) (p3 := 54) (P := q37.1 = 102) rfl (by decide) rfl rfl (fun p44 => ?_) (fun p44 => ?_)
      · have h := it_pos h p44
        refine r_aload_n hX (p2 := 57) rfl rfl rfl ⟨_, Or.inl rfl⟩ ?_
        refine r_dup hX (p2 := 58) rfl rfl rfl ?_
        refine r_gf hX (p2 := 61) (v := vI (sI q37.2 609 0)) rfl rfl (hc6 0 (by decide)) rfl rfl rfl ?_
        refine r_iconst hX (p2 := 62) rfl rfl rfl ?_
        obtain ⟨c38, h⟩ := ck_some h
        refine r_iadd hX (p2 := 63) rfl rfl c38 ?_
        obtain ⟨s39, hs39, h⟩ := bs_some h
        refine r_pfI hX (p2 := 66) rfl rfl (hc6 0 (by decide)) rfl rfl rfl rfl rfl rfl hs39 ?_
        refine r_aload_n hX (p2 := 67) rfl rfl rfl ⟨_, Or.inl rfl⟩ ?_
        refine r_iconst hX (p2 := 68) rfl rfl rfl ?_
        obtain ⟨s40, hs40, h⟩ := bs_some h
        refine r_pfI hX (p2 := 71) rfl rfl (hc6 0 (by decide)) rfl rfl rfl rfl rfl rfl hs40 ?_
        refine r_aload_n hX (p2 := 72) rfl rfl rfl ⟨_, Or.inl rfl⟩ ?_
        refine r_iconst hX (p2 := 73) rfl rfl rfl ?_
        obtain ⟨s41, hs41, h⟩ := bs_some h
        refine r_pfI hX (p2 := 76) rfl rfl (hc6 0 (by decide)) rfl rfl rfl rfl rfl rfl hs41 ?_
        refine r_aload_n hX (p2 := 77) rfl rfl rfl ⟨_, Or.inl rfl⟩ ?_
        refine r_bipush hX (p2 := 79) rfl rfl rfl ?_
        obtain ⟨q42, hq42, h⟩ := bd_some h
        refine r_callv hX (p2 := 82) (v := some (vI q42.1)) (as := [vI 114]) (r := []) (st2 := [vI q42.1]) rfl rfl rfl rfl rfl (hc6 0 (by decide)) rfl rfl (c_X6_takes xs (e + 5) 114 s41 q42 hq42) ?_
        obtain ⟨c43, h⟩ := ck_some h
        exact r_iretZ hX rfl rfl c43 (eI_ok h)
      · have h := it_neg h p44
        refine r_iconst hX (p2 := 55) rfl rfl rfl ?_
        exact r_iretZ hX rfl rfl (Or.inr rfl) (eI_ok h)
    · have h := it_neg h p45
      refine r_iconst hX (p2 := 18) rfl rfl rfl ?_
      exact r_iretZ hX rfl rfl (Or.inl rfl) (eI_ok h)
noncomputable def f_X6_keep (s : pS) : Option (pS) := ck (inR (24 + (sI s 612 0))) (bs ((24 + (sI s 612 0))) (fun v2 => ck (0 ≤ v2 ∧ v2 < 48) (bs (wA s 605 0 (pm_up (sA s 605 0) v2.toNat (sI s 615 0))) (fun s4 => ck (0 ≤ v2 ∧ v2 < 48) (bs (wA s4 606 0 (pm_up (sA s4 606 0) v2.toNat (sI s4 616 0))) (fun s6 => ck (0 ≤ v2 ∧ v2 < 48) (bs (wB s6 607 0 (pm_up (sB s6 607 0) v2.toNat (sF s6 617 0))) (fun s8 => ck (0 ≤ v2 ∧ v2 < 48) (bs (wB s8 608 0 (pm_up (sB s8 608 0) v2.toNat (sF s8 618 0))) (fun s10 => ck (inR ((sI s10 612 0) + 1)) (bs (wI s10 612 0 ((sI s10 612 0) + 1)) (fun s12 => some s12))))))))))))
set_option maxRecDepth 10000 in
theorem c_X6_keep (xs : Nat → Int) (e : Nat) (s : pS) (q : pS) (h : f_X6_keep s = some q) : pCall pm_tx 1001 xs pm_P (e + 1) 117 [vR (cc 6 0)] (pW s) (.inl none) (pW q) := by
  refine pCall_of mX6_keep rfl rfl (fun X hX => ?_)
  show X [some (vR (cc 6 0)), none] [] 0 (pW s)
  replace hX : pm_clo 1001 xs (pCall pm_tx 1001 xs pm_P e) e mX6_keep (eU q) X := hX
  unfold f_X6_keep at h
  refine r_bipush hX (p2 := 2) rfl rfl rfl ?_
  refine r_aload_n hX (p2 := 3) rfl rfl rfl ⟨_, Or.inl rfl⟩ ?_
  refine r_gf hX (p2 := 6) (v := vI (sI s 612 0)) rfl rfl (hc6 0 (by decide)) rfl rfl rfl ?_
  obtain ⟨c1, h⟩ := ck_some h
  refine r_iadd hX (p2 := 7) rfl rfl c1 ?_
  obtain ⟨v2, hv2, h⟩ := bs_some h
  refine r_istoreE_n hX (p2 := 8) (ls2 := [some (vR (cc 6 0)), some (vI v2)]) rfl rfl hv2 rfl rfl ?_
  refine r_aload_n hX (p2 := 9) rfl rfl rfl ⟨_, Or.inl rfl⟩ ?_
  refine r_gf hX (p2 := 12) (v := vR (ca 605 0)) rfl rfl (hc6 0 (by decide)) rfl rfl rfl ?_
  refine r_iload_n hX (p2 := 13) rfl rfl rfl ?_
  refine r_aload_n hX (p2 := 14) rfl rfl rfl ⟨_, Or.inl rfl⟩ ?_
  refine r_gf hX (p2 := 17) (v := vI (sI s 615 0)) rfl rfl (hc6 0 (by decide)) rfl rfl rfl ?_
  obtain ⟨c3, h⟩ := ck_some h
  obtain ⟨s4, hs4, h⟩ := bs_some h
  refine r_iastore hX (p2 := 18) (j := v2.toNat) rfl rfl (ha605 0 (by decide)) rfl rfl c3 rfl hs4 ?_
  refine r_aload_n hX (p2 := 19) rfl rfl rfl ⟨_, Or.inl rfl⟩ ?_
  refine r_gf hX (p2 := 22) (v := vR (ca 606 0)) rfl rfl (hc6 0 (by decide)) rfl rfl rfl ?_
  refine r_iload_n hX (p2 := 23) rfl rfl rfl ?_
  refine r_aload_n hX (p2 := 24) rfl rfl rfl ⟨_, Or.inl rfl⟩ ?_
  refine r_gf hX (p2 := 27) (v := vI (sI s4 616 0)) rfl rfl (hc6 0 (by decide)) rfl rfl rfl ?_
  obtain ⟨c5, h⟩ := ck_some h
  obtain ⟨s6, hs6, h⟩ := bs_some h
  refine r_iastore hX (p2 := 28) (j := v2.toNat) rfl rfl (ha606 0 (by decide)) rfl rfl c5 rfl hs6 ?_
  refine r_aload_n hX (p2 := 29) rfl rfl rfl ⟨_, Or.inl rfl⟩ ?_
  refine r_gf hX (p2 := 32) (v := vR (ca 607 0)) rfl rfl (hc6 0 (by decide)) rfl rfl rfl ?_
  refine r_iload_n hX (p2 := 33) rfl rfl rfl ?_
  refine r_aload_n hX (p2 := 34) rfl rfl rfl ⟨_, Or.inl rfl⟩ ?_
  refine r_gf hX (p2 := 37) (v := vF (sF s6 617 0)) rfl rfl (hc6 0 (by decide)) rfl rfl rfl ?_
  obtain ⟨c7, h⟩ := ck_some h
  obtain ⟨s8, hs8, h⟩ := bs_some h
  refine r_fastore hX (p2 := 38) (j := v2.toNat) rfl rfl (ha607 0 (by decide)) rfl rfl c7 rfl hs8 ?_
  refine r_aload_n hX (p2 := 39) rfl rfl rfl ⟨_, Or.inl rfl⟩ ?_
  refine r_gf hX (p2 := 42) (v := vR (ca 608 0)) rfl rfl (hc6 0 (by decide)) rfl rfl rfl ?_
  refine r_iload_n hX (p2 := 43) rfl rfl rfl ?_
  refine r_aload_n hX (p2 := 44) rfl rfl rfl ⟨_, Or.inl rfl⟩ ?_
  refine r_gf hX (p2 := 47) (v := vF (sF s8 618 0)) rfl rfl (hc6 0 (by decide)) rfl rfl rfl ?_
  obtain ⟨c9, h⟩ := ck_some h
  obtain ⟨s10, hs10, h⟩ := bs_some h
  refine r_fastore hX (p2 := 48) (j := v2.toNat) rfl rfl (ha608 0 (by decide)) rfl rfl c9 rfl hs10 ?_
  refine r_aload_n hX (p2 := 49) rfl rfl rfl ⟨_, Or.inl rfl⟩ ?_
  refine r_dup hX (p2 := 50) rfl rfl rfl ?_
  refine r_gf hX (p2 := 53) (v := vI (sI s10 612 0)) rfl rfl (hc6 0 (by decide)) rfl rfl rfl ?_
  refine r_iconst hX (p2 := 54) rfl rfl rfl ?_
  obtain ⟨c11, h⟩ := ck_some h
  refine r_iadd hX (p2 := 55) rfl rfl c11 ?_
  obtain ⟨s12, hs12, h⟩ := bs_some h
  refine r_pfI hX (p2 := 58) rfl rfl (hc6 0 (by decide)) rfl rfl rfl rfl rfl rfl hs12 ?_
  exact r_return hX rfl rfl (eU_ok h)
noncomputable def f_X6_readRepeat_69 (y1 : Int) (s : pS) : Option (Int × pS) := bs (wI s 611 0 y1) (fun s1 => some (0, s1))
set_option maxRecDepth 10000 in
theorem t_X6_readRepeat_69 (xs : Nat → Int) (e : Nat) (q : Int × pS) (X : List (Option pV) → List pV → Nat → pH → Prop) (hX : pm_clo 1001 xs (pCall pm_tx 1001 xs pm_P (e + 7)) (e + 7) mX6_readRepeat (eI q) X) : ∀  (y1 : Int) (d0 : Option pV) (d1 : Option pV) (d2 : Option pV) (d3 : Option pV) (d4 : Option pV) (d5 : Option pV) (d6 : Option pV) (s : pS), f_X6_readRepeat_69 y1 s = some q → X [d0, d1, d2, d3, d4, d5, d6] [vI y1, vR (cc 6 0)] 69 (pW s) := by
  intro y1 d0 d1 d2 d3 d4 d5 d6 s h
  unfold f_X6_readRepeat_69 at h
  obtain ⟨s1, hs1, h⟩ := bs_some h
  refine r_pfI hX (p2 := 72) rfl rfl (hc6 0 (by decide)) rfl rfl rfl rfl rfl rfl hs1 ?_
  refine r_iconst hX (p2 := 73) rfl rfl rfl ?_
  exact r_iretZ hX rfl rfl (Or.inl rfl) (eI_ok h)
noncomputable def f_X6_readRepeat_52 (s : pS) : Option (Int × pS) := (if (sI s 609 0) ≠ (sI s 610 0) then f_X6_readRepeat_69 0 s else f_X6_readRepeat_69 1 s)
set_option maxRecDepth 10000 in
theorem t_X6_readRepeat_52 (xs : Nat → Int) (e : Nat) (q : Int × pS) (X : List (Option pV) → List pV → Nat → pH → Prop) (hX : pm_clo 1001 xs (pCall pm_tx 1001 xs pm_P (e + 7)) (e + 7) mX6_readRepeat (eI q) X) : ∀  (d1 : Option pV) (d2 : Option pV) (d3 : Option pV) (d4 : Option pV) (d5 : Option pV) (d6 : Option pV) (s : pS), f_X6_readRepeat_52 s = some q → X [some (vR (cc 6 0)), d1, d2, d3, d4, d5, d6] [] 52 (pW s) := by
  intro d1 d2 d3 d4 d5 d6 s h
  unfold f_X6_readRepeat_52 at h
  refine r_aload_n hX (p2 := 53) rfl rfl rfl ⟨_, Or.inl rfl⟩ ?_
  refine r_aload_n hX (p2 := 54) rfl rfl rfl ⟨_, Or.inl rfl⟩ ?_
  refine r_gf hX (p2 := 57) (v := vI (sI s 609 0)) rfl rfl (hc6 0 (by decide)) rfl rfl rfl ?_
  refine r_aload_n hX (p2 := 58) rfl rfl rfl ⟨_, Or.inl rfl⟩ ?_
  refine r_gf hX (p2 := 61) (v := vI (sI s 610 0)) rfl rfl (hc6 0 (by decide)) rfl rfl rfl ?_
  refine r_icmp hX (p2 := 68) (p3 := 64) (P := (sI s 609 0) ≠ (sI s 610 0)) rfl (by decide) rfl rfl (fun p1 => ?_) (fun p1 => ?_)
  · have h := it_pos h p1
    refine r_iconst hX (p2 := 69) rfl rfl rfl ?_
    exact t_X6_readRepeat_69 xs e q X hX 0 (some (vR (cc 6 0))) d1 d2 d3 d4 d5 d6 s h
  · have h := it_neg h p1
    refine r_iconst hX (p2 := 65) rfl rfl rfl ?_
    refine r_goto hX (p2 := 69) rfl (by decide) ?_
    exact t_X6_readRepeat_69 xs e q X hX 1 (some (vR (cc 6 0))) d1 d2 d3 d4 d5 d6 s h
noncomputable def f_X6_readRepeat_134 (K102 : Int → Int → Int → pS → Option (Int × pS)) (K166 : pS → Option (Int × pS)) (K173 : Int → Int → pS → Option (Int × pS)) (x1 : Int) (x2 : Int) (y0 : Int) (s : pS) : Option (Int × pS) := (if y0 = 0 then K102 x1 x2 y0 s else ck (inR ((sI s 609 0) + 1)) (bs (wI s 609 0 ((sI s 609 0) + 1)) (fun s2 => ck (inR ((sI s2 612 0) - x2)) (ck (inR (((sI s2 612 0) - x2) + 1)) (ck (inR (x1 * (((sI s2 612 0) - x2) + 1))) (ck (inR (x2 + (x1 * (((sI s2 612 0) - x2) + 1)))) ((if (x2 + (x1 * (((sI s2 612 0) - x2) + 1))) ≤ 12 then K102 x1 x2 y0 s2 else K166 s2))))))))
set_option maxRecDepth 10000 in
theorem t_X6_readRepeat_134 (xs : Nat → Int) (e : Nat) (q : Int × pS) (X : List (Option pV) → List pV → Nat → pH → Prop) (hX : pm_clo 1001 xs (pCall pm_tx 1001 xs pm_P (e + 7)) (e + 7) mX6_readRepeat (eI q) X) (K102 : Int → Int → Int → pS → Option (Int × pS)) (K166 : pS → Option (Int × pS)) (K173 : Int → Int → pS → Option (Int × pS)) (hK102 : ∀ (x1 : Int) (x2 : Int) (x3 : Int) (d4 : Option pV) (d5 : Option pV) (d6 : Option pV) (s : pS), K102 x1 x2 x3 s = some q → X [some (vR (cc 6 0)), some (vI x1), some (vI x2), some (vI x3), d4, d5, d6] [] 102 (pW s)) (hK166 : ∀ (d1 : Option pV) (d2 : Option pV) (d3 : Option pV) (d4 : Option pV) (d5 : Option pV) (d6 : Option pV) (s : pS), K166 s = some q → X [some (vR (cc 6 0)), d1, d2, d3, d4, d5, d6] [] 166 (pW s)) (hK173 : ∀ (x1 : Int) (x2 : Int) (d3 : Option pV) (d4 : Option pV) (d5 : Option pV) (d6 : Option pV) (hd3 : pm_nc d3) (s : pS), K173 x1 x2 s = some q → X [some (vR (cc 6 0)), some (vI x1), some (vI x2), d3, d4, d5, d6] [] 173 (pW s)) : ∀  (x1 : Int) (x2 : Int) (y0 : Int) (d3 : Option pV) (d4 : Option pV) (d5 : Option pV) (d6 : Option pV) (s : pS), f_X6_readRepeat_134 K102 K166 K173 x1 x2 y0 s = some q → X [some (vR (cc 6 0)), some (vI x1), some (vI x2), d3, d4, d5, d6] [vI y0] 134 (pW s) := by
  intro x1 x2 y0 d3 d4 d5 d6 s h
  unfold f_X6_readRepeat_134 at h
  refine r_istore_n hX (p2 := 135) (ls2 := [some (vR (cc 6 0)), some (vI x1), some (vI x2), some (vI y0), d4, d5, d6]) rfl rfl rfl rfl ?_
  refine r_iload_n hX (p2 := 136) rfl rfl rfl ?_
  refine r_if hX (p2 := 102) (p3 := 139) (P := y0 = 0) rfl (by decide) rfl rfl (fun p8 => ?_) (fun p8 => ?_)
  · have h := it_pos h p8
    exact hK102 x1 x2 y0 d4 d5 d6 s h
  · have h := it_neg h p8
    refine r_aload_n hX (p2 := 140) rfl rfl rfl ⟨_, Or.inl rfl⟩ ?_
    refine r_dup hX (p2 := 141) rfl rfl rfl ?_
    refine r_gf hX (p2 := 144) (v := vI (sI s 609 0)) rfl rfl (hc6 0 (by decide)) rfl rfl rfl ?_
    refine r_iconst hX (p2 := 145) rfl rfl rfl ?_
    obtain ⟨c1, h⟩ := ck_some h
    refine r_iadd hX (p2 := 146) rfl rfl c1 ?_
    obtain ⟨s2, hs2, h⟩ := bs_some h
    refine r_pfI hX (p2 := 149) rfl rfl (hc6 0 (by decide)) rfl rfl rfl rfl rfl rfl hs2 ?_
    refine r_iload_n hX (p2 := 150) rfl rfl rfl ?_
    refine r_iload_n hX (p2 := 151) rfl rfl rfl ?_
    refine r_aload_n hX (p2 := 152) rfl rfl rfl ⟨_, Or.inl rfl⟩ ?_
    refine r_gf hX (p2 := 155) (v := vI (sI s2 612 0)) rfl rfl (hc6 0 (by decide)) rfl rfl rfl ?_
    refine r_iload_n hX (p2 := 156) rfl rfl rfl ?_
    obtain ⟨c3, h⟩ := ck_some h
    refine r_isub hX (p2 := 157) rfl rfl c3 ?_
    refine r_iconst hX (p2 := 158) rfl rfl rfl ?_
    obtain ⟨c4, h⟩ := ck_some h
    refine r_iadd hX (p2 := 159) rfl rfl c4 ?_
    obtain ⟨c5, h⟩ := ck_some h
    refine r_imul hX (p2 := 160) rfl rfl c5 ?_
    obtain ⟨c6, h⟩ := ck_some h
    refine r_iadd hX (p2 := 161) rfl rfl c6 ?_
    refine r_bipush hX (p2 := 163) rfl rfl rfl ?_
    refine r_icmp hX (p2 := 102) (p3 := 166) (P := (x2 + (x1 * (((sI s2 612 0) - x2) + 1))) ≤ 12) rfl (by decide) rfl rfl (fun p7 => ?_) (fun p7 => ?_)
    · have h := it_pos h p7
      exact hK102 x1 x2 y0 d4 d5 d6 s2 h
    · have h := it_neg h p7
      exact hK166 (some (vI x1)) (some (vI x2)) (some (vI y0)) d4 d5 d6 s2 h
noncomputable def f_X6_readRepeat_102 (K166 : pS → Option (Int × pS)) (K173 : Int → Int → pS → Option (Int × pS)) : Nat → Int → Int → Int → pS → Option (Int × pS)
  | 0, _, _, _, _ => none
  | n + 1, x1, x2, x3, s => (if x3 = 0 then K173 x1 x2 s else (f_X6_readTrack 1 s).bind (fun q1 => (if q1.1 ≠ 0 then (f_X6_keep q1.2).bind (fun q2 => (f_X6_now q2).bind (fun q3 => (if q3.1 ≠ 32 then f_X6_readRepeat_134 (f_X6_readRepeat_102 K166 K173 n) K166 K173 x1 x2 0 q3.2 else f_X6_readRepeat_134 (f_X6_readRepeat_102 K166 K173 n) K166 K173 x1 x2 1 q3.2))) else some (0, q1.2))))
set_option maxRecDepth 10000 in
theorem t_X6_readRepeat_102 (xs : Nat → Int) (e : Nat) (q : Int × pS) (X : List (Option pV) → List pV → Nat → pH → Prop) (hX : pm_clo 1001 xs (pCall pm_tx 1001 xs pm_P (e + 7)) (e + 7) mX6_readRepeat (eI q) X) (K166 : pS → Option (Int × pS)) (K173 : Int → Int → pS → Option (Int × pS)) (hK166 : ∀ (d1 : Option pV) (d2 : Option pV) (d3 : Option pV) (d4 : Option pV) (d5 : Option pV) (d6 : Option pV) (s : pS), K166 s = some q → X [some (vR (cc 6 0)), d1, d2, d3, d4, d5, d6] [] 166 (pW s)) (hK173 : ∀ (x1 : Int) (x2 : Int) (d3 : Option pV) (d4 : Option pV) (d5 : Option pV) (d6 : Option pV) (hd3 : pm_nc d3) (s : pS), K173 x1 x2 s = some q → X [some (vR (cc 6 0)), some (vI x1), some (vI x2), d3, d4, d5, d6] [] 173 (pW s)) : ∀ (n : Nat) (x1 : Int) (x2 : Int) (x3 : Int) (d4 : Option pV) (d5 : Option pV) (d6 : Option pV) (s : pS), f_X6_readRepeat_102 K166 K173 n x1 x2 x3 s = some q → X [some (vR (cc 6 0)), some (vI x1), some (vI x2), some (vI x3), d4, d5, d6] [] 102 (pW s) := by
  intro n
  induction n with
  | zero =>
    intro x1 x2 x3 d4 d5 d6 s h
    rw [f_X6_readRepeat_102] at h
    cases h
  | succ n ih =>
    intro x1 x2 x3 d4 d5 d6 s h
    rw [f_X6_readRepeat_102] at h
    refine r_iload_n hX (p2 := 103) rfl rfl rfl ?_
    refine r_if hX (p2 := 173) (p3 := 106) (P := x3 = 0) rfl (by decide) rfl rfl (fun p6 => ?_) (fun p6 => ?_)
    · have h := it_pos h p6
      exact hK173 x1 x2 (some (vI x3)) d4 d5 d6 rfl s h
    · have h := it_neg h p6
      refine r_aload_n hX (p2 := 107) rfl rfl rfl ⟨_, Or.inl rfl⟩ ?_
      refine r_iconst hX (p2 := 108) rfl rfl rfl ?_
      obtain ⟨q1, hq1, h⟩ := bd_some h
      refine r_callv hX (p2 := 111) (v := some (vI q1.1)) (as := [vI 1]) (r := []) (st2 := [vI q1.1]) rfl rfl rfl rfl rfl (hc6 0 (by decide)) rfl rfl (c_X6_readTrack xs e 1 s q1 hq1) ?_
      refine r_if hX (p2 := 116) (p3 := 114) (P := q1.1 ≠ 0) rfl (by decide) rfl rfl (fun p5 => ?_) (fun p5 => ?_)
      · have h := it_pos h p5
        refine r_aload_n hX (p2 := 117) rfl rfl rfl ⟨_, Or.inl rfl⟩ ?_
        obtain ⟨q2, hq2, h⟩ := bd_some h
        refine r_callv hX (p2 := 120) (v := none) (as := []) (r := []) (st2 := []) rfl rfl rfl rfl rfl (hc6 0 (by decide)) rfl rfl (c_X6_keep xs (e + 6) q1.2 q2 hq2) ?_
        refine r_aload_n hX (p2 := 121) rfl rfl rfl ⟨_, Or.inl rfl⟩ ?_
        obtain ⟨q3, hq3, h⟩ := bd_some h
        refine r_callv hX (p2 := 124) (v := some (vI q3.1)) (as := []) (r := []) (st2 := [vI q3.1]) rfl rfl rfl rfl rfl (hc6 0 (by decide)) rfl rfl (c_X6_now xs (e + 6) q2 q3 hq3) ?_
        refine r_bipush hX (p2 := 126) rfl rfl rfl ?_
        refine r_icmp hX (p2 := 133) (p3 := 129) (P := q3.1 ≠ 32) rfl (by decide) rfl rfl (fun p4 => ?_) (fun p4 => ?_)
        · have h := it_pos h p4
          refine r_iconst hX (p2 := 134) rfl rfl rfl ?_
          exact t_X6_readRepeat_134 xs e q X hX _ _ _ ih hK166 hK173 x1 x2 0 (some (vI x3)) d4 d5 d6 q3.2 h
        · have h := it_neg h p4
          refine r_iconst hX (p2 := 130) rfl rfl rfl ?_
          refine r_goto hX (p2 := 134) rfl (by decide) ?_
          exact t_X6_readRepeat_134 xs e q X hX _ _ _ ih hK166 hK173 x1 x2 1 (some (vI x3)) d4 d5 d6 q3.2 h
      · have h := it_neg h p5
        refine r_iconst hX (p2 := 115) rfl rfl rfl ?_
        exact r_iretZ hX rfl rfl (Or.inl rfl) (eI_ok h)
noncomputable def f_X6_readRepeat_196 (K288 : Int → Int → Int → pS → Option (Int × pS)) : Nat → Int → Int → Int → Int → pS → Option (Int × pS)
  | 0, _, _, _, _, _ => none
  | n + 1, x1, x2, x4, x5, s => ck (inR (x1 * x4)) ((if (x1 * x4) ≤ x5 then K288 x1 x2 x4 s else ck (inR (24 + x2)) (ck (inR ((24 + x2) + x5)) (bs (((24 + x2) + x5)) (fun v4 => ck (inR (v4 - x4)) (ck (0 ≤ (v4 - x4) ∧ (v4 - x4) < 48) (ck (0 ≤ v4 ∧ v4 < 48) (bs (wA s 605 0 (pm_up (sA s 605 0) v4.toNat (sA s 605 0 (v4 - x4).toNat))) (fun s8 => ck (inR (v4 - x4)) (ck (0 ≤ (v4 - x4) ∧ (v4 - x4) < 48) (ck (0 ≤ v4 ∧ v4 < 48) (bs (wA s8 606 0 (pm_up (sA s8 606 0) v4.toNat (sA s8 606 0 (v4 - x4).toNat))) (fun s12 => ck (inR (v4 - x4)) (ck (0 ≤ (v4 - x4) ∧ (v4 - x4) < 48) (ck (0 ≤ v4 ∧ v4 < 48) (bs (wB s12 607 0 (pm_up (sB s12 607 0) v4.toNat (sB s12 607 0 (v4 - x4).toNat))) (fun s16 => ck (inR (v4 - x4)) (ck (0 ≤ (v4 - x4) ∧ (v4 - x4) < 48) (ck (0 ≤ v4 ∧ v4 < 48) (bs (wB s16 608 0 (pm_up (sB s16 608 0) v4.toNat (sB s16 608 0 (v4 - x4).toNat))) (fun s20 => ck (inR (x5 + 1)) (f_X6_readRepeat_196 K288 n x1 x2 x4 (x5 + 1) s20))))))))))))))))))))))
set_option maxRecDepth 10000 in
theorem t_X6_readRepeat_196 (xs : Nat → Int) (e : Nat) (q : Int × pS) (X : List (Option pV) → List pV → Nat → pH → Prop) (hX : pm_clo 1001 xs (pCall pm_tx 1001 xs pm_P (e + 7)) (e + 7) mX6_readRepeat (eI q) X) (K288 : Int → Int → Int → pS → Option (Int × pS)) (hK288 : ∀ (x1 : Int) (x2 : Int) (x4 : Int) (d3 : Option pV) (d5 : Option pV) (d6 : Option pV) (s : pS), K288 x1 x2 x4 s = some q → X [some (vR (cc 6 0)), some (vI x1), some (vI x2), d3, some (vI x4), d5, d6] [] 288 (pW s)) : ∀ (n : Nat) (x1 : Int) (x2 : Int) (x4 : Int) (x5 : Int) (d3 : Option pV) (d6 : Option pV) (s : pS), f_X6_readRepeat_196 K288 n x1 x2 x4 x5 s = some q → X [some (vR (cc 6 0)), some (vI x1), some (vI x2), d3, some (vI x4), some (vI x5), d6] [] 196 (pW s) := by
  intro n
  induction n with
  | zero =>
    intro x1 x2 x4 x5 d3 d6 s h
    rw [f_X6_readRepeat_196] at h
    cases h
  | succ n ih =>
    intro x1 x2 x4 x5 d3 d6 s h
    rw [f_X6_readRepeat_196] at h
    refine r_iload hX (p2 := 198) rfl rfl rfl ?_
    refine r_iload_n hX (p2 := 199) rfl rfl rfl ?_
    refine r_iload hX (p2 := 201) rfl rfl rfl ?_
    obtain ⟨c1, h⟩ := ck_some h
    refine r_imul hX (p2 := 202) rfl rfl c1 ?_
    refine r_icmp hX (p2 := 288) (p3 := 205) (P := (x1 * x4) ≤ x5) rfl (by decide) rfl rfl (fun p22 => ?_) (fun p22 => ?_)
    · have h := it_pos h p22
      exact hK288 x1 x2 x4 d3 (some (vI x5)) d6 s h
    · have h := it_neg h p22
      refine r_bipush hX (p2 := 207) rfl rfl rfl ?_
      refine r_iload_n hX (p2 := 208) rfl rfl rfl ?_
      obtain ⟨c2, h⟩ := ck_some h
      refine r_iadd hX (p2 := 209) rfl rfl c2 ?_
      refine r_iload hX (p2 := 211) rfl rfl rfl ?_
      obtain ⟨c3, h⟩ := ck_some h
      refine r_iadd hX (p2 := 212) rfl rfl c3 ?_
      obtain ⟨v4, hv4, h⟩ := bs_some h
      refine r_istoreE hX (p2 := 214) (ls2 := [some (vR (cc 6 0)), some (vI x1), some (vI x2), d3, some (vI x4), some (vI x5), some (vI v4)]) rfl rfl hv4 rfl rfl ?_
      refine r_aload_n hX (p2 := 215) rfl rfl rfl ⟨_, Or.inl rfl⟩ ?_
      refine r_gf hX (p2 := 218) (v := vR (ca 605 0)) rfl rfl (hc6 0 (by decide)) rfl rfl rfl ?_
      refine r_iload hX (p2 := 220) rfl rfl rfl ?_
      refine r_aload_n hX (p2 := 221) rfl rfl rfl ⟨_, Or.inl rfl⟩ ?_
      refine r_gf hX (p2 := 224) (v := vR (ca 605 0)) rfl rfl (hc6 0 (by decide)) rfl rfl rfl ?_
      refine r_iload hX (p2 := 226) rfl rfl rfl ?_
      refine r_iload hX (p2 := 228) rfl rfl rfl ?_
      obtain ⟨c5, h⟩ := ck_some h
      refine r_isub hX (p2 := 229) rfl rfl c5 ?_
      obtain ⟨c6, h⟩ := ck_some h
      refine r_iaload hX (p2 := 230) (j := (v4 - x4).toNat) rfl rfl (ha605 0 (by decide)) rfl rfl c6 rfl ?_
      obtain ⟨c7, h⟩ := ck_some h
      obtain ⟨s8, hs8, h⟩ := bs_some h
      refine r_iastore hX (p2 := 231) (j := v4.toNat) rfl rfl (ha605 0 (by decide)) rfl rfl c7 rfl hs8 ?_
      refine r_aload_n hX (p2 := 232) rfl rfl rfl ⟨_, Or.inl rfl⟩ ?_
      refine r_gf hX (p2 := 235) (v := vR (ca 606 0)) rfl rfl (hc6 0 (by decide)) rfl rfl rfl ?_
      refine r_iload hX (p2 := 237) rfl rfl rfl ?_
      refine r_aload_n hX (p2 := 238) rfl rfl rfl ⟨_, Or.inl rfl⟩ ?_
      refine r_gf hX (p2 := 241) (v := vR (ca 606 0)) rfl rfl (hc6 0 (by decide)) rfl rfl rfl ?_
      refine r_iload hX (p2 := 243) rfl rfl rfl ?_
      refine r_iload hX (p2 := 245) rfl rfl rfl ?_
      obtain ⟨c9, h⟩ := ck_some h
      refine r_isub hX (p2 := 246) rfl rfl c9 ?_
      obtain ⟨c10, h⟩ := ck_some h
      refine r_iaload hX (p2 := 247) (j := (v4 - x4).toNat) rfl rfl (ha606 0 (by decide)) rfl rfl c10 rfl ?_
      obtain ⟨c11, h⟩ := ck_some h
      obtain ⟨s12, hs12, h⟩ := bs_some h
      refine r_iastore hX (p2 := 248) (j := v4.toNat) rfl rfl (ha606 0 (by decide)) rfl rfl c11 rfl hs12 ?_
      refine r_aload_n hX (p2 := 249) rfl rfl rfl ⟨_, Or.inl rfl⟩ ?_
      refine r_gf hX (p2 := 252) (v := vR (ca 607 0)) rfl rfl (hc6 0 (by decide)) rfl rfl rfl ?_
      refine r_iload hX (p2 := 254) rfl rfl rfl ?_
      refine r_aload_n hX (p2 := 255) rfl rfl rfl ⟨_, Or.inl rfl⟩ ?_
      refine r_gf hX (p2 := 258) (v := vR (ca 607 0)) rfl rfl (hc6 0 (by decide)) rfl rfl rfl ?_
      refine r_iload hX (p2 := 260) rfl rfl rfl ?_
      refine r_iload hX (p2 := 262) rfl rfl rfl ?_
      obtain ⟨c13, h⟩ := ck_some h
      refine r_isub hX (p2 := 263) rfl rfl c13 ?_
      obtain ⟨c14, h⟩ := ck_some h
      refine r_faload hX (p2 := 264) (j := (v4 - x4).toNat) rfl rfl (ha607 0 (by decide)) rfl rfl c14 rfl ?_
      obtain ⟨c15, h⟩ := ck_some h
      obtain ⟨s16, hs16, h⟩ := bs_some h
      refine r_fastore hX (p2 := 265) (j := v4.toNat) rfl rfl (ha607 0 (by decide)) rfl rfl c15 rfl hs16 ?_
      refine r_aload_n hX (p2 := 266) rfl rfl rfl ⟨_, Or.inl rfl⟩ ?_
      refine r_gf hX (p2 := 269) (v := vR (ca 608 0)) rfl rfl (hc6 0 (by decide)) rfl rfl rfl ?_
      refine r_iload hX (p2 := 271) rfl rfl rfl ?_
      refine r_aload_n hX (p2 := 272) rfl rfl rfl ⟨_, Or.inl rfl⟩ ?_
      refine r_gf hX (p2 := 275) (v := vR (ca 608 0)) rfl rfl (hc6 0 (by decide)) rfl rfl rfl ?_
      refine r_iload hX (p2 := 277) rfl rfl rfl ?_
      refine r_iload hX (p2 := 279) rfl rfl rfl ?_
      obtain ⟨c17, h⟩ := ck_some h
      refine r_isub hX (p2 := 280) rfl rfl c17 ?_
      obtain ⟨c18, h⟩ := ck_some h
      refine r_faload hX (p2 := 281) (j := (v4 - x4).toNat) rfl rfl (ha608 0 (by decide)) rfl rfl c18 rfl ?_
      obtain ⟨c19, h⟩ := ck_some h
      obtain ⟨s20, hs20, h⟩ := bs_some h
      refine r_fastore hX (p2 := 282) (j := v4.toNat) rfl rfl (ha608 0 (by decide)) rfl rfl c19 rfl hs20 ?_
      obtain ⟨c21, h⟩ := ck_some h
      refine r_iinc hX (p2 := 285) (ls2 := [some (vR (cc 6 0)), some (vI x1), some (vI x2), d3, some (vI x4), some (vI (x5 + 1)), some (vI v4)]) rfl rfl rfl rfl c21 rfl ?_
      refine r_goto hX (p2 := 196) rfl (by decide) ?_
      exact ih x1 x2 x4 (x5 + 1) d3 (some (vI v4)) s20 h
noncomputable def f_X6_readRepeat (s : pS) : Option (Int × pS) := (f_X6_takes 40 s).bind (fun q1 => (if q1.1 ≠ 0 then (f_X6_now q1.2).bind (fun q2 => ck (inR (q2.1 - 48)) (bs ((q2.1 - 48)) (fun v4 => (if (sI q2.2 609 0) = (sI q2.2 610 0) then f_X6_readRepeat_52 q2.2 else (if v4 < 1 then f_X6_readRepeat_52 q2.2 else (if 9 < v4 then f_X6_readRepeat_52 q2.2 else ck (inR ((sI q2.2 612 0) + v4)) ((if ((sI q2.2 612 0) + v4) ≤ 12 then ck (inR ((sI q2.2 609 0) + 1)) (bs (wI q2.2 609 0 ((sI q2.2 609 0) + 1)) (fun s7 => (f_X6_takes 44 s7).bind (fun q8 => (if q8.1 ≠ 0 then bs ((sI q8.2 612 0)) (fun v9 => f_X6_readRepeat_102 (fun s10 => bs (wI s10 611 0 0) (fun s11 => some (0, s11))) (fun x1 x2 s12 => (f_X6_takes 41 s12).bind (fun q13 => (if q13.1 ≠ 0 then ck (inR ((sI q13.2 612 0) - x2)) (bs (((sI q13.2 612 0) - x2)) (fun v15 => f_X6_readRepeat_196 (fun x1 x2 x4 s16 => ck (inR (x1 * x4)) (ck (inR (x2 + (x1 * x4))) (bs (wI s16 612 0 (x2 + (x1 * x4))) (fun s19 => some (1, s19))))) 400 x1 x2 v15 v15 q13.2)) else some (0, q13.2)))) 400 v4 v9 1 q8.2) else some (0, q8.2))))) else f_X6_readRepeat_52 q2.2)))))))) else some (0, q1.2)))
set_option maxRecDepth 10000 in
theorem c_X6_readRepeat (xs : Nat → Int) (e : Nat) (s : pS) (q : Int × pS) (h : f_X6_readRepeat s = some q) : pCall pm_tx 1001 xs pm_P (e + 7 + 1) 119 [vR (cc 6 0)] (pW s) (.inl (some (vI q.1))) (pW q.2) := by
  refine pCall_of mX6_readRepeat rfl rfl (fun X hX => ?_)
  show X [some (vR (cc 6 0)), none, none, none, none, none, none] [] 0 (pW s)
  replace hX : pm_clo 1001 xs (pCall pm_tx 1001 xs pm_P (e + 7)) (e + 7) mX6_readRepeat (eI q) X := hX
  unfold f_X6_readRepeat at h
  refine r_aload_n hX (p2 := 1) rfl rfl rfl ⟨_, Or.inl rfl⟩ ?_
  refine r_bipush hX (p2 := 3) rfl rfl rfl ?_
  obtain ⟨q1, hq1, h⟩ := bd_some h
  refine r_callv hX (p2 := 6) (v := some (vI q1.1)) (as := [vI 40]) (r := []) (st2 := [vI q1.1]) rfl rfl rfl rfl rfl (hc6 0 (by decide)) rfl rfl (c_X6_takes xs (e + 6) 40 s q1 hq1) ?_
  refine r_if hX (p2 := 11) (p3 := 9) (P := q1.1 ≠ 0) rfl (by decide) rfl rfl (fun p26 => ?_) (fun p26 => ?_)
  · have h := it_pos h p26
    refine r_aload_n hX (p2 := 12) rfl rfl rfl ⟨_, Or.inl rfl⟩ ?_
    obtain ⟨q2, hq2, h⟩ := bd_some h
    refine r_callv hX (p2 := 15) (v := some (vI q2.1)) (as := []) (r := []) (st2 := [vI q2.1]) rfl rfl rfl rfl rfl (hc6 0 (by decide)) rfl rfl (c_X6_now xs (e + 6) q1.2 q2 hq2) ?_
    refine r_bipush hX (p2 := 17) rfl rfl rfl ?_
    obtain ⟨c3, h⟩ := ck_some h
    refine r_isub hX (p2 := 18) rfl rfl c3 ?_
    obtain ⟨v4, hv4, h⟩ := bs_some h
    refine r_istoreE_n hX (p2 := 19) (ls2 := [some (vR (cc 6 0)), some (vI v4), none, none, none, none, none]) rfl rfl hv4 rfl rfl ?_
    refine r_aload_n hX (p2 := 20) rfl rfl rfl ⟨_, Or.inl rfl⟩ ?_
    refine r_gf hX (p2 := 23) (v := vI (sI q2.2 609 0)) rfl rfl (hc6 0 (by decide)) rfl rfl rfl ?_
    refine r_aload_n hX (p2 := 24) rfl rfl rfl ⟨_, Or.inl rfl⟩ ?_
    refine r_gf hX (p2 := 27) (v := vI (sI q2.2 610 0)) rfl rfl (hc6 0 (by decide)) rfl rfl rfl ?_
    refine r_icmp hX (p2 := 52) (p3 := 30) (P := (sI q2.2 609 0) = (sI q2.2 610 0)) rfl (by decide) rfl rfl (fun p25 => ?_) (fun p25 => ?_)
    · have h := it_pos h p25
      exact t_X6_readRepeat_52 xs e q X hX (some (vI v4)) none none none none none q2.2 h
    · have h := it_neg h p25
      refine r_iload_n hX (p2 := 31) rfl rfl rfl ?_
      refine r_iconst hX (p2 := 32) rfl rfl rfl ?_
      refine r_icmp hX (p2 := 52) (p3 := 35) (P := v4 < 1) rfl (by decide) rfl rfl (fun p24 => ?_) (fun p24 => ?_)
      · have h := it_pos h p24
        exact t_X6_readRepeat_52 xs e q X hX (some (vI v4)) none none none none none q2.2 h
      · have h := it_neg h p24
        refine r_iload_n hX (p2 := 36) rfl rfl rfl ?_
        refine r_bipush hX (p2 := 38) rfl rfl rfl ?_
        refine r_icmp hX (p2 := 52) (p3 := 41) (P := 9 < v4) rfl (by decide) rfl rfl (fun p23 => ?_) (fun p23 => ?_)
        · have h := it_pos h p23
          exact t_X6_readRepeat_52 xs e q X hX (some (vI v4)) none none none none none q2.2 h
        · have h := it_neg h p23
          refine r_aload_n hX (p2 := 42) rfl rfl rfl ⟨_, Or.inl rfl⟩ ?_
          refine r_gf hX (p2 := 45) (v := vI (sI q2.2 612 0)) rfl rfl (hc6 0 (by decide)) rfl rfl rfl ?_
          refine r_iload_n hX (p2 := 46) rfl rfl rfl ?_
          obtain ⟨c5, h⟩ := ck_some h
          refine r_iadd hX (p2 := 47) rfl rfl c5 ?_
          refine r_bipush hX (p2 := 49) rfl rfl rfl ?_
          refine r_icmp hX (p2 := 74) (p3 := 52) (P := ((sI q2.2 612 0) + v4) ≤ 12) rfl (by decide) rfl rfl (fun p22 => ?_) (fun p22 => ?_)
          · have h := it_pos h p22
            refine r_aload_n hX (p2 := 75) rfl rfl rfl ⟨_, Or.inl rfl⟩ ?_
            refine r_dup hX (p2 := 76) rfl rfl rfl ?_
            refine r_gf hX (p2 := 79) (v := vI (sI q2.2 609 0)) rfl rfl (hc6 0 (by decide)) rfl rfl rfl ?_
            refine r_iconst hX (p2 := 80) rfl rfl rfl ?_
            obtain ⟨c6, h⟩ := ck_some h
            refine r_iadd hX (p2 := 81) rfl rfl c6 ?_
            obtain ⟨s7, hs7, h⟩ := bs_some h
            refine r_pfI hX (p2 := 84) rfl rfl (hc6 0 (by decide)) rfl rfl rfl rfl rfl rfl hs7 ?_
            refine r_aload_n hX (p2 := 85) rfl rfl rfl ⟨_, Or.inl rfl⟩ ?_
            refine r_bipush hX (p2 := 87) rfl rfl rfl ?_
            obtain ⟨q8, hq8, h⟩ := bd_some h
            refine r_callv hX (p2 := 90) (v := some (vI q8.1)) (as := [vI 44]) (r := []) (st2 := [vI q8.1]) rfl rfl rfl rfl rfl (hc6 0 (by decide)) rfl rfl (c_X6_takes xs (e + 6) 44 s7 q8 hq8) ?_
            refine r_if hX (p2 := 95) (p3 := 93) (P := q8.1 ≠ 0) rfl (by decide) rfl rfl (fun p21 => ?_) (fun p21 => ?_)
            · have h := it_pos h p21
              refine r_aload_n hX (p2 := 96) rfl rfl rfl ⟨_, Or.inl rfl⟩ ?_
              refine r_gf hX (p2 := 99) (v := vI (sI q8.2 612 0)) rfl rfl (hc6 0 (by decide)) rfl rfl rfl ?_
              obtain ⟨v9, hv9, h⟩ := bs_some h
              refine r_istoreE_n hX (p2 := 100) (ls2 := [some (vR (cc 6 0)), some (vI v4), some (vI v9), none, none, none, none]) rfl rfl hv9 rfl rfl ?_
              refine r_iconst hX (p2 := 101) rfl rfl rfl ?_
              refine r_istore_n hX (p2 := 102) (ls2 := [some (vR (cc 6 0)), some (vI v4), some (vI v9), some (vI 1), none, none, none]) rfl rfl rfl rfl ?_
              refine t_X6_readRepeat_102 xs e q X hX _ _ (fun d1 d2 d3 d4 d5 d6 s10 h => ?_) (fun x1 x2 d3 d4 d5 d6 hd3 s12 h => ?_) 400 v4 v9 1 none none none q8.2 h
              · refine r_aload_n hX (p2 := 167) rfl rfl rfl ⟨_, Or.inl rfl⟩ ?_
                refine r_iconst hX (p2 := 168) rfl rfl rfl ?_
                obtain ⟨s11, hs11, h⟩ := bs_some h
                refine r_pfI hX (p2 := 171) rfl rfl (hc6 0 (by decide)) rfl rfl rfl rfl rfl rfl hs11 ?_
                refine r_iconst hX (p2 := 172) rfl rfl rfl ?_
                exact r_iretZ hX rfl rfl (Or.inl rfl) (eI_ok h)
              · refine r_aload_n hX (p2 := 174) rfl rfl rfl ⟨_, Or.inl rfl⟩ ?_
                refine r_bipush hX (p2 := 176) rfl rfl rfl ?_
                obtain ⟨q13, hq13, h⟩ := bd_some h
                refine r_callv hX (p2 := 179) (v := some (vI q13.1)) (as := [vI 41]) (r := []) (st2 := [vI q13.1]) rfl rfl rfl rfl rfl (hc6 0 (by decide)) rfl rfl (c_X6_takes xs (e + 6) 41 s12 q13 hq13) ?_
                refine r_if hX (p2 := 184) (p3 := 182) (P := q13.1 ≠ 0) rfl (by decide) rfl rfl (fun p20 => ?_) (fun p20 => ?_)
                · have h := it_pos h p20
                  refine r_aload_n hX (p2 := 185) rfl rfl rfl ⟨_, Or.inl rfl⟩ ?_
                  refine r_gf hX (p2 := 188) (v := vI (sI q13.2 612 0)) rfl rfl (hc6 0 (by decide)) rfl rfl rfl ?_
                  refine r_iload_n hX (p2 := 189) rfl rfl rfl ?_
                  obtain ⟨c14, h⟩ := ck_some h
                  refine r_isub hX (p2 := 190) rfl rfl c14 ?_
                  obtain ⟨v15, hv15, h⟩ := bs_some h
                  refine r_istoreE hX (p2 := 192) (ls2 := [some (vR (cc 6 0)), some (vI x1), some (vI x2), d3, some (vI v15), d5, d6]) rfl rfl hv15 rfl (st1_nc rfl hd3 rfl) ?_
                  refine r_iload hX (p2 := 194) rfl rfl rfl ?_
                  refine r_istore hX (p2 := 196) (ls2 := [some (vR (cc 6 0)), some (vI x1), some (vI x2), d3, some (vI v15), some (vI v15), d6]) rfl rfl rfl rfl ?_
                  refine t_X6_readRepeat_196 xs e q X hX _ (fun x1 x2 x4 d3 d5 d6 s16 h => ?_) 400 x1 x2 v15 v15 d3 d6 q13.2 h
                  refine r_aload_n hX (p2 := 289) rfl rfl rfl ⟨_, Or.inl rfl⟩ ?_
                  refine r_iload_n hX (p2 := 290) rfl rfl rfl ?_
                  refine r_iload_n hX (p2 := 291) rfl rfl rfl ?_
                  refine r_iload hX (p2 := 293) rfl rfl rfl ?_
                  obtain ⟨c17, h⟩ := ck_some h
                  refine r_imul hX (p2 := 294) rfl rfl c17 ?_
                  obtain ⟨c18, h⟩ := ck_some h
                  refine r_iadd hX (p2 := 295) rfl rfl c18 ?_
                  obtain ⟨s19, hs19, h⟩ := bs_some h
                  refine r_pfI hX (p2 := 298) rfl rfl (hc6 0 (by decide)) rfl rfl rfl rfl rfl rfl hs19 ?_
                  refine r_iconst hX (p2 := 299) rfl rfl rfl ?_
                  exact r_iretZ hX rfl rfl (Or.inr rfl) (eI_ok h)
                · have h := it_neg h p20
                  refine r_iconst hX (p2 := 183) rfl rfl rfl ?_
                  exact r_iretZ hX rfl rfl (Or.inl rfl) (eI_ok h)
            · have h := it_neg h p21
              refine r_iconst hX (p2 := 94) rfl rfl rfl ?_
              exact r_iretZ hX rfl rfl (Or.inl rfl) (eI_ok h)
          · have h := it_neg h p22
            exact t_X6_readRepeat_52 xs e q X hX (some (vI v4)) none none none none none q2.2 h
  · have h := it_neg h p26
    refine r_iconst hX (p2 := 10) rfl rfl rfl ?_
    exact r_iretZ hX rfl rfl (Or.inl rfl) (eI_ok h)
noncomputable def f_X6_reads_62 (K21 : pS → Option (Int × pS)) (K93 : pS → Option (Int × pS)) (K116 : pS → Option (Int × pS)) (s : pS) : Option (Int × pS) := (if (sI s 609 0) ≠ (sI s 610 0) then (f_X6_now s).bind (fun q1 => (if q1.1 ≠ 32 then K93 q1.2 else (if (sI q1.2 612 0) ≠ 12 then ck (inR ((sI q1.2 609 0) + 1)) (bs (wI q1.2 609 0 ((sI q1.2 609 0) + 1)) (fun s3 => (if (sI s3 609 0) ≠ (sI s3 610 0) then K21 s3 else K116 s3))) else K93 q1.2))) else some (2, s))
set_option maxRecDepth 10000 in
theorem t_X6_reads_62 (xs : Nat → Int) (e : Nat) (q : Int × pS) (X : List (Option pV) → List pV → Nat → pH → Prop) (hX : pm_clo 1001 xs (pCall pm_tx 1001 xs pm_P (e + 8)) (e + 8) mX6_reads (eI q) X) (K21 : pS → Option (Int × pS)) (K93 : pS → Option (Int × pS)) (K116 : pS → Option (Int × pS)) (hK21 : ∀ (d1 : Option pV) (s : pS), K21 s = some q → X [some (vR (cc 6 0)), d1] [] 21 (pW s)) (hK93 : ∀ (d0 : Option pV) (d1 : Option pV) (s : pS), K93 s = some q → X [d0, d1] [] 93 (pW s)) (hK116 : ∀ (d0 : Option pV) (d1 : Option pV) (s : pS), K116 s = some q → X [d0, d1] [] 116 (pW s)) : ∀  (d1 : Option pV) (s : pS), f_X6_reads_62 K21 K93 K116 s = some q → X [some (vR (cc 6 0)), d1] [] 62 (pW s) := by
  intro d1 s h
  unfold f_X6_reads_62 at h
  refine r_aload_n hX (p2 := 63) rfl rfl rfl ⟨_, Or.inl rfl⟩ ?_
  refine r_gf hX (p2 := 66) (v := vI (sI s 609 0)) rfl rfl (hc6 0 (by decide)) rfl rfl rfl ?_
  refine r_aload_n hX (p2 := 67) rfl rfl rfl ⟨_, Or.inl rfl⟩ ?_
  refine r_gf hX (p2 := 70) (v := vI (sI s 610 0)) rfl rfl (hc6 0 (by decide)) rfl rfl rfl ?_
  refine r_icmp hX (p2 := 75) (p3 := 73) (P := (sI s 609 0) ≠ (sI s 610 0)) rfl (by decide) rfl rfl (fun p7 => ?_) (fun p7 => ?_)
  · have h := it_pos h p7
    refine r_aload_n hX (p2 := 76) rfl rfl rfl ⟨_, Or.inl rfl⟩ ?_
    obtain ⟨q1, hq1, h⟩ := bd_some h
    refine r_callv hX (p2 := 79) (v := some (vI q1.1)) (as := []) (r := []) (st2 := [vI q1.1]) rfl rfl rfl rfl rfl (hc6 0 (by decide)) rfl rfl (c_X6_now xs (e + 7) s q1 hq1) ?_
    refine r_bipush hX (p2 := 81) rfl rfl rfl ?_
    refine r_icmp hX (p2 := 93) (p3 := 84) (P := q1.1 ≠ 32) rfl (by decide) rfl rfl (fun p6 => ?_) (fun p6 => ?_)
    · have h := it_pos h p6
      exact hK93 (some (vR (cc 6 0))) d1 q1.2 h
    · have h := it_neg h p6
      refine r_aload_n hX (p2 := 85) rfl rfl rfl ⟨_, Or.inl rfl⟩ ?_
      refine r_gf hX (p2 := 88) (v := vI (sI q1.2 612 0)) rfl rfl (hc6 0 (by decide)) rfl rfl rfl ?_
      refine r_bipush hX (p2 := 90) rfl rfl rfl ?_
      refine r_icmp hX (p2 := 95) (p3 := 93) (P := (sI q1.2 612 0) ≠ 12) rfl (by decide) rfl rfl (fun p5 => ?_) (fun p5 => ?_)
      · have h := it_pos h p5
        refine r_aload_n hX (p2 := 96) rfl rfl rfl ⟨_, Or.inl rfl⟩ ?_
        refine r_dup hX (p2 := 97) rfl rfl rfl ?_
        refine r_gf hX (p2 := 100) (v := vI (sI q1.2 609 0)) rfl rfl (hc6 0 (by decide)) rfl rfl rfl ?_
        refine r_iconst hX (p2 := 101) rfl rfl rfl ?_
        obtain ⟨c2, h⟩ := ck_some h
        refine r_iadd hX (p2 := 102) rfl rfl c2 ?_
        obtain ⟨s3, hs3, h⟩ := bs_some h
        refine r_pfI hX (p2 := 105) rfl rfl (hc6 0 (by decide)) rfl rfl rfl rfl rfl rfl hs3 ?_
        refine r_aload_n hX (p2 := 106) rfl rfl rfl ⟨_, Or.inl rfl⟩ ?_
        refine r_gf hX (p2 := 109) (v := vI (sI s3 609 0)) rfl rfl (hc6 0 (by decide)) rfl rfl rfl ?_
        refine r_aload_n hX (p2 := 110) rfl rfl rfl ⟨_, Or.inl rfl⟩ ?_
        refine r_gf hX (p2 := 113) (v := vI (sI s3 610 0)) rfl rfl (hc6 0 (by decide)) rfl rfl rfl ?_
        refine r_icmp hX (p2 := 21) (p3 := 116) (P := (sI s3 609 0) ≠ (sI s3 610 0)) rfl (by decide) rfl rfl (fun p4 => ?_) (fun p4 => ?_)
        · have h := it_pos h p4
          exact hK21 d1 s3 h
        · have h := it_neg h p4
          exact hK116 (some (vR (cc 6 0))) d1 s3 h
      · have h := it_neg h p5
        exact hK93 (some (vR (cc 6 0))) d1 q1.2 h
  · have h := it_neg h p7
    refine r_iconst hX (p2 := 74) rfl rfl rfl ?_
    exact r_iretI hX rfl rfl (eI_ok h)
noncomputable def f_X6_reads_21 (K93 : pS → Option (Int × pS)) (K116 : pS → Option (Int × pS)) : Nat → pS → Option (Int × pS)
  | 0, _ => none
  | n + 1, s => bs (wI s 611 0 0) (fun s1 => (f_X6_isRepeat s1).bind (fun q2 => (if q2.1 = 0 then (f_X6_readTrack 0 q2.2).bind (fun q3 => (if q3.1 ≠ 0 then (f_X6_keep q3.2).bind (fun q4 => f_X6_reads_62 (f_X6_reads_21 K93 K116 n) K93 K116 q4) else some ((sI q3.2 611 0), q3.2))) else (f_X6_readRepeat q2.2).bind (fun q6 => (if q6.1 ≠ 0 then f_X6_reads_62 (f_X6_reads_21 K93 K116 n) K93 K116 q6.2 else some ((sI q6.2 611 0), q6.2))))))
set_option maxRecDepth 10000 in
theorem t_X6_reads_21 (xs : Nat → Int) (e : Nat) (q : Int × pS) (X : List (Option pV) → List pV → Nat → pH → Prop) (hX : pm_clo 1001 xs (pCall pm_tx 1001 xs pm_P (e + 8)) (e + 8) mX6_reads (eI q) X) (K93 : pS → Option (Int × pS)) (K116 : pS → Option (Int × pS)) (hK93 : ∀ (d0 : Option pV) (d1 : Option pV) (s : pS), K93 s = some q → X [d0, d1] [] 93 (pW s)) (hK116 : ∀ (d0 : Option pV) (d1 : Option pV) (s : pS), K116 s = some q → X [d0, d1] [] 116 (pW s)) : ∀ (n : Nat) (d1 : Option pV) (s : pS), f_X6_reads_21 K93 K116 n s = some q → X [some (vR (cc 6 0)), d1] [] 21 (pW s) := by
  intro n
  induction n with
  | zero =>
    intro d1 s h
    rw [f_X6_reads_21] at h
    cases h
  | succ n ih =>
    intro d1 s h
    rw [f_X6_reads_21] at h
    refine r_aload_n hX (p2 := 22) rfl rfl rfl ⟨_, Or.inl rfl⟩ ?_
    refine r_iconst hX (p2 := 23) rfl rfl rfl ?_
    obtain ⟨s1, hs1, h⟩ := bs_some h
    refine r_pfI hX (p2 := 26) rfl rfl (hc6 0 (by decide)) rfl rfl rfl rfl rfl rfl hs1 ?_
    refine r_aload_n hX (p2 := 27) rfl rfl rfl ⟨_, Or.inl rfl⟩ ?_
    obtain ⟨q2, hq2, h⟩ := bd_some h
    refine r_callv hX (p2 := 30) (v := some (vI q2.1)) (as := []) (r := []) (st2 := [vI q2.1]) rfl rfl rfl rfl rfl (hc6 0 (by decide)) rfl rfl (c_X6_isRepeat xs (e + 5) s1 q2 hq2) ?_
    refine r_if hX (p2 := 45) (p3 := 33) (P := q2.1 = 0) rfl (by decide) rfl rfl (fun p8 => ?_) (fun p8 => ?_)
    · have h := it_pos h p8
      refine r_aload_n hX (p2 := 46) rfl rfl rfl ⟨_, Or.inl rfl⟩ ?_
      refine r_iconst hX (p2 := 47) rfl rfl rfl ?_
      obtain ⟨q3, hq3, h⟩ := bd_some h
      refine r_callv hX (p2 := 50) (v := some (vI q3.1)) (as := [vI 0]) (r := []) (st2 := [vI q3.1]) rfl rfl rfl rfl rfl (hc6 0 (by decide)) rfl rfl (c_X6_readTrack xs (e + 1) 0 q2.2 q3 hq3) ?_
      refine r_if hX (p2 := 58) (p3 := 53) (P := q3.1 ≠ 0) rfl (by decide) rfl rfl (fun p5 => ?_) (fun p5 => ?_)
      · have h := it_pos h p5
        refine r_aload_n hX (p2 := 59) rfl rfl rfl ⟨_, Or.inl rfl⟩ ?_
        obtain ⟨q4, hq4, h⟩ := bd_some h
        refine r_callv hX (p2 := 62) (v := none) (as := []) (r := []) (st2 := []) rfl rfl rfl rfl rfl (hc6 0 (by decide)) rfl rfl (c_X6_keep xs (e + 7) q3.2 q4 hq4) ?_
        exact t_X6_reads_62 xs e q X hX _ _ _ ih hK93 hK116 d1 q4 h
      · have h := it_neg h p5
        refine r_aload_n hX (p2 := 54) rfl rfl rfl ⟨_, Or.inl rfl⟩ ?_
        refine r_gf hX (p2 := 57) (v := vI (sI q3.2 611 0)) rfl rfl (hc6 0 (by decide)) rfl rfl rfl ?_
        exact r_iretI hX rfl rfl (eI_ok h)
    · have h := it_neg h p8
      refine r_aload_n hX (p2 := 34) rfl rfl rfl ⟨_, Or.inl rfl⟩ ?_
      obtain ⟨q6, hq6, h⟩ := bd_some h
      refine r_callv hX (p2 := 37) (v := some (vI q6.1)) (as := []) (r := []) (st2 := [vI q6.1]) rfl rfl rfl rfl rfl (hc6 0 (by decide)) rfl rfl (c_X6_readRepeat xs e q2.2 q6 hq6) ?_
      refine r_if hX (p2 := 62) (p3 := 40) (P := q6.1 ≠ 0) rfl (by decide) rfl rfl (fun p7 => ?_) (fun p7 => ?_)
      · have h := it_pos h p7
        exact t_X6_reads_62 xs e q X hX _ _ _ ih hK93 hK116 d1 q6.2 h
      · have h := it_neg h p7
        refine r_aload_n hX (p2 := 41) rfl rfl rfl ⟨_, Or.inl rfl⟩ ?_
        refine r_gf hX (p2 := 44) (v := vI (sI q6.2 611 0)) rfl rfl (hc6 0 (by decide)) rfl rfl rfl ?_
        exact r_iretI hX rfl rfl (eI_ok h)
noncomputable def f_X6_reads_93 (s : pS) : Option (Int × pS) := some (0, s)
set_option maxRecDepth 10000 in
theorem t_X6_reads_93 (xs : Nat → Int) (e : Nat) (q : Int × pS) (X : List (Option pV) → List pV → Nat → pH → Prop) (hX : pm_clo 1001 xs (pCall pm_tx 1001 xs pm_P (e + 8)) (e + 8) mX6_reads (eI q) X) : ∀  (d0 : Option pV) (d1 : Option pV) (s : pS), f_X6_reads_93 s = some q → X [d0, d1] [] 93 (pW s) := by
  intro d0 d1 s h
  unfold f_X6_reads_93 at h
  refine r_iconst hX (p2 := 94) rfl rfl rfl ?_
  exact r_iretI hX rfl rfl (eI_ok h)
noncomputable def f_X6_reads (a1 : Int) (s : pS) : Option (Int × pS) := bs (wI s 609 0 0) (fun s1 => bs (wI s1 610 0 a1) (fun s2 => bs (wI s2 612 0 0) (fun s3 => (if a1 ≠ 0 then f_X6_reads_21 (fun s4 => f_X6_reads_93 s4) (fun s5 => some (1, s5)) 400 s3 else some (2, s3)))))
set_option maxRecDepth 10000 in
theorem c_X6_reads (xs : Nat → Int) (e : Nat) (a1 : Int) (s : pS) (q : Int × pS) (h : f_X6_reads a1 s = some q) : pCall pm_tx 1001 xs pm_P (e + 8 + 1) 120 [vR (cc 6 0), vI a1] (pW s) (.inl (some (vI q.1))) (pW q.2) := by
  refine pCall_of mX6_reads rfl rfl (fun X hX => ?_)
  show X [some (vR (cc 6 0)), some (vI a1)] [] 0 (pW s)
  replace hX : pm_clo 1001 xs (pCall pm_tx 1001 xs pm_P (e + 8)) (e + 8) mX6_reads (eI q) X := hX
  unfold f_X6_reads at h
  refine r_aload_n hX (p2 := 1) rfl rfl rfl ⟨_, Or.inl rfl⟩ ?_
  refine r_iconst hX (p2 := 2) rfl rfl rfl ?_
  obtain ⟨s1, hs1, h⟩ := bs_some h
  refine r_pfI hX (p2 := 5) rfl rfl (hc6 0 (by decide)) rfl rfl rfl rfl rfl rfl hs1 ?_
  refine r_aload_n hX (p2 := 6) rfl rfl rfl ⟨_, Or.inl rfl⟩ ?_
  refine r_iload_n hX (p2 := 7) rfl rfl rfl ?_
  obtain ⟨s2, hs2, h⟩ := bs_some h
  refine r_pfI hX (p2 := 10) rfl rfl (hc6 0 (by decide)) rfl rfl rfl rfl rfl rfl hs2 ?_
  refine r_aload_n hX (p2 := 11) rfl rfl rfl ⟨_, Or.inl rfl⟩ ?_
  refine r_iconst hX (p2 := 12) rfl rfl rfl ?_
  obtain ⟨s3, hs3, h⟩ := bs_some h
  refine r_pfI hX (p2 := 15) rfl rfl (hc6 0 (by decide)) rfl rfl rfl rfl rfl rfl hs3 ?_
  refine r_iload_n hX (p2 := 16) rfl rfl rfl ?_
  refine r_if hX (p2 := 21) (p3 := 19) (P := a1 ≠ 0) rfl (by decide) rfl rfl (fun p6 => ?_) (fun p6 => ?_)
  · have h := it_pos h p6
    refine t_X6_reads_21 xs e q X hX _ _ (fun d0 d1 s4 h => ?_) (fun d0 d1 s5 h => ?_) 400 (some (vI a1)) s3 h
    · exact t_X6_reads_93 xs e q X hX d0 d1 s4 h
    · refine r_iconst hX (p2 := 117) rfl rfl rfl ?_
      exact r_iretI hX rfl rfl (eI_ok h)
  · have h := it_neg h p6
    refine r_iconst hX (p2 := 20) rfl rfl rfl ?_
    exact r_iretI hX rfl rfl (eI_ok h)
noncomputable def f_X6_template_43 (K64 : Int → pS → Option (Int × pS)) : Nat → Int → Int → pS → Option (Int × pS)
  | 0, _, _, _ => none
  | n + 1, x2, x3, s => (if x2 ≤ x3 then K64 x3 s else ck (inR (x3 + 1)) ((f_X6_reads (x3 + 1) s).bind (fun q2 => (if q2.1 = 0 then K64 x3 q2.2 else ck (inR (x3 + 1)) (f_X6_template_43 K64 n x2 (x3 + 1) q2.2)))))
set_option maxRecDepth 10000 in
theorem t_X6_template_43 (xs : Nat → Int) (e : Nat) (q : Int × pS) (X : List (Option pV) → List pV → Nat → pH → Prop) (hX : pm_clo 1001 xs (pCall pm_tx 1001 xs pm_P (e + 9)) (e + 9) mX6_template (eI q) X) (K64 : Int → pS → Option (Int × pS)) (hK64 : ∀ (x3 : Int) (d1 : Option pV) (d2 : Option pV) (s : pS), K64 x3 s = some q → X [some (vR (cc 6 0)), d1, d2, some (vI x3)] [] 64 (pW s)) : ∀ (n : Nat) (x2 : Int) (x3 : Int) (d1 : Option pV) (s : pS), f_X6_template_43 K64 n x2 x3 s = some q → X [some (vR (cc 6 0)), d1, some (vI x2), some (vI x3)] [] 43 (pW s) := by
  intro n
  induction n with
  | zero =>
    intro x2 x3 d1 s h
    rw [f_X6_template_43] at h
    cases h
  | succ n ih =>
    intro x2 x3 d1 s h
    rw [f_X6_template_43] at h
    refine r_iload_n hX (p2 := 44) rfl rfl rfl ?_
    refine r_iload_n hX (p2 := 45) rfl rfl rfl ?_
    refine r_icmp hX (p2 := 64) (p3 := 48) (P := x2 ≤ x3) rfl (by decide) rfl rfl (fun p5 => ?_) (fun p5 => ?_)
    · have h := it_pos h p5
      exact hK64 x3 d1 (some (vI x2)) s h
    · have h := it_neg h p5
      refine r_aload_n hX (p2 := 49) rfl rfl rfl ⟨_, Or.inl rfl⟩ ?_
      refine r_iload_n hX (p2 := 50) rfl rfl rfl ?_
      refine r_iconst hX (p2 := 51) rfl rfl rfl ?_
      obtain ⟨c1, h⟩ := ck_some h
      refine r_iadd hX (p2 := 52) rfl rfl c1 ?_
      obtain ⟨q2, hq2, h⟩ := bd_some h
      refine r_callv hX (p2 := 55) (v := some (vI q2.1)) (as := [vI (x3 + 1)]) (r := []) (st2 := [vI q2.1]) rfl rfl rfl rfl rfl (hc6 0 (by decide)) rfl rfl (c_X6_reads xs e (x3 + 1) s q2 hq2) ?_
      refine r_if hX (p2 := 64) (p3 := 58) (P := q2.1 = 0) rfl (by decide) rfl rfl (fun p4 => ?_) (fun p4 => ?_)
      · have h := it_pos h p4
        exact hK64 x3 d1 (some (vI x2)) q2.2 h
      · have h := it_neg h p4
        obtain ⟨c3, h⟩ := ck_some h
        refine r_iinc hX (p2 := 61) (ls2 := [some (vR (cc 6 0)), d1, some (vI x2), some (vI (x3 + 1))]) rfl rfl rfl rfl c3 rfl ?_
        refine r_goto hX (p2 := 43) rfl (by decide) ?_
        exact ih x2 (x3 + 1) d1 q2.2 h
noncomputable def f_X6_template_64 (x3 : Int) (s : pS) : Option (Int × pS) := bs (wI s 603 0 x3) (fun s1 => bs (wI s1 600 0 1) (fun s2 => some (0, s2)))
set_option maxRecDepth 10000 in
theorem t_X6_template_64 (xs : Nat → Int) (e : Nat) (q : Int × pS) (X : List (Option pV) → List pV → Nat → pH → Prop) (hX : pm_clo 1001 xs (pCall pm_tx 1001 xs pm_P (e + 9)) (e + 9) mX6_template (eI q) X) : ∀  (x3 : Int) (d1 : Option pV) (d2 : Option pV) (s : pS), f_X6_template_64 x3 s = some q → X [some (vR (cc 6 0)), d1, d2, some (vI x3)] [] 64 (pW s) := by
  intro x3 d1 d2 s h
  unfold f_X6_template_64 at h
  refine r_aload_n hX (p2 := 65) rfl rfl rfl ⟨_, Or.inl rfl⟩ ?_
  refine r_iload_n hX (p2 := 66) rfl rfl rfl ?_
  obtain ⟨s1, hs1, h⟩ := bs_some h
  refine r_pfI hX (p2 := 69) rfl rfl (hc6 0 (by decide)) rfl rfl rfl rfl rfl rfl hs1 ?_
  refine r_aload_n hX (p2 := 70) rfl rfl rfl ⟨_, Or.inl rfl⟩ ?_
  refine r_iconst hX (p2 := 71) rfl rfl rfl ?_
  obtain ⟨s2, hs2, h⟩ := bs_some h
  refine r_pfI hX (p2 := 74) rfl rfl (hc6 0 (by decide)) rfl rfl rfl rfl rfl rfl hs2 ?_
  refine r_iconst hX (p2 := 75) rfl rfl rfl ?_
  exact r_iretI hX rfl rfl (eI_ok h)
noncomputable def f_X6_template_78 (K172 : Int → pS → Option (Int × pS)) : Nat → Int → Int → pS → Option (Int × pS)
  | 0, _, _, _ => none
  | n + 1, x1, x3, s => (if (sI s 612 0) ≤ x3 then K172 x1 s else ck (inR (12 * x1)) (ck (inR ((12 * x1) + x3)) (ck (inR (24 + x3)) (ck (0 ≤ (24 + x3) ∧ (24 + x3) < 48) (ck (0 ≤ ((12 * x1) + x3) ∧ ((12 * x1) + x3) < 48) (bs (wA s 605 0 (pm_up (sA s 605 0) ((12 * x1) + x3).toNat (sA s 605 0 (24 + x3).toNat))) (fun s6 => ck (inR (12 * x1)) (ck (inR ((12 * x1) + x3)) (ck (inR (24 + x3)) (ck (0 ≤ (24 + x3) ∧ (24 + x3) < 48) (ck (0 ≤ ((12 * x1) + x3) ∧ ((12 * x1) + x3) < 48) (bs (wA s6 606 0 (pm_up (sA s6 606 0) ((12 * x1) + x3).toNat (sA s6 606 0 (24 + x3).toNat))) (fun s12 => ck (inR (12 * x1)) (ck (inR ((12 * x1) + x3)) (ck (inR (24 + x3)) (ck (0 ≤ (24 + x3) ∧ (24 + x3) < 48) (ck (0 ≤ ((12 * x1) + x3) ∧ ((12 * x1) + x3) < 48) (bs (wB s12 607 0 (pm_up (sB s12 607 0) ((12 * x1) + x3).toNat (sB s12 607 0 (24 + x3).toNat))) (fun s18 => ck (inR (12 * x1)) (ck (inR ((12 * x1) + x3)) (ck (inR (24 + x3)) (ck (0 ≤ (24 + x3) ∧ (24 + x3) < 48) (ck (0 ≤ ((12 * x1) + x3) ∧ ((12 * x1) + x3) < 48) (bs (wB s18 608 0 (pm_up (sB s18 608 0) ((12 * x1) + x3).toNat (sB s18 608 0 (24 + x3).toNat))) (fun s24 => ck (inR (x3 + 1)) (f_X6_template_78 K172 n x1 (x3 + 1) s24))))))))))))))))))))))))))
set_option maxRecDepth 10000 in
theorem t_X6_template_78 (xs : Nat → Int) (e : Nat) (q : Int × pS) (X : List (Option pV) → List pV → Nat → pH → Prop) (hX : pm_clo 1001 xs (pCall pm_tx 1001 xs pm_P (e + 9)) (e + 9) mX6_template (eI q) X) (K172 : Int → pS → Option (Int × pS)) (hK172 : ∀ (x1 : Int) (d2 : Option pV) (d3 : Option pV) (s : pS), K172 x1 s = some q → X [some (vR (cc 6 0)), some (vI x1), d2, d3] [] 172 (pW s)) : ∀ (n : Nat) (x1 : Int) (x3 : Int) (d2 : Option pV) (hd2 : pm_nc d2) (s : pS), f_X6_template_78 K172 n x1 x3 s = some q → X [some (vR (cc 6 0)), some (vI x1), d2, some (vI x3)] [] 78 (pW s) := by
  intro n
  induction n with
  | zero =>
    intro x1 x3 d2 hd2 s h
    rw [f_X6_template_78] at h
    cases h
  | succ n ih =>
    intro x1 x3 d2 hd2 s h
    rw [f_X6_template_78] at h
    refine r_iload_n hX (p2 := 79) rfl rfl rfl ?_
    refine r_aload_n hX (p2 := 80) rfl rfl rfl ⟨_, Or.inl rfl⟩ ?_
    refine r_gf hX (p2 := 83) (v := vI (sI s 612 0)) rfl rfl (hc6 0 (by decide)) rfl rfl rfl ?_
    refine r_icmp hX (p2 := 172) (p3 := 86) (P := (sI s 612 0) ≤ x3) rfl (by decide) rfl rfl (fun p26 => ?_) (fun p26 => ?_)
    · have h := it_pos h p26
      exact hK172 x1 d2 (some (vI x3)) s h
    · have h := it_neg h p26
      refine r_aload_n hX (p2 := 87) rfl rfl rfl ⟨_, Or.inl rfl⟩ ?_
      refine r_gf hX (p2 := 90) (v := vR (ca 605 0)) rfl rfl (hc6 0 (by decide)) rfl rfl rfl ?_
      refine r_bipush hX (p2 := 92) rfl rfl rfl ?_
      refine r_iload_n hX (p2 := 93) rfl rfl rfl ?_
      obtain ⟨c1, h⟩ := ck_some h
      refine r_imul hX (p2 := 94) rfl rfl c1 ?_
      refine r_iload_n hX (p2 := 95) rfl rfl rfl ?_
      obtain ⟨c2, h⟩ := ck_some h
      refine r_iadd hX (p2 := 96) rfl rfl c2 ?_
      refine r_aload_n hX (p2 := 97) rfl rfl rfl ⟨_, Or.inl rfl⟩ ?_
      refine r_gf hX (p2 := 100) (v := vR (ca 605 0)) rfl rfl (hc6 0 (by decide)) rfl rfl rfl ?_
      refine r_bipush hX (p2 := 102) rfl rfl rfl ?_
      refine r_iload_n hX (p2 := 103) rfl rfl rfl ?_
      obtain ⟨c3, h⟩ := ck_some h
      refine r_iadd hX (p2 := 104) rfl rfl c3 ?_
      obtain ⟨c4, h⟩ := ck_some h
      refine r_iaload hX (p2 := 105) (j := (24 + x3).toNat) rfl rfl (ha605 0 (by decide)) rfl rfl c4 rfl ?_
      obtain ⟨c5, h⟩ := ck_some h
      obtain ⟨s6, hs6, h⟩ := bs_some h
      refine r_iastore hX (p2 := 106) (j := ((12 * x1) + x3).toNat) rfl rfl (ha605 0 (by decide)) rfl rfl c5 rfl hs6 ?_
      refine r_aload_n hX (p2 := 107) rfl rfl rfl ⟨_, Or.inl rfl⟩ ?_
      refine r_gf hX (p2 := 110) (v := vR (ca 606 0)) rfl rfl (hc6 0 (by decide)) rfl rfl rfl ?_
      refine r_bipush hX (p2 := 112) rfl rfl rfl ?_
      refine r_iload_n hX (p2 := 113) rfl rfl rfl ?_
      obtain ⟨c7, h⟩ := ck_some h
      refine r_imul hX (p2 := 114) rfl rfl c7 ?_
      refine r_iload_n hX (p2 := 115) rfl rfl rfl ?_
      obtain ⟨c8, h⟩ := ck_some h
      refine r_iadd hX (p2 := 116) rfl rfl c8 ?_
      refine r_aload_n hX (p2 := 117) rfl rfl rfl ⟨_, Or.inl rfl⟩ ?_
      refine r_gf hX (p2 := 120) (v := vR (ca 606 0)) rfl rfl (hc6 0 (by decide)) rfl rfl rfl ?_
      refine r_bipush hX (p2 := 122) rfl rfl rfl ?_
      refine r_iload_n hX (p2 := 123) rfl rfl rfl ?_
      obtain ⟨c9, h⟩ := ck_some h
      refine r_iadd hX (p2 := 124) rfl rfl c9 ?_
      obtain ⟨c10, h⟩ := ck_some h
      refine r_iaload hX (p2 := 125) (j := (24 + x3).toNat) rfl rfl (ha606 0 (by decide)) rfl rfl c10 rfl ?_
      obtain ⟨c11, h⟩ := ck_some h
      obtain ⟨s12, hs12, h⟩ := bs_some h
      refine r_iastore hX (p2 := 126) (j := ((12 * x1) + x3).toNat) rfl rfl (ha606 0 (by decide)) rfl rfl c11 rfl hs12 ?_
      refine r_aload_n hX (p2 := 127) rfl rfl rfl ⟨_, Or.inl rfl⟩ ?_
      refine r_gf hX (p2 := 130) (v := vR (ca 607 0)) rfl rfl (hc6 0 (by decide)) rfl rfl rfl ?_
      refine r_bipush hX (p2 := 132) rfl rfl rfl ?_
      refine r_iload_n hX (p2 := 133) rfl rfl rfl ?_
      obtain ⟨c13, h⟩ := ck_some h
      refine r_imul hX (p2 := 134) rfl rfl c13 ?_
      refine r_iload_n hX (p2 := 135) rfl rfl rfl ?_
      obtain ⟨c14, h⟩ := ck_some h
      refine r_iadd hX (p2 := 136) rfl rfl c14 ?_
      refine r_aload_n hX (p2 := 137) rfl rfl rfl ⟨_, Or.inl rfl⟩ ?_
      refine r_gf hX (p2 := 140) (v := vR (ca 607 0)) rfl rfl (hc6 0 (by decide)) rfl rfl rfl ?_
      refine r_bipush hX (p2 := 142) rfl rfl rfl ?_
      refine r_iload_n hX (p2 := 143) rfl rfl rfl ?_
      obtain ⟨c15, h⟩ := ck_some h
      refine r_iadd hX (p2 := 144) rfl rfl c15 ?_
      obtain ⟨c16, h⟩ := ck_some h
      refine r_faload hX (p2 := 145) (j := (24 + x3).toNat) rfl rfl (ha607 0 (by decide)) rfl rfl c16 rfl ?_
      obtain ⟨c17, h⟩ := ck_some h
      obtain ⟨s18, hs18, h⟩ := bs_some h
      refine r_fastore hX (p2 := 146) (j := ((12 * x1) + x3).toNat) rfl rfl (ha607 0 (by decide)) rfl rfl c17 rfl hs18 ?_
      refine r_aload_n hX (p2 := 147) rfl rfl rfl ⟨_, Or.inl rfl⟩ ?_
      refine r_gf hX (p2 := 150) (v := vR (ca 608 0)) rfl rfl (hc6 0 (by decide)) rfl rfl rfl ?_
      refine r_bipush hX (p2 := 152) rfl rfl rfl ?_
      refine r_iload_n hX (p2 := 153) rfl rfl rfl ?_
      obtain ⟨c19, h⟩ := ck_some h
      refine r_imul hX (p2 := 154) rfl rfl c19 ?_
      refine r_iload_n hX (p2 := 155) rfl rfl rfl ?_
      obtain ⟨c20, h⟩ := ck_some h
      refine r_iadd hX (p2 := 156) rfl rfl c20 ?_
      refine r_aload_n hX (p2 := 157) rfl rfl rfl ⟨_, Or.inl rfl⟩ ?_
      refine r_gf hX (p2 := 160) (v := vR (ca 608 0)) rfl rfl (hc6 0 (by decide)) rfl rfl rfl ?_
      refine r_bipush hX (p2 := 162) rfl rfl rfl ?_
      refine r_iload_n hX (p2 := 163) rfl rfl rfl ?_
      obtain ⟨c21, h⟩ := ck_some h
      refine r_iadd hX (p2 := 164) rfl rfl c21 ?_
      obtain ⟨c22, h⟩ := ck_some h
      refine r_faload hX (p2 := 165) (j := (24 + x3).toNat) rfl rfl (ha608 0 (by decide)) rfl rfl c22 rfl ?_
      obtain ⟨c23, h⟩ := ck_some h
      obtain ⟨s24, hs24, h⟩ := bs_some h
      refine r_fastore hX (p2 := 166) (j := ((12 * x1) + x3).toNat) rfl rfl (ha608 0 (by decide)) rfl rfl c23 rfl hs24 ?_
      obtain ⟨c25, h⟩ := ck_some h
      refine r_iinc hX (p2 := 169) (ls2 := [some (vR (cc 6 0)), some (vI x1), d2, some (vI (x3 + 1))]) rfl rfl rfl rfl c25 (st1_nc rfl hd2 rfl) ?_
      refine r_goto hX (p2 := 78) rfl (by decide) ?_
      exact ih x1 (x3 + 1) d2 hd2 s24 h
noncomputable def f_X6_template_13 (x1 : Int) (y1 : Int) (s : pS) : Option (Int × pS) := (f_X6_fails y1 0 s).bind (fun q1 => (if q1.1 = 0 then bs ((sI q1.2 601 0)) (fun v2 => bs (wI q1.2 601 0 0) (fun s3 => (f_X6_reads v2 s3).bind (fun q4 => (if q4.1 = 2 then f_X6_template_78 (fun x1 s5 => ck (0 ≤ x1 ∧ x1 < 2) (bs (wA s5 604 0 (pm_up (sA s5 604 0) x1.toNat (sI s5 612 0))) (fun s7 => some ((sI s7 612 0), s7)))) 400 x1 0 q4.2 else f_X6_template_43 (fun x3 s8 => f_X6_template_64 x3 s8) 400 v2 0 q4.2)))) else some (0, q1.2)))
set_option maxRecDepth 10000 in
theorem t_X6_template_13 (xs : Nat → Int) (e : Nat) (q : Int × pS) (X : List (Option pV) → List pV → Nat → pH → Prop) (hX : pm_clo 1001 xs (pCall pm_tx 1001 xs pm_P (e + 9)) (e + 9) mX6_template (eI q) X) : ∀  (x1 : Int) (y1 : Int) (d2 : Option pV) (d3 : Option pV) (s : pS), f_X6_template_13 x1 y1 s = some q → X [some (vR (cc 6 0)), some (vI x1), d2, d3] [vI y1, vR (cc 6 0)] 13 (pW s) := by
  intro x1 y1 d2 d3 s h
  unfold f_X6_template_13 at h
  refine r_iconst hX (p2 := 14) rfl rfl rfl ?_
  obtain ⟨q1, hq1, h⟩ := bd_some h
  refine r_callv hX (p2 := 17) (v := some (vI q1.1)) (as := [vI y1, vI 0]) (r := []) (st2 := [vI q1.1]) rfl rfl rfl rfl rfl (hc6 0 (by decide)) rfl rfl (c_X6_fails xs (e + 8) y1 0 s q1 hq1) ?_
  refine r_if hX (p2 := 22) (p3 := 20) (P := q1.1 = 0) rfl (by decide) rfl rfl (fun p10 => ?_) (fun p10 => ?_)
  · have h := it_pos h p10
    refine r_aload_n hX (p2 := 23) rfl rfl rfl ⟨_, Or.inl rfl⟩ ?_
    refine r_gf hX (p2 := 26) (v := vI (sI q1.2 601 0)) rfl rfl (hc6 0 (by decide)) rfl rfl rfl ?_
    obtain ⟨v2, hv2, h⟩ := bs_some h
    refine r_istoreE_n hX (p2 := 27) (ls2 := [some (vR (cc 6 0)), some (vI x1), some (vI v2), d3]) rfl rfl hv2 rfl rfl ?_
    refine r_aload_n hX (p2 := 28) rfl rfl rfl ⟨_, Or.inl rfl⟩ ?_
    refine r_iconst hX (p2 := 29) rfl rfl rfl ?_
    obtain ⟨s3, hs3, h⟩ := bs_some h
    refine r_pfI hX (p2 := 32) rfl rfl (hc6 0 (by decide)) rfl rfl rfl rfl rfl rfl hs3 ?_
    refine r_aload_n hX (p2 := 33) rfl rfl rfl ⟨_, Or.inl rfl⟩ ?_
    refine r_iload_n hX (p2 := 34) rfl rfl rfl ?_
    obtain ⟨q4, hq4, h⟩ := bd_some h
    refine r_callv hX (p2 := 37) (v := some (vI q4.1)) (as := [vI v2]) (r := []) (st2 := [vI q4.1]) rfl rfl rfl rfl rfl (hc6 0 (by decide)) rfl rfl (c_X6_reads xs e v2 s3 q4 hq4) ?_
    refine r_iconst hX (p2 := 38) rfl rfl rfl ?_
    refine r_icmp hX (p2 := 76) (p3 := 41) (P := q4.1 = 2) rfl (by decide) rfl rfl (fun p9 => ?_) (fun p9 => ?_)
    · have h := it_pos h p9
      refine r_iconst hX (p2 := 77) rfl rfl rfl ?_
      refine r_istore_n hX (p2 := 78) (ls2 := [some (vR (cc 6 0)), some (vI x1), some (vI v2), some (vI 0)]) rfl rfl rfl rfl ?_
      refine t_X6_template_78 xs e q X hX _ (fun x1 d2 d3 s5 h => ?_) 400 x1 0 (some (vI v2)) rfl q4.2 h
      refine r_aload_n hX (p2 := 173) rfl rfl rfl ⟨_, Or.inl rfl⟩ ?_
      refine r_gf hX (p2 := 176) (v := vR (ca 604 0)) rfl rfl (hc6 0 (by decide)) rfl rfl rfl ?_
      refine r_iload_n hX (p2 := 177) rfl rfl rfl ?_
      refine r_aload_n hX (p2 := 178) rfl rfl rfl ⟨_, Or.inl rfl⟩ ?_
      refine r_gf hX (p2 := 181) (v := vI (sI s5 612 0)) rfl rfl (hc6 0 (by decide)) rfl rfl rfl ?_
      obtain ⟨c6, h⟩ := ck_some h
      obtain ⟨s7, hs7, h⟩ := bs_some h
      refine r_iastore hX (p2 := 182) (j := x1.toNat) rfl rfl (ha604 0 (by decide)) rfl rfl c6 rfl hs7 ?_
      refine r_aload_n hX (p2 := 183) rfl rfl rfl ⟨_, Or.inl rfl⟩ ?_
      refine r_gf hX (p2 := 186) (v := vI (sI s7 612 0)) rfl rfl (hc6 0 (by decide)) rfl rfl rfl ?_
      exact r_iretI hX rfl rfl (eI_ok h)
    · have h := it_neg h p9
      refine r_iconst hX (p2 := 42) rfl rfl rfl ?_
      refine r_istore_n hX (p2 := 43) (ls2 := [some (vR (cc 6 0)), some (vI x1), some (vI v2), some (vI 0)]) rfl rfl rfl rfl ?_
      refine t_X6_template_43 xs e q X hX _ (fun x3 d1 d2 s8 h => ?_) 400 v2 0 (some (vI x1)) q4.2 h
      exact t_X6_template_64 xs e q X hX x3 d1 d2 s8 h
  · have h := it_neg h p10
    refine r_iconst hX (p2 := 21) rfl rfl rfl ?_
    exact r_iretI hX rfl rfl (eI_ok h)
noncomputable def f_X6_template (a1 : Int) (s : pS) : Option (Int × pS) := (f_X6_isAxis a1 s).bind (fun q1 => (if q1.1 ≠ 0 then f_X6_template_13 a1 0 q1.2 else f_X6_template_13 a1 1 q1.2))
set_option maxRecDepth 10000 in
theorem c_X6_template (xs : Nat → Int) (e : Nat) (a1 : Int) (s : pS) (q : Int × pS) (h : f_X6_template a1 s = some q) : pCall pm_tx 1001 xs pm_P (e + 9 + 1) 121 [vR (cc 6 0), vI a1] (pW s) (.inl (some (vI q.1))) (pW q.2) := by
  refine pCall_of mX6_template rfl rfl (fun X hX => ?_)
  show X [some (vR (cc 6 0)), some (vI a1), none, none] [] 0 (pW s)
  replace hX : pm_clo 1001 xs (pCall pm_tx 1001 xs pm_P (e + 9)) (e + 9) mX6_template (eI q) X := hX
  unfold f_X6_template at h
  refine r_aload_n hX (p2 := 1) rfl rfl rfl ⟨_, Or.inl rfl⟩ ?_
  refine r_iload_n hX (p2 := 2) rfl rfl rfl ?_
  obtain ⟨q1, hq1, h⟩ := bd_some h
  refine r_calls0 hX (p2 := 5) (v := some (vI q1.1)) (as := [vI a1]) (r := [vR (cc 6 0)]) (st2 := [vI q1.1, vR (cc 6 0)]) rfl rfl rfl rfl rfl rfl (c_X6_isAxis xs (e + 8) a1 s q1 hq1) ?_
  refine r_if hX (p2 := 12) (p3 := 8) (P := q1.1 ≠ 0) rfl (by decide) rfl rfl (fun p2 => ?_) (fun p2 => ?_)
  · have h := it_pos h p2
    refine r_iconst hX (p2 := 13) rfl rfl rfl ?_
    exact t_X6_template_13 xs e q X hX a1 0 none none q1.2 h
  · have h := it_neg h p2
    refine r_iconst hX (p2 := 9) rfl rfl rfl ?_
    refine r_goto hX (p2 := 13) rfl (by decide) ?_
    exact t_X6_template_13 xs e q X hX a1 1 none none q1.2 h
noncomputable def f_X6_thrown (s : pS) : Option (Int × pS) := some ((sI s 600 0), s)
set_option maxRecDepth 10000 in
theorem c_X6_thrown (xs : Nat → Int) (e : Nat) (s : pS) (q : Int × pS) (h : f_X6_thrown s = some q) : pCall pm_tx 1001 xs pm_P (e + 1) 99 [vR (cc 6 0)] (pW s) (.inl (some (vI q.1))) (pW q.2) := by
  refine pCall_of mX6_thrown rfl rfl (fun X hX => ?_)
  show X [some (vR (cc 6 0))] [] 0 (pW s)
  replace hX : pm_clo 1001 xs (pCall pm_tx 1001 xs pm_P e) e mX6_thrown (eI q) X := hX
  unfold f_X6_thrown at h
  refine r_aload_n hX (p2 := 1) rfl rfl rfl ⟨_, Or.inl rfl⟩ ?_
  refine r_gf hX (p2 := 4) (v := vI (sI s 600 0)) rfl rfl (hc6 0 (by decide)) rfl rfl rfl ?_
  exact r_iretI hX rfl rfl (eI_ok h)
noncomputable def f_X5_place (s : pS) : Option (Int × pS) := some ((sI s 505 0), s)
set_option maxRecDepth 10000 in
theorem c_X5_place (xs : Nat → Int) (e : Nat) (s : pS) (q : Int × pS) (h : f_X5_place s = some q) : pCall pm_tx 1001 xs pm_P (e + 1) 76 [vR (cc 5 0)] (pW s) (.inl (some (vI q.1))) (pW q.2) := by
  refine pCall_of mX5_place rfl rfl (fun X hX => ?_)
  show X [some (vR (cc 5 0))] [] 0 (pW s)
  replace hX : pm_clo 1001 xs (pCall pm_tx 1001 xs pm_P e) e mX5_place (eI q) X := hX
  unfold f_X5_place at h
  refine r_aload_n hX (p2 := 1) rfl rfl rfl ⟨_, Or.inl rfl⟩ ?_
  refine r_gf hX (p2 := 4) (v := vI (sI s 505 0)) rfl rfl (hc5 0 (by decide)) rfl rfl rfl ?_
  exact r_iretI hX rfl rfl (eI_ok h)
noncomputable def f_X6_place (s : pS) : Option (Int × pS) := bs (wI s 600 0 0) (fun s1 => some ((sI s1 603 0), s1))
set_option maxRecDepth 10000 in
theorem c_X6_place (xs : Nat → Int) (e : Nat) (s : pS) (q : Int × pS) (h : f_X6_place s = some q) : pCall pm_tx 1001 xs pm_P (e + 1) 122 [vR (cc 6 0)] (pW s) (.inl (some (vI q.1))) (pW q.2) := by
  refine pCall_of mX6_place rfl rfl (fun X hX => ?_)
  show X [some (vR (cc 6 0))] [] 0 (pW s)
  replace hX : pm_clo 1001 xs (pCall pm_tx 1001 xs pm_P e) e mX6_place (eI q) X := hX
  unfold f_X6_place at h
  refine r_aload_n hX (p2 := 1) rfl rfl rfl ⟨_, Or.inl rfl⟩ ?_
  refine r_iconst hX (p2 := 2) rfl rfl rfl ?_
  obtain ⟨s1, hs1, h⟩ := bs_some h
  refine r_pfI hX (p2 := 5) rfl rfl (hc6 0 (by decide)) rfl rfl rfl rfl rfl rfl hs1 ?_
  refine r_aload_n hX (p2 := 6) rfl rfl rfl ⟨_, Or.inl rfl⟩ ?_
  refine r_gf hX (p2 := 9) (v := vI (sI s1 603 0)) rfl rfl (hc6 0 (by decide)) rfl rfl rfl ?_
  exact r_iretI hX rfl rfl (eI_ok h)
noncomputable def f_X5_isStand_33 (y0 : Int) (s : pS) : Option (Int × pS) := ck (y0 = 0 ∨ y0 = 1) (some (y0, s))
set_option maxRecDepth 10000 in
theorem t_X5_isStand_33 (xs : Nat → Int) (e : Nat) (q : Int × pS) (X : List (Option pV) → List pV → Nat → pH → Prop) (hX : pm_clo 1001 xs (pCall pm_tx 1001 xs pm_P e) e mX5_isStand (eI q) X) : ∀  (y0 : Int) (d0 : Option pV) (d1 : Option pV) (s : pS), f_X5_isStand_33 y0 s = some q → X [d0, d1] [vI y0] 33 (pW s) := by
  intro y0 d0 d1 s h
  unfold f_X5_isStand_33 at h
  obtain ⟨c1, h⟩ := ck_some h
  exact r_iretZ hX rfl rfl c1 (eI_ok h)
noncomputable def f_X5_isStand_32 (s : pS) : Option (Int × pS) := f_X5_isStand_33 0 s
set_option maxRecDepth 10000 in
theorem t_X5_isStand_32 (xs : Nat → Int) (e : Nat) (q : Int × pS) (X : List (Option pV) → List pV → Nat → pH → Prop) (hX : pm_clo 1001 xs (pCall pm_tx 1001 xs pm_P e) e mX5_isStand (eI q) X) : ∀  (d0 : Option pV) (d1 : Option pV) (s : pS), f_X5_isStand_32 s = some q → X [d0, d1] [] 32 (pW s) := by
  intro d0 d1 s h
  unfold f_X5_isStand_32 at h
  refine r_iconst hX (p2 := 33) rfl rfl rfl ?_
  exact t_X5_isStand_33 xs e q X hX 0 d0 d1 s h
noncomputable def f_X5_isStand (a0 : Int) (a1 : Int) (s : pS) : Option (Int × pS) := (if a0 < 0 then f_X5_isStand_32 s else (if 12 < a0 then f_X5_isStand_32 s else (if a1 < 1 then f_X5_isStand_32 s else (if 4 < a1 then f_X5_isStand_32 s else ck (inR (a0 + a1)) ((if 13 < (a0 + a1) then f_X5_isStand_32 s else f_X5_isStand_33 1 s))))))
set_option maxRecDepth 10000 in
theorem c_X5_isStand (xs : Nat → Int) (e : Nat) (a0 : Int) (a1 : Int) (s : pS) (q : Int × pS) (h : f_X5_isStand a0 a1 s = some q) : pCall pm_tx 1001 xs pm_P (e + 1) 93 [vI a0, vI a1] (pW s) (.inl (some (vI q.1))) (pW q.2) := by
  refine pCall_of mX5_isStand rfl rfl (fun X hX => ?_)
  show X [some (vI a0), some (vI a1)] [] 0 (pW s)
  replace hX : pm_clo 1001 xs (pCall pm_tx 1001 xs pm_P e) e mX5_isStand (eI q) X := hX
  unfold f_X5_isStand at h
  refine r_iload_n hX (p2 := 1) rfl rfl rfl ?_
  refine r_if hX (p2 := 32) (p3 := 4) (P := a0 < 0) rfl (by decide) rfl rfl (fun p6 => ?_) (fun p6 => ?_)
  · have h := it_pos h p6
    exact t_X5_isStand_32 xs e q X hX (some (vI a0)) (some (vI a1)) s h
  · have h := it_neg h p6
    refine r_iload_n hX (p2 := 5) rfl rfl rfl ?_
    refine r_bipush hX (p2 := 7) rfl rfl rfl ?_
    refine r_icmp hX (p2 := 32) (p3 := 10) (P := 12 < a0) rfl (by decide) rfl rfl (fun p5 => ?_) (fun p5 => ?_)
    · have h := it_pos h p5
      exact t_X5_isStand_32 xs e q X hX (some (vI a0)) (some (vI a1)) s h
    · have h := it_neg h p5
      refine r_iload_n hX (p2 := 11) rfl rfl rfl ?_
      refine r_iconst hX (p2 := 12) rfl rfl rfl ?_
      refine r_icmp hX (p2 := 32) (p3 := 15) (P := a1 < 1) rfl (by decide) rfl rfl (fun p4 => ?_) (fun p4 => ?_)
      · have h := it_pos h p4
        exact t_X5_isStand_32 xs e q X hX (some (vI a0)) (some (vI a1)) s h
      · have h := it_neg h p4
        refine r_iload_n hX (p2 := 16) rfl rfl rfl ?_
        refine r_iconst hX (p2 := 17) rfl rfl rfl ?_
        refine r_icmp hX (p2 := 32) (p3 := 20) (P := 4 < a1) rfl (by decide) rfl rfl (fun p3 => ?_) (fun p3 => ?_)
        · have h := it_pos h p3
          exact t_X5_isStand_32 xs e q X hX (some (vI a0)) (some (vI a1)) s h
        · have h := it_neg h p3
          refine r_iload_n hX (p2 := 21) rfl rfl rfl ?_
          refine r_iload_n hX (p2 := 22) rfl rfl rfl ?_
          obtain ⟨c1, h⟩ := ck_some h
          refine r_iadd hX (p2 := 23) rfl rfl c1 ?_
          refine r_bipush hX (p2 := 25) rfl rfl rfl ?_
          refine r_icmp hX (p2 := 32) (p3 := 28) (P := 13 < (a0 + a1)) rfl (by decide) rfl rfl (fun p2 => ?_) (fun p2 => ?_)
          · have h := it_pos h p2
            exact t_X5_isStand_32 xs e q X hX (some (vI a0)) (some (vI a1)) s h
          · have h := it_neg h p2
            refine r_iconst hX (p2 := 29) rfl rfl rfl ?_
            refine r_goto hX (p2 := 33) rfl (by decide) ?_
            exact t_X5_isStand_33 xs e q X hX 1 (some (vI a0)) (some (vI a1)) s h
