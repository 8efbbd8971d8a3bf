/-! ===== THE METHODS AS FUNCTIONS (written by wip/whole/gen_fun.py) ===== -/
noncomputable def f_X2_growToLimits_7 (i0 : Nat) (K45 : pS → Option (pS)) : Nat → UInt32 → Int → pS → Option (pS)
  | 0, _, _, _ => none
  | n + 1, x1, x2, s => (if 16 ≤ x2 then K45 s else (if (pm_fc .l x1 FP.fconst0) ≤ 0 then K45 s else (f_X2_countGrowing i0 s).bind (fun q1 => (if q1.1 ≠ 0 then ck (vf_n32 (FP.fdiv x1 (FP.i2f (Int32.ofInt q1.1)))) ((f_X2_growOnce i0 x1 (FP.fdiv x1 (FP.i2f (Int32.ofInt q1.1))) q1.2).bind (fun q3 => ck (inR (x2 + 1)) (f_X2_growToLimits_7 i0 K45 n q3.1 (x2 + 1) q3.2))) else some q1.2))))
set_option maxRecDepth 10000 in
theorem t_X2_growToLimits_7 (xs : Nat → Int) (e : Nat) (i0 : Nat) (hi0 : i0 < 2) (q : pS) (X : List (Option pV) → List pV → Nat → pH → Prop) (hX : pm_clo 1001 xs (pCall pm_tx 1001 xs pm_P (e + 2)) (e + 2) mX2_growToLimits (eU q) X) (K45 : pS → Option (pS)) (hK45 : ∀ (d0 : Option pV) (d1 : Option pV) (d2 : Option pV) (d3 : Option pV) (s : pS), K45 s = some q → X [d0, d1, d2, d3] [] 45 (pW s)) : ∀ (n : Nat) (x1 : UInt32) (x2 : Int) (d3 : Option pV) (s : pS), f_X2_growToLimits_7 i0 K45 n x1 x2 s = some q → X [some (vR (cc 2 i0)), some (vF x1), some (vI x2), d3] [] 7 (pW s) := by
  intro n
  induction n with
  | zero =>
    intro x1 x2 d3 s h
    rw [f_X2_growToLimits_7] at h
    cases h
  | succ n ih =>
    intro x1 x2 d3 s h
    rw [f_X2_growToLimits_7] at h
    refine r_iload_n hX (p2 := 8) rfl rfl rfl ?_
    refine r_bipush hX (p2 := 10) rfl rfl rfl ?_
    refine r_icmp hX (p2 := 45) (p3 := 13) (P := 16 ≤ x2) rfl (by decide) rfl rfl (fun p7 => ?_) (fun p7 => ?_)
    · have h := it_pos h p7
      exact hK45 (some (vR (cc 2 i0))) (some (vF x1)) (some (vI x2)) d3 s h
    · have h := it_neg h p7
      refine r_fload_n hX (p2 := 14) rfl rfl rfl ?_
      refine r_fconst0 hX (p2 := 15) rfl rfl ?_
      refine r_fcmp hX (p2 := 16) rfl rfl ?_
      refine r_if hX (p2 := 45) (p3 := 19) (P := (pm_fc .l x1 FP.fconst0) ≤ 0) rfl (by decide) rfl rfl (fun p6 => ?_) (fun p6 => ?_)
      · have h := it_pos h p6
        exact hK45 (some (vR (cc 2 i0))) (some (vF x1)) (some (vI x2)) d3 s h
      · have h := it_neg h p6
        refine r_aload_n hX (p2 := 20) rfl rfl rfl ⟨_, Or.inl rfl⟩ ?_
        obtain ⟨q1, hq1, h⟩ := bd_some h
        refine r_callv hX (p2 := 23) (v := some (vI q1.1)) (as := []) (r := []) (st2 := [vI q1.1]) rfl rfl rfl rfl rfl (hc2 i0 hi0) rfl rfl (c_X2_countGrowing xs (e + 1) i0 hi0 s q1 hq1) ?_
        refine r_istore_n hX (p2 := 24) (ls2 := [some (vR (cc 2 i0)), some (vF x1), some (vI x2), some (vI q1.1)]) rfl rfl rfl rfl ?_
        refine r_iload_n hX (p2 := 25) rfl rfl rfl ?_
        refine r_if hX (p2 := 29) (p3 := 28) (P := q1.1 ≠ 0) rfl (by decide) rfl rfl (fun p5 => ?_) (fun p5 => ?_)
        · have h := it_pos h p5
          refine r_aload_n hX (p2 := 30) rfl rfl rfl ⟨_, Or.inl rfl⟩ ?_
          refine r_fload_n hX (p2 := 31) rfl rfl rfl ?_
          refine r_fload_n hX (p2 := 32) rfl rfl rfl ?_
          refine r_iload_n hX (p2 := 33) rfl rfl rfl ?_
          refine r_i2f hX (p2 := 34) rfl rfl ?_
          obtain ⟨c2, h⟩ := ck_some h
          refine r_fdiv hX (p2 := 35) rfl rfl c2 ?_
          obtain ⟨q3, hq3, h⟩ := bd_some h
          refine r_callv hX (p2 := 38) (v := some (vF q3.1)) (as := [vF x1, vF (FP.fdiv x1 (FP.i2f (Int32.ofInt q1.1)))]) (r := []) (st2 := [vF q3.1]) rfl rfl rfl rfl rfl (hc2 i0 hi0) rfl rfl (c_X2_growOnce xs e i0 x1 (FP.fdiv x1 (FP.i2f (Int32.ofInt q1.1))) hi0 q1.2 q3 hq3) ?_
          refine r_fstore_n hX (p2 := 39) (ls2 := [some (vR (cc 2 i0)), some (vF q3.1), some (vI x2), some (vI q1.1)]) rfl rfl rfl rfl ?_
          obtain ⟨c4, h⟩ := ck_some h
          refine r_iinc hX (p2 := 42) (ls2 := [some (vR (cc 2 i0)), some (vF q3.1), some (vI (x2 + 1)), some (vI q1.1)]) rfl rfl rfl rfl c4 rfl ?_
          refine r_goto hX (p2 := 7) rfl (by decide) ?_
          exact ih q3.1 (x2 + 1) (some (vI q1.1)) q3.2 h
        · have h := it_neg h p5
          exact r_return hX rfl rfl (eU_ok h)
noncomputable def f_X2_growToLimits_45 (i0 : Nat) (s : pS) : Option (pS) := some s
set_option maxRecDepth 10000 in
theorem t_X2_growToLimits_45 (xs : Nat → Int) (e : Nat) (i0 : Nat) (hi0 : i0 < 2) (q : pS) (X : List (Option pV) → List pV → Nat → pH → Prop) (hX : pm_clo 1001 xs (pCall pm_tx 1001 xs pm_P (e + 2)) (e + 2) mX2_growToLimits (eU q) X) : ∀  (d0 : Option pV) (d1 : Option pV) (d2 : Option pV) (d3 : Option pV) (s : pS), f_X2_growToLimits_45 i0 s = some q → X [d0, d1, d2, d3] [] 45 (pW s) := by
  intro d0 d1 d2 d3 s h
  unfold f_X2_growToLimits_45 at h
  exact r_return hX rfl rfl (eU_ok h)
noncomputable def f_X2_growToLimits (i0 : Nat) (s : pS) : Option (pS) := (f_X2_restOfSpace i0 s).bind (fun q1 => f_X2_growToLimits_7 i0 (fun s2 => f_X2_growToLimits_45 i0 s2) 400 q1.1 0 q1.2)
set_option maxRecDepth 10000 in
theorem c_X2_growToLimits (xs : Nat → Int) (e : Nat) (i0 : Nat) (hi0 : i0 < 2) (s : pS) (q : pS) (h : f_X2_growToLimits i0 s = some q) : pCall pm_tx 1001 xs pm_P (e + 2 + 1) 34 [vR (cc 2 i0)] (pW s) (.inl none) (pW q) := by
  refine pCall_of mX2_growToLimits rfl rfl (fun X hX => ?_)
  show X [some (vR (cc 2 i0)), none, none, none] [] 0 (pW s)
  replace hX : pm_clo 1001 xs (pCall pm_tx 1001 xs pm_P (e + 2)) (e + 2) mX2_growToLimits (eU q) X := hX
  unfold f_X2_growToLimits at h
  refine r_aload_n hX (p2 := 1) rfl rfl rfl ⟨_, Or.inl rfl⟩ ?_
  obtain ⟨q1, hq1, h⟩ := bd_some h
  refine r_callv hX (p2 := 4) (v := some (vF q1.1)) (as := []) (r := []) (st2 := [vF q1.1]) rfl rfl rfl rfl rfl (hc2 i0 hi0) rfl rfl (c_X2_restOfSpace xs e i0 hi0 s q1 hq1) ?_
  refine r_fstore_n hX (p2 := 5) (ls2 := [some (vR (cc 2 i0)), some (vF q1.1), none, none]) rfl rfl rfl rfl ?_
  refine r_iconst hX (p2 := 6) rfl rfl rfl ?_
  refine r_istore_n hX (p2 := 7) (ls2 := [some (vR (cc 2 i0)), some (vF q1.1), some (vI 0), none]) rfl rfl rfl rfl ?_
  refine t_X2_growToLimits_7 xs e i0 hi0 q X hX _ (fun d0 d1 d2 d3 s2 h => ?_) 400 q1.1 0 none q1.2 h
  exact t_X2_growToLimits_45 xs e i0 hi0 q X hX d0 d1 d2 d3 s2 h
noncomputable def f_X2_spaceForShares_54 (i0 : Nat) (K21 : UInt32 → Int → pS → Option (UInt32 × pS)) (K60 : UInt32 → pS → Option (UInt32 × pS)) (x1 : UInt32) (x2 : Int) (s : pS) : Option (UInt32 × pS) := ck (inR (x2 + 1)) (K21 x1 (x2 + 1) s)
set_option maxRecDepth 10000 in
theorem t_X2_spaceForShares_54 (xs : Nat → Int) (e : Nat) (i0 : Nat) (hi0 : i0 < 2) (q : UInt32 × pS) (X : List (Option pV) → List pV → Nat → pH → Prop) (hX : pm_clo 1001 xs (pCall pm_tx 1001 xs pm_P (e + 1)) (e + 1) mX2_spaceForShares (eF q) X) (K21 : UInt32 → Int → pS → Option (UInt32 × pS)) (K60 : UInt32 → pS → Option (UInt32 × pS)) (hK21 : ∀ (x1 : UInt32) (x2 : Int) (s : pS), K21 x1 x2 s = some q → X [some (vR (cc 2 i0)), some (vF x1), some (vI x2)] [] 21 (pW s)) (hK60 : ∀ (x1 : UInt32) (d0 : Option pV) (d2 : Option pV) (s : pS), K60 x1 s = some q → X [d0, some (vF x1), d2] [] 60 (pW s)) : ∀  (x1 : UInt32) (x2 : Int) (s : pS), f_X2_spaceForShares_54 i0 K21 K60 x1 x2 s = some q → X [some (vR (cc 2 i0)), some (vF x1), some (vI x2)] [] 54 (pW s) := by
  intro x1 x2 s h
  unfold f_X2_spaceForShares_54 at h
  obtain ⟨c1, h⟩ := ck_some h
  refine r_iinc hX (p2 := 57) (ls2 := [some (vR (cc 2 i0)), some (vF x1), some (vI (x2 + 1))]) rfl rfl rfl rfl c1 rfl ?_
  refine r_goto hX (p2 := 21) rfl (by decide) ?_
  exact hK21 x1 (x2 + 1) s h
noncomputable def f_X2_spaceForShares_21 (i0 : Nat) (K60 : UInt32 → pS → Option (UInt32 × pS)) : Nat → UInt32 → Int → pS → Option (UInt32 × pS)
  | 0, _, _, _ => none
  | n + 1, x1, x2, s => (if (sI s 8 i0) ≤ x2 then K60 x1 s else ck (0 ≤ x2 ∧ x2 < 12) ((if (sA s 302 i0 x2.toNat) = 4 then f_X2_spaceForShares_54 i0 (f_X2_spaceForShares_21 i0 K60 n) K60 x1 x2 s else ck (0 ≤ x2 ∧ x2 < 12) (ck (vf_n32 (FP.fsub x1 (sB s 9 i0 x2.toNat))) (bs ((FP.fsub x1 (sB s 9 i0 x2.toNat))) (fun v4 => f_X2_spaceForShares_54 i0 (f_X2_spaceForShares_21 i0 K60 n) K60 v4 x2 s))))))
set_option maxRecDepth 10000 in
theorem t_X2_spaceForShares_21 (xs : Nat → Int) (e : Nat) (i0 : Nat) (hi0 : i0 < 2) (q : UInt32 × pS) (X : List (Option pV) → List pV → Nat → pH → Prop) (hX : pm_clo 1001 xs (pCall pm_tx 1001 xs pm_P (e + 1)) (e + 1) mX2_spaceForShares (eF q) X) (K60 : UInt32 → pS → Option (UInt32 × pS)) (hK60 : ∀ (x1 : UInt32) (d0 : Option pV) (d2 : Option pV) (s : pS), K60 x1 s = some q → X [d0, some (vF x1), d2] [] 60 (pW s)) : ∀ (n : Nat) (x1 : UInt32) (x2 : Int) (s : pS), f_X2_spaceForShares_21 i0 K60 n x1 x2 s = some q → X [some (vR (cc 2 i0)), some (vF x1), some (vI x2)] [] 21 (pW s) := by
  intro n
  induction n with
  | zero =>
    intro x1 x2 s h
    rw [f_X2_spaceForShares_21] at h
    cases h
  | succ n ih =>
    intro x1 x2 s h
    rw [f_X2_spaceForShares_21] at h
    refine r_iload_n hX (p2 := 22) rfl rfl rfl ?_
    refine r_aload_n hX (p2 := 23) rfl rfl rfl ⟨_, Or.inl rfl⟩ ?_
    refine r_gf hX (p2 := 26) (v := vR (cc 0 i0)) rfl rfl (hc2 i0 hi0) rfl rfl rfl ?_
    refine r_gf hX (p2 := 29) (v := vI (sI s 8 i0)) rfl rfl (hc0 i0 hi0) rfl rfl rfl ?_
    refine r_icmp hX (p2 := 60) (p3 := 32) (P := (sI s 8 i0) ≤ x2) rfl (by decide) rfl rfl (fun p6 => ?_) (fun p6 => ?_)
    · have h := it_pos h p6
      exact hK60 x1 (some (vR (cc 2 i0))) (some (vI x2)) s h
    · have h := it_neg h p6
      refine r_aload_n hX (p2 := 33) rfl rfl rfl ⟨_, Or.inl rfl⟩ ?_
      refine r_gf hX (p2 := 36) (v := vR (cc 3 i0)) rfl rfl (hc2 i0 hi0) rfl rfl rfl ?_
      refine r_gf hX (p2 := 39) (v := vR (ca 302 i0)) rfl rfl (hc3 i0 (Nat.lt_succ_of_lt hi0)) rfl rfl rfl ?_
      refine r_iload_n hX (p2 := 40) rfl rfl rfl ?_
      obtain ⟨c1, h⟩ := ck_some h
      refine r_iaload hX (p2 := 41) (j := x2.toNat) rfl rfl (ha302 i0 (Nat.lt_succ_of_lt hi0)) rfl rfl c1 rfl ?_
      refine r_iconst hX (p2 := 42) rfl rfl rfl ?_
      refine r_icmp hX (p2 := 54) (p3 := 45) (P := (sA s 302 i0 x2.toNat) = 4) rfl (by decide) rfl rfl (fun p5 => ?_) (fun p5 => ?_)
      · have h := it_pos h p5
        exact t_X2_spaceForShares_54 xs e i0 hi0 q X hX _ _ ih hK60 x1 x2 s h
      · have h := it_neg h p5
        refine r_fload_n hX (p2 := 46) rfl rfl rfl ?_
        refine r_aload_n hX (p2 := 47) rfl rfl rfl ⟨_, Or.inl rfl⟩ ?_
        refine r_gf hX (p2 := 50) (v := vR (ca 9 i0)) rfl rfl (hc2 i0 hi0) rfl rfl rfl ?_
        refine r_iload_n hX (p2 := 51) rfl rfl rfl ?_
        obtain ⟨c2, h⟩ := ck_some h
        refine r_faload hX (p2 := 52) (j := x2.toNat) rfl rfl (ha9 i0 hi0) rfl rfl c2 rfl ?_
        obtain ⟨c3, h⟩ := ck_some h
        refine r_fsub hX (p2 := 53) rfl rfl c3 ?_
        obtain ⟨v4, hv4, h⟩ := bs_some h
        refine r_fstoreE_n hX (p2 := 54) (ls2 := [some (vR (cc 2 i0)), some (vF v4), some (vI x2)]) rfl rfl hv4 rfl rfl ?_
        exact t_X2_spaceForShares_54 xs e i0 hi0 q X hX _ _ ih hK60 v4 x2 s h
noncomputable def f_X2_spaceForShares (i0 : Nat) (s : pS) : Option (UInt32 × pS) := (f_X2_lessGaps i0 (sF s 1 i0) (sI s 8 i0) s).bind (fun q1 => f_X2_spaceForShares_21 i0 (fun x1 s2 => some (x1, s2)) 400 q1.1 0 q1.2)
set_option maxRecDepth 10000 in
theorem c_X2_spaceForShares (xs : Nat → Int) (e : Nat) (i0 : Nat) (hi0 : i0 < 2) (s : pS) (q : UInt32 × pS) (h : f_X2_spaceForShares i0 s = some q) : pCall pm_tx 1001 xs pm_P (e + 1 + 1) 42 [vR (cc 2 i0)] (pW s) (.inl (some (vF q.1))) (pW q.2) := by
  refine pCall_of mX2_spaceForShares rfl rfl (fun X hX => ?_)
  show X [some (vR (cc 2 i0)), none, none] [] 0 (pW s)
  replace hX : pm_clo 1001 xs (pCall pm_tx 1001 xs pm_P (e + 1)) (e + 1) mX2_spaceForShares (eF q) X := hX
  unfold f_X2_spaceForShares at h
  refine r_aload_n hX (p2 := 1) rfl rfl rfl ⟨_, Or.inl rfl⟩ ?_
  refine r_aload_n hX (p2 := 2) rfl rfl rfl ⟨_, Or.inl rfl⟩ ?_
  refine r_gf hX (p2 := 5) (v := vR (cc 0 i0)) rfl rfl (hc2 i0 hi0) rfl rfl rfl ?_
  refine r_gf hX (p2 := 8) (v := vF (sF s 1 i0)) rfl rfl (hc0 i0 hi0) rfl rfl rfl ?_
  refine r_aload_n hX (p2 := 9) rfl rfl rfl ⟨_, Or.inl rfl⟩ ?_
  refine r_gf hX (p2 := 12) (v := vR (cc 0 i0)) rfl rfl (hc2 i0 hi0) rfl rfl rfl ?_
  refine r_gf hX (p2 := 15) (v := vI (sI s 8 i0)) rfl rfl (hc0 i0 hi0) rfl rfl rfl ?_
  obtain ⟨q1, hq1, h⟩ := bd_some h
  refine r_callv hX (p2 := 18) (v := some (vF q1.1)) (as := [vF (sF s 1 i0), vI (sI s 8 i0)]) (r := []) (st2 := [vF q1.1]) rfl rfl rfl rfl rfl (hc2 i0 hi0) rfl rfl (c_X2_lessGaps xs e i0 (sF s 1 i0) (sI s 8 i0) hi0 s q1 hq1) ?_
  refine r_fstore_n hX (p2 := 19) (ls2 := [some (vR (cc 2 i0)), some (vF q1.1), none]) rfl rfl rfl rfl ?_
  refine r_iconst hX (p2 := 20) rfl rfl rfl ?_
  refine r_istore_n hX (p2 := 21) (ls2 := [some (vR (cc 2 i0)), some (vF q1.1), some (vI 0)]) rfl rfl rfl rfl ?_
  refine t_X2_spaceForShares_21 xs e i0 hi0 q X hX _ (fun x1 d0 d2 s2 h => ?_) 400 q1.1 0 q1.2 h
  refine r_fload_n hX (p2 := 61) rfl rfl rfl ?_
  exact r_freturn hX rfl rfl (eF_ok h)
noncomputable def f_X2_oneShare_36 (i0 : Nat) (K4 : UInt32 → UInt32 → Int → pS → Option (UInt32 × pS)) (K42 : UInt32 → UInt32 → pS → Option (UInt32 × pS)) (x1 : UInt32) (x2 : UInt32) (x3 : Int) (s : pS) : Option (UInt32 × pS) := ck (inR (x3 + 1)) (K4 x1 x2 (x3 + 1) s)
set_option maxRecDepth 10000 in
theorem t_X2_oneShare_36 (xs : Nat → Int) (e : Nat) (i0 : Nat) (hi0 : i0 < 2) (q : UInt32 × pS) (X : List (Option pV) → List pV → Nat → pH → Prop) (hX : pm_clo 1001 xs (pCall pm_tx 1001 xs pm_P (e + 1)) (e + 1) mX2_oneShare (eF q) X) (K4 : UInt32 → UInt32 → Int → pS → Option (UInt32 × pS)) (K42 : UInt32 → UInt32 → pS → Option (UInt32 × pS)) (hK4 : ∀ (x1 : UInt32) (x2 : UInt32) (x3 : Int) (s : pS), K4 x1 x2 x3 s = some q → X [some (vR (cc 2 i0)), some (vF x1), some (vF x2), some (vI x3)] [] 4 (pW s)) (hK42 : ∀ (x1 : UInt32) (x2 : UInt32) (d0 : Option pV) (d3 : Option pV) (s : pS), K42 x1 x2 s = some q → X [d0, some (vF x1), some (vF x2), d3] [] 42 (pW s)) : ∀  (x1 : UInt32) (x2 : UInt32) (x3 : Int) (s : pS), f_X2_oneShare_36 i0 K4 K42 x1 x2 x3 s = some q → X [some (vR (cc 2 i0)), some (vF x1), some (vF x2), some (vI x3)] [] 36 (pW s) := by
  intro x1 x2 x3 s h
  unfold f_X2_oneShare_36 at h
  obtain ⟨c1, h⟩ := ck_some h
  refine r_iinc hX (p2 := 39) (ls2 := [some (vR (cc 2 i0)), some (vF x1), some (vF x2), some (vI (x3 + 1))]) rfl rfl rfl rfl c1 rfl ?_
  refine r_goto hX (p2 := 4) rfl (by decide) ?_
  exact hK4 x1 x2 (x3 + 1) s h
noncomputable def f_X2_oneShare_4 (i0 : Nat) (K42 : UInt32 → UInt32 → pS → Option (UInt32 × pS)) : Nat → UInt32 → UInt32 → Int → pS → Option (UInt32 × pS)
  | 0, _, _, _, _ => none
  | n + 1, x1, x2, x3, s => (if (sI s 8 i0) ≤ x3 then K42 x1 x2 s else ck (0 ≤ x3 ∧ x3 < 12) ((if (sA s 204 i0 x3.toNat) = 0 then f_X2_oneShare_36 i0 (f_X2_oneShare_4 i0 K42 n) K42 x1 x2 x3 s else ck (0 ≤ x3 ∧ x3 < 12) (ck (vf_n32 (FP.fadd x2 (sB s 303 i0 x3.toNat))) (bs ((FP.fadd x2 (sB s 303 i0 x3.toNat))) (fun v4 => f_X2_oneShare_36 i0 (f_X2_oneShare_4 i0 K42 n) K42 x1 v4 x3 s))))))
set_option maxRecDepth 10000 in
theorem t_X2_oneShare_4 (xs : Nat → Int) (e : Nat) (i0 : Nat) (hi0 : i0 < 2) (q : UInt32 × pS) (X : List (Option pV) → List pV → Nat → pH → Prop) (hX : pm_clo 1001 xs (pCall pm_tx 1001 xs pm_P (e + 1)) (e + 1) mX2_oneShare (eF q) X) (K42 : UInt32 → UInt32 → pS → Option (UInt32 × pS)) (hK42 : ∀ (x1 : UInt32) (x2 : UInt32) (d0 : Option pV) (d3 : Option pV) (s : pS), K42 x1 x2 s = some q → X [d0, some (vF x1), some (vF x2), d3] [] 42 (pW s)) : ∀ (n : Nat) (x1 : UInt32) (x2 : UInt32) (x3 : Int) (s : pS), f_X2_oneShare_4 i0 K42 n x1 x2 x3 s = some q → X [some (vR (cc 2 i0)), some (vF x1), some (vF x2), some (vI x3)] [] 4 (pW s) := by
  intro n
  induction n with
  | zero =>
    intro x1 x2 x3 s h
    rw [f_X2_oneShare_4] at h
    cases h
  | succ n ih =>
    intro x1 x2 x3 s h
    rw [f_X2_oneShare_4] at h
    refine r_iload_n hX (p2 := 5) rfl rfl rfl ?_
    refine r_aload_n hX (p2 := 6) rfl rfl rfl ⟨_, Or.inl rfl⟩ ?_
    refine r_gf hX (p2 := 9) (v := vR (cc 0 i0)) rfl rfl (hc2 i0 hi0) rfl rfl rfl ?_
    refine r_gf hX (p2 := 12) (v := vI (sI s 8 i0)) rfl rfl (hc0 i0 hi0) rfl rfl rfl ?_
    refine r_icmp hX (p2 := 42) (p3 := 15) (P := (sI s 8 i0) ≤ x3) rfl (by decide) rfl rfl (fun p6 => ?_) (fun p6 => ?_)
    · have h := it_pos h p6
      exact hK42 x1 x2 (some (vR (cc 2 i0))) (some (vI x3)) s h
    · have h := it_neg h p6
      refine r_aload_n hX (p2 := 16) rfl rfl rfl ⟨_, Or.inl rfl⟩ ?_
      refine r_gf hX (p2 := 19) (v := vR (ca 204 i0)) rfl rfl (hc2 i0 hi0) rfl rfl rfl ?_
      refine r_iload_n hX (p2 := 20) rfl rfl rfl ?_
      obtain ⟨c1, h⟩ := ck_some h
      refine r_baload hX (p2 := 21) (j := x3.toNat) rfl rfl (ha204 i0 hi0) rfl rfl c1 rfl ?_
      refine r_if hX (p2 := 36) (p3 := 24) (P := (sA s 204 i0 x3.toNat) = 0) rfl (by decide) rfl rfl (fun p5 => ?_) (fun p5 => ?_)
      · have h := it_pos h p5
        exact t_X2_oneShare_36 xs e i0 hi0 q X hX _ _ ih hK42 x1 x2 x3 s h
      · have h := it_neg h p5
        refine r_fload_n hX (p2 := 25) rfl rfl rfl ?_
        refine r_aload_n hX (p2 := 26) rfl rfl rfl ⟨_, Or.inl rfl⟩ ?_
        refine r_gf hX (p2 := 29) (v := vR (cc 3 i0)) rfl rfl (hc2 i0 hi0) rfl rfl rfl ?_
        refine r_gf hX (p2 := 32) (v := vR (ca 303 i0)) rfl rfl (hc3 i0 (Nat.lt_succ_of_lt hi0)) rfl rfl rfl ?_
        refine r_iload_n hX (p2 := 33) rfl rfl rfl ?_
        obtain ⟨c2, h⟩ := ck_some h
        refine r_faload hX (p2 := 34) (j := x3.toNat) rfl rfl (ha303 i0 (Nat.lt_succ_of_lt hi0)) rfl rfl c2 rfl ?_
        obtain ⟨c3, h⟩ := ck_some h
        refine r_fadd hX (p2 := 35) rfl rfl c3 ?_
        obtain ⟨v4, hv4, h⟩ := bs_some h
        refine r_fstoreE_n hX (p2 := 36) (ls2 := [some (vR (cc 2 i0)), some (vF x1), some (vF v4), some (vI x3)]) rfl rfl hv4 rfl rfl ?_
        exact t_X2_oneShare_36 xs e i0 hi0 q X hX _ _ ih hK42 x1 v4 x3 s h
noncomputable def f_X2_oneShare_59 (i0 : Nat) (y0 : UInt32) (s : pS) : Option (UInt32 × pS) := some (y0, s)
set_option maxRecDepth 10000 in
theorem t_X2_oneShare_59 (xs : Nat → Int) (e : Nat) (i0 : Nat) (hi0 : i0 < 2) (q : UInt32 × pS) (X : List (Option pV) → List pV → Nat → pH → Prop) (hX : pm_clo 1001 xs (pCall pm_tx 1001 xs pm_P (e + 1)) (e + 1) mX2_oneShare (eF q) X) : ∀  (y0 : UInt32) (d0 : Option pV) (d1 : Option pV) (d2 : Option pV) (d3 : Option pV) (s : pS), f_X2_oneShare_59 i0 y0 s = some q → X [d0, d1, d2, d3] [vF y0] 59 (pW s) := by
  intro y0 d0 d1 d2 d3 s h
  unfold f_X2_oneShare_59 at h
  exact r_freturn hX rfl rfl (eF_ok h)
noncomputable def f_X2_oneShare (i0 : Nat) (a1 : UInt32) (s : pS) : Option (UInt32 × pS) := f_X2_oneShare_4 i0 (fun x1 x2 s1 => (if (pm_fc .l x1 FP.fconst0) ≤ 0 then f_X2_oneShare_59 i0 FP.fconst0 s1 else (f_X5_greater x2 FP.fconst1 s1).bind (fun q2 => ck (vf_n32 (FP.fdiv x1 q2.1)) (f_X2_oneShare_59 i0 (FP.fdiv x1 q2.1) q2.2)))) 400 a1 FP.fconst0 0 s
set_option maxRecDepth 10000 in
theorem c_X2_oneShare (xs : Nat → Int) (e : Nat) (i0 : Nat) (a1 : UInt32) (hi0 : i0 < 2) (s : pS) (q : UInt32 × pS) (h : f_X2_oneShare i0 a1 s = some q) : pCall pm_tx 1001 xs pm_P (e + 1 + 1) 43 [vR (cc 2 i0), vF a1] (pW s) (.inl (some (vF q.1))) (pW q.2) := by
  refine pCall_of mX2_oneShare rfl rfl (fun X hX => ?_)
  show X [some (vR (cc 2 i0)), some (vF a1), none, none] [] 0 (pW s)
  replace hX : pm_clo 1001 xs (pCall pm_tx 1001 xs pm_P (e + 1)) (e + 1) mX2_oneShare (eF q) X := hX
  unfold f_X2_oneShare at h
  refine r_fconst0 hX (p2 := 1) rfl rfl ?_
  refine r_fstore_n hX (p2 := 2) (ls2 := [some (vR (cc 2 i0)), some (vF a1), some (vF FP.fconst0), none]) rfl rfl rfl rfl ?_
  refine r_iconst hX (p2 := 3) rfl rfl rfl ?_
  refine r_istore_n hX (p2 := 4) (ls2 := [some (vR (cc 2 i0)), some (vF a1), some (vF FP.fconst0), some (vI 0)]) rfl rfl rfl rfl ?_
  refine t_X2_oneShare_4 xs e i0 hi0 q X hX _ (fun x1 x2 d0 d3 s1 h => ?_) 400 a1 FP.fconst0 0 s h
  refine r_fload_n hX (p2 := 43) rfl rfl rfl ?_
  refine r_fconst0 hX (p2 := 44) rfl rfl ?_
  refine r_fcmp hX (p2 := 45) rfl rfl ?_
  refine r_if hX (p2 := 58) (p3 := 48) (P := (pm_fc .l x1 FP.fconst0) ≤ 0) rfl (by decide) rfl rfl (fun p4 => ?_) (fun p4 => ?_)
  · have h := it_pos h p4
    refine r_fconst0 hX (p2 := 59) rfl rfl ?_
    exact t_X2_oneShare_59 xs e i0 hi0 q X hX FP.fconst0 d0 (some (vF x1)) (some (vF x2)) d3 s1 h
  · have h := it_neg h p4
    refine r_fload_n hX (p2 := 49) rfl rfl rfl ?_
    refine r_fload_n hX (p2 := 50) rfl rfl rfl ?_
    refine r_fconst1 hX (p2 := 51) rfl rfl ?_
    obtain ⟨q2, hq2, h⟩ := bd_some h
    refine r_calls4 hX (p2 := 54) (v := some (vF q2.1)) (as := [vF x2, vF FP.fconst1]) (r := [vF x1]) (st2 := [vF q2.1, vF x1]) rfl rfl rfl rfl rfl rfl (c_X5_greater xs e x2 FP.fconst1 s1 q2 hq2) ?_
    obtain ⟨c3, h⟩ := ck_some h
    refine r_fdiv hX (p2 := 55) rfl rfl c3 ?_
    refine r_goto hX (p2 := 59) rfl (by decide) ?_
    exact t_X2_oneShare_59 xs e i0 hi0 q X hX (FP.fdiv x1 q2.1) d0 (some (vF x1)) (some (vF x2)) d3 q2.2 h
noncomputable def f_X2_isTooGreat_35 (i0 : Nat) (y0 : Int) (s : pS) : Option (Int × pS) := ck (y0 = 0 ∨ y0 = 1) (some (y0, s))
set_option maxRecDepth 10000 in
theorem t_X2_isTooGreat_35 (xs : Nat → Int) (e : Nat) (i0 : Nat) (hi0 : i0 < 2) (q : Int × pS) (X : List (Option pV) → List pV → Nat → pH → Prop) (hX : pm_clo 1001 xs (pCall pm_tx 1001 xs pm_P e) e mX2_isTooGreat (eI q) X) : ∀  (y0 : Int) (d0 : Option pV) (d1 : Option pV) (d2 : Option pV) (s : pS), f_X2_isTooGreat_35 i0 y0 s = some q → X [d0, d1, d2] [vI y0] 35 (pW s) := by
  intro y0 d0 d1 d2 s h
  unfold f_X2_isTooGreat_35 at h
  obtain ⟨c1, h⟩ := ck_some h
  exact r_iretZ hX rfl rfl c1 (eI_ok h)
noncomputable def f_X2_isTooGreat_34 (i0 : Nat) (s : pS) : Option (Int × pS) := f_X2_isTooGreat_35 i0 0 s
set_option maxRecDepth 10000 in
theorem t_X2_isTooGreat_34 (xs : Nat → Int) (e : Nat) (i0 : Nat) (hi0 : i0 < 2) (q : Int × pS) (X : List (Option pV) → List pV → Nat → pH → Prop) (hX : pm_clo 1001 xs (pCall pm_tx 1001 xs pm_P e) e mX2_isTooGreat (eI q) X) : ∀  (d0 : Option pV) (d1 : Option pV) (d2 : Option pV) (s : pS), f_X2_isTooGreat_34 i0 s = some q → X [d0, d1, d2] [] 34 (pW s) := by
  intro d0 d1 d2 s h
  unfold f_X2_isTooGreat_34 at h
  refine r_iconst hX (p2 := 35) rfl rfl rfl ?_
  exact t_X2_isTooGreat_35 xs e i0 hi0 q X hX 0 d0 d1 d2 s h
noncomputable def f_X2_isTooGreat (i0 : Nat) (a1 : Int) (a2 : UInt32) (s : pS) : Option (Int × pS) := ck (0 ≤ a1 ∧ a1 < 12) ((if (sA s 204 i0 a1.toNat) = 0 then f_X2_isTooGreat_34 i0 s else ck (0 ≤ a1 ∧ a1 < 12) (ck (0 ≤ a1 ∧ a1 < 12) (ck (vf_n32 (FP.fmul (sB s 303 i0 a1.toNat) a2)) ((if (pm_fc .l (sB s 9 i0 a1.toNat) (FP.fmul (sB s 303 i0 a1.toNat) a2)) ≤ 0 then f_X2_isTooGreat_34 i0 s else f_X2_isTooGreat_35 i0 1 s))))))
set_option maxRecDepth 10000 in
theorem c_X2_isTooGreat (xs : Nat → Int) (e : Nat) (i0 : Nat) (a1 : Int) (a2 : UInt32) (hi0 : i0 < 2) (s : pS) (q : Int × pS) (h : f_X2_isTooGreat i0 a1 a2 s = some q) : pCall pm_tx 1001 xs pm_P (e + 1) 39 [vR (cc 2 i0), vI a1, vF a2] (pW s) (.inl (some (vI q.1))) (pW q.2) := by
  refine pCall_of mX2_isTooGreat rfl rfl (fun X hX => ?_)
  show X [some (vR (cc 2 i0)), some (vI a1), some (vF a2)] [] 0 (pW s)
  replace hX : pm_clo 1001 xs (pCall pm_tx 1001 xs pm_P e) e mX2_isTooGreat (eI q) X := hX
  unfold f_X2_isTooGreat at h
  refine r_aload_n hX (p2 := 1) rfl rfl rfl ⟨_, Or.inl rfl⟩ ?_
  refine r_gf hX (p2 := 4) (v := vR (ca 204 i0)) rfl rfl (hc2 i0 hi0) rfl rfl rfl ?_
  refine r_iload_n hX (p2 := 5) rfl rfl rfl ?_
  obtain ⟨c1, h⟩ := ck_some h
  refine r_baload hX (p2 := 6) (j := a1.toNat) rfl rfl (ha204 i0 hi0) rfl rfl c1 rfl ?_
  refine r_if hX (p2 := 34) (p3 := 9) (P := (sA s 204 i0 a1.toNat) = 0) rfl (by decide) rfl rfl (fun p6 => ?_) (fun p6 => ?_)
  · have h := it_pos h p6
    exact t_X2_isTooGreat_34 xs e i0 hi0 q X hX (some (vR (cc 2 i0))) (some (vI a1)) (some (vF a2)) s h
  · have h := it_neg h p6
    refine r_aload_n hX (p2 := 10) rfl rfl rfl ⟨_, Or.inl rfl⟩ ?_
    refine r_gf hX (p2 := 13) (v := vR (ca 9 i0)) rfl rfl (hc2 i0 hi0) rfl rfl rfl ?_
    refine r_iload_n hX (p2 := 14) rfl rfl rfl ?_
    obtain ⟨c2, h⟩ := ck_some h
    refine r_faload hX (p2 := 15) (j := a1.toNat) rfl rfl (ha9 i0 hi0) rfl rfl c2 rfl ?_
    refine r_aload_n hX (p2 := 16) rfl rfl rfl ⟨_, Or.inl rfl⟩ ?_
    refine r_gf hX (p2 := 19) (v := vR (cc 3 i0)) rfl rfl (hc2 i0 hi0) rfl rfl rfl ?_
    refine r_gf hX (p2 := 22) (v := vR (ca 303 i0)) rfl rfl (hc3 i0 (Nat.lt_succ_of_lt hi0)) rfl rfl rfl ?_
    refine r_iload_n hX (p2 := 23) rfl rfl rfl ?_
    obtain ⟨c3, h⟩ := ck_some h
    refine r_faload hX (p2 := 24) (j := a1.toNat) rfl rfl (ha303 i0 (Nat.lt_succ_of_lt hi0)) rfl rfl c3 rfl ?_
    refine r_fload_n hX (p2 := 25) rfl rfl rfl ?_
    obtain ⟨c4, h⟩ := ck_some h
    refine r_fmul hX (p2 := 26) rfl rfl c4 ?_
    refine r_fcmp hX (p2 := 27) rfl rfl ?_
    refine r_if hX (p2 := 34) (p3 := 30) (P := (pm_fc .l (sB s 9 i0 a1.toNat) (FP.fmul (sB s 303 i0 a1.toNat) a2)) ≤ 0) rfl (by decide) rfl rfl (fun p5 => ?_) (fun p5 => ?_)
    · have h := it_pos h p5
      exact t_X2_isTooGreat_34 xs e i0 hi0 q X hX (some (vR (cc 2 i0))) (some (vI a1)) (some (vF a2)) s h
    · have h := it_neg h p5
      refine r_iconst hX (p2 := 31) rfl rfl rfl ?_
      refine r_goto hX (p2 := 35) rfl (by decide) ?_
      exact t_X2_isTooGreat_35 xs e i0 hi0 q X hX 1 (some (vR (cc 2 i0))) (some (vI a1)) (some (vF a2)) s h
noncomputable def f_X2_hasTooGreat_2 (i0 : Nat) (K30 : pS → Option (Int × pS)) : Nat → UInt32 → Int → pS → Option (Int × pS)
  | 0, _, _, _ => none
  | n + 1, x1, x2, s => (if (sI s 8 i0) ≤ x2 then K30 s else (f_X2_isTooGreat i0 x2 x1 s).bind (fun q1 => (if q1.1 = 0 then ck (inR (x2 + 1)) (f_X2_hasTooGreat_2 i0 K30 n x1 (x2 + 1) q1.2) else some (1, q1.2))))
set_option maxRecDepth 10000 in
theorem t_X2_hasTooGreat_2 (xs : Nat → Int) (e : Nat) (i0 : Nat) (hi0 : i0 < 2) (q : Int × pS) (X : List (Option pV) → List pV → Nat → pH → Prop) (hX : pm_clo 1001 xs (pCall pm_tx 1001 xs pm_P (e + 1)) (e + 1) mX2_hasTooGreat (eI q) X) (K30 : pS → Option (Int × pS)) (hK30 : ∀ (d0 : Option pV) (d1 : Option pV) (d2 : Option pV) (s : pS), K30 s = some q → X [d0, d1, d2] [] 30 (pW s)) : ∀ (n : Nat) (x1 : UInt32) (x2 : Int) (s : pS), f_X2_hasTooGreat_2 i0 K30 n x1 x2 s = some q → X [some (vR (cc 2 i0)), some (vF x1), some (vI x2)] [] 2 (pW s) := by
  intro n
  induction n with
  | zero =>
    intro x1 x2 s h
    rw [f_X2_hasTooGreat_2] at h
    cases h
  | succ n ih =>
    intro x1 x2 s h
    rw [f_X2_hasTooGreat_2] at h
    refine r_iload_n hX (p2 := 3) rfl rfl rfl ?_
    refine r_aload_n hX (p2 := 4) rfl rfl rfl ⟨_, Or.inl rfl⟩ ?_
    refine r_gf hX (p2 := 7) (v := vR (cc 0 i0)) rfl rfl (hc2 i0 hi0) rfl rfl rfl ?_
    refine r_gf hX (p2 := 10) (v := vI (sI s 8 i0)) rfl rfl (hc0 i0 hi0) rfl rfl rfl ?_
    refine r_icmp hX (p2 := 30) (p3 := 13) (P := (sI s 8 i0) ≤ x2) rfl (by decide) rfl rfl (fun p4 => ?_) (fun p4 => ?_)
    · have h := it_pos h p4
      exact hK30 (some (vR (cc 2 i0))) (some (vF x1)) (some (vI x2)) s h
    · have h := it_neg h p4
      refine r_aload_n hX (p2 := 14) rfl rfl rfl ⟨_, Or.inl rfl⟩ ?_
      refine r_iload_n hX (p2 := 15) rfl rfl rfl ?_
      refine r_fload_n hX (p2 := 16) rfl rfl rfl ?_
      obtain ⟨q1, hq1, h⟩ := bd_some h
      refine r_callv hX (p2 := 19) (v := some (vI q1.1)) (as := [vI x2, vF x1]) (r := []) (st2 := [vI q1.1]) rfl rfl rfl rfl rfl (hc2 i0 hi0) rfl rfl (c_X2_isTooGreat xs e i0 x2 x1 hi0 s q1 hq1) ?_
      refine r_if hX (p2 := 24) (p3 := 22) (P := q1.1 = 0) rfl (by decide) rfl rfl (fun p3 => ?_) (fun p3 => ?_)
      · have h := it_pos h p3
        obtain ⟨c2, h⟩ := ck_some h
        refine r_iinc hX (p2 := 27) (ls2 := [some (vR (cc 2 i0)), some (vF x1), some (vI (x2 + 1))]) rfl rfl rfl rfl c2 rfl ?_
        refine r_goto hX (p2 := 2) rfl (by decide) ?_
        exact ih x1 (x2 + 1) q1.2 h
      · have h := it_neg h p3
        refine r_iconst hX (p2 := 23) rfl rfl rfl ?_
        exact r_iretZ hX rfl rfl (Or.inr rfl) (eI_ok h)
noncomputable def f_X2_hasTooGreat (i0 : Nat) (a1 : UInt32) (s : pS) : Option (Int × pS) := f_X2_hasTooGreat_2 i0 (fun s1 => some (0, s1)) 400 a1 0 s
set_option maxRecDepth 10000 in
theorem c_X2_hasTooGreat (xs : Nat → Int) (e : Nat) (i0 : Nat) (a1 : UInt32) (hi0 : i0 < 2) (s : pS) (q : Int × pS) (h : f_X2_hasTooGreat i0 a1 s = some q) : pCall pm_tx 1001 xs pm_P (e + 1 + 1) 38 [vR (cc 2 i0), vF a1] (pW s) (.inl (some (vI q.1))) (pW q.2) := by
  refine pCall_of mX2_hasTooGreat rfl rfl (fun X hX => ?_)
  show X [some (vR (cc 2 i0)), some (vF a1), none] [] 0 (pW s)
  replace hX : pm_clo 1001 xs (pCall pm_tx 1001 xs pm_P (e + 1)) (e + 1) mX2_hasTooGreat (eI q) X := hX
  unfold f_X2_hasTooGreat at h
  refine r_iconst hX (p2 := 1) rfl rfl rfl ?_
  refine r_istore_n hX (p2 := 2) (ls2 := [some (vR (cc 2 i0)), some (vF a1), some (vI 0)]) rfl rfl rfl rfl ?_
  refine t_X2_hasTooGreat_2 xs e i0 hi0 q X hX _ (fun d0 d1 d2 s1 h => ?_) 400 a1 0 s h
  refine r_iconst hX (p2 := 31) rfl rfl rfl ?_
  exact r_iretZ hX rfl rfl (Or.inl rfl) (eI_ok h)
noncomputable def f_X2_setAside_45 (i0 : Nat) (K5 : UInt32 → UInt32 → Int → pS → Option (UInt32 × pS)) (K51 : UInt32 → pS → Option (UInt32 × pS)) (x1 : UInt32) (x3 : UInt32) (x4 : Int) (s : pS) : Option (UInt32 × pS) := ck (inR (x4 + 1)) (K5 x1 x3 (x4 + 1) s)
set_option maxRecDepth 10000 in
theorem t_X2_setAside_45 (xs : Nat → Int) (e : Nat) (i0 : Nat) (hi0 : i0 < 2) (q : UInt32 × pS) (X : List (Option pV) → List pV → Nat → pH → Prop) (hX : pm_clo 1001 xs (pCall pm_tx 1001 xs pm_P (e + 1)) (e + 1) mX2_setAside (eF q) X) (K5 : UInt32 → UInt32 → Int → pS → Option (UInt32 × pS)) (K51 : UInt32 → pS → Option (UInt32 × pS)) (hK5 : ∀ (x1 : UInt32) (x3 : UInt32) (x4 : Int) (d2 : Option pV) (hd2 : pm_nc d2) (s : pS), K5 x1 x3 x4 s = some q → X [some (vR (cc 2 i0)), some (vF x1), d2, some (vF x3), some (vI x4)] [] 5 (pW s)) (hK51 : ∀ (x3 : UInt32) (d0 : Option pV) (d1 : Option pV) (d2 : Option pV) (d4 : Option pV) (s : pS), K51 x3 s = some q → X [d0, d1, d2, some (vF x3), d4] [] 51 (pW s)) : ∀  (x1 : UInt32) (x3 : UInt32) (x4 : Int) (d2 : Option pV) (hd2 : pm_nc d2) (s : pS), f_X2_setAside_45 i0 K5 K51 x1 x3 x4 s = some q → X [some (vR (cc 2 i0)), some (vF x1), d2, some (vF x3), some (vI x4)] [] 45 (pW s) := by
  intro x1 x3 x4 d2 hd2 s h
  unfold f_X2_setAside_45 at h
  obtain ⟨c1, h⟩ := ck_some h
  refine r_iinc hX (p2 := 48) (ls2 := [some (vR (cc 2 i0)), some (vF x1), d2, some (vF x3), some (vI (x4 + 1))]) rfl rfl rfl rfl c1 rfl ?_
  refine r_goto hX (p2 := 5) rfl (by decide) ?_
  exact hK5 x1 x3 (x4 + 1) d2 hd2 s h
noncomputable def f_X2_setAside_5 (i0 : Nat) (K51 : UInt32 → pS → Option (UInt32 × pS)) : Nat → UInt32 → UInt32 → Int → pS → Option (UInt32 × pS)
  | 0, _, _, _, _ => none
  | n + 1, x1, x3, x4, s => (if (sI s 8 i0) ≤ x4 then K51 x3 s else (f_X2_isTooGreat i0 x4 x1 s).bind (fun q1 => (if q1.1 = 0 then f_X2_setAside_45 i0 (f_X2_setAside_5 i0 K51 n) K51 x1 x3 x4 q1.2 else ck (0 ≤ x4 ∧ x4 < 12) (bs (wA q1.2 204 i0 (pm_up (sA q1.2 204 i0) x4.toNat 0)) (fun s3 => ck (0 ≤ x4 ∧ x4 < 12) (ck (vf_n32 (FP.fsub x3 (sB s3 9 i0 x4.toNat))) (bs ((FP.fsub x3 (sB s3 9 i0 x4.toNat))) (fun v6 => f_X2_setAside_45 i0 (f_X2_setAside_5 i0 K51 n) K51 x1 v6 x4 s3))))))))
set_option maxRecDepth 10000 in
theorem t_X2_setAside_5 (xs : Nat → Int) (e : Nat) (i0 : Nat) (hi0 : i0 < 2) (q : UInt32 × pS) (X : List (Option pV) → List pV → Nat → pH → Prop) (hX : pm_clo 1001 xs (pCall pm_tx 1001 xs pm_P (e + 1)) (e + 1) mX2_setAside (eF q) X) (K51 : UInt32 → pS → Option (UInt32 × pS)) (hK51 : ∀ (x3 : UInt32) (d0 : Option pV) (d1 : Option pV) (d2 : Option pV) (d4 : Option pV) (s : pS), K51 x3 s = some q → X [d0, d1, d2, some (vF x3), d4] [] 51 (pW s)) : ∀ (n : Nat) (x1 : UInt32) (x3 : UInt32) (x4 : Int) (d2 : Option pV) (hd2 : pm_nc d2) (s : pS), f_X2_setAside_5 i0 K51 n x1 x3 x4 s = some q → X [some (vR (cc 2 i0)), some (vF x1), d2, some (vF x3), some (vI x4)] [] 5 (pW s) := by
  intro n
  induction n with
  | zero =>
    intro x1 x3 x4 d2 hd2 s h
    rw [f_X2_setAside_5] at h
    cases h
  | succ n ih =>
    intro x1 x3 x4 d2 hd2 s h
    rw [f_X2_setAside_5] at h
    refine r_iload hX (p2 := 7) rfl rfl rfl ?_
    refine r_aload_n hX (p2 := 8) rfl rfl rfl ⟨_, Or.inl rfl⟩ ?_
    refine r_gf hX (p2 := 11) (v := vR (cc 0 i0)) rfl rfl (hc2 i0 hi0) rfl rfl rfl ?_
    refine r_gf hX (p2 := 14) (v := vI (sI s 8 i0)) rfl rfl (hc0 i0 hi0) rfl rfl rfl ?_
    refine r_icmp hX (p2 := 51) (p3 := 17) (P := (sI s 8 i0) ≤ x4) rfl (by decide) rfl rfl (fun p8 => ?_) (fun p8 => ?_)
    · have h := it_pos h p8
      exact hK51 x3 (some (vR (cc 2 i0))) (some (vF x1)) d2 (some (vI x4)) s h
    · have h := it_neg h p8
      refine r_aload_n hX (p2 := 18) rfl rfl rfl ⟨_, Or.inl rfl⟩ ?_
      refine r_iload hX (p2 := 20) rfl rfl rfl ?_
      refine r_fload_n hX (p2 := 21) rfl rfl rfl ?_
      obtain ⟨q1, hq1, h⟩ := bd_some h
      refine r_callv hX (p2 := 24) (v := some (vI q1.1)) (as := [vI x4, vF x1]) (r := []) (st2 := [vI q1.1]) rfl rfl rfl rfl rfl (hc2 i0 hi0) rfl rfl (c_X2_isTooGreat xs e i0 x4 x1 hi0 s q1 hq1) ?_
      refine r_if hX (p2 := 45) (p3 := 27) (P := q1.1 = 0) rfl (by decide) rfl rfl (fun p7 => ?_) (fun p7 => ?_)
      · have h := it_pos h p7
        exact t_X2_setAside_45 xs e i0 hi0 q X hX _ _ ih hK51 x1 x3 x4 d2 hd2 q1.2 h
      · have h := it_neg h p7
        refine r_aload_n hX (p2 := 28) rfl rfl rfl ⟨_, Or.inl rfl⟩ ?_
        refine r_gf hX (p2 := 31) (v := vR (ca 204 i0)) rfl rfl (hc2 i0 hi0) rfl rfl rfl ?_
        refine r_iload hX (p2 := 33) rfl rfl rfl ?_
        refine r_iconst hX (p2 := 34) rfl rfl rfl ?_
        obtain ⟨c2, h⟩ := ck_some h
        obtain ⟨s3, hs3, h⟩ := bs_some h
        refine r_bastore hX (p2 := 35) (j := x4.toNat) rfl rfl (ha204 i0 hi0) rfl rfl c2 rfl (Or.inl rfl) hs3 ?_
        refine r_fload_n hX (p2 := 36) rfl rfl rfl ?_
        refine r_aload_n hX (p2 := 37) rfl rfl rfl ⟨_, Or.inl rfl⟩ ?_
        refine r_gf hX (p2 := 40) (v := vR (ca 9 i0)) rfl rfl (hc2 i0 hi0) rfl rfl rfl ?_
        refine r_iload hX (p2 := 42) rfl rfl rfl ?_
        obtain ⟨c4, h⟩ := ck_some h
        refine r_faload hX (p2 := 43) (j := x4.toNat) rfl rfl (ha9 i0 hi0) rfl rfl c4 rfl ?_
        obtain ⟨c5, h⟩ := ck_some h
        refine r_fsub hX (p2 := 44) rfl rfl c5 ?_
        obtain ⟨v6, hv6, h⟩ := bs_some h
        refine r_fstoreE_n hX (p2 := 45) (ls2 := [some (vR (cc 2 i0)), some (vF x1), d2, some (vF v6), some (vI x4)]) rfl rfl hv6 rfl (st1_nc rfl hd2 rfl) ?_
        exact t_X2_setAside_45 xs e i0 hi0 q X hX _ _ ih hK51 x1 v6 x4 d2 hd2 s3 h
noncomputable def f_X2_setAside (i0 : Nat) (a1 : UInt32) (a2 : UInt32) (s : pS) : Option (UInt32 × pS) := f_X2_setAside_5 i0 (fun x3 s1 => some (x3, s1)) 400 a1 a2 0 s
set_option maxRecDepth 10000 in
theorem c_X2_setAside (xs : Nat → Int) (e : Nat) (i0 : Nat) (a1 : UInt32) (a2 : UInt32) (hi0 : i0 < 2) (s : pS) (q : UInt32 × pS) (h : f_X2_setAside i0 a1 a2 s = some q) : pCall pm_tx 1001 xs pm_P (e + 1 + 1) 40 [vR (cc 2 i0), vF a1, vF a2] (pW s) (.inl (some (vF q.1))) (pW q.2) := by
  refine pCall_of mX2_setAside rfl rfl (fun X hX => ?_)
  show X [some (vR (cc 2 i0)), some (vF a1), some (vF a2), none, none] [] 0 (pW s)
  replace hX : pm_clo 1001 xs (pCall pm_tx 1001 xs pm_P (e + 1)) (e + 1) mX2_setAside (eF q) X := hX
  unfold f_X2_setAside at h
  refine r_fload_n hX (p2 := 1) rfl rfl rfl ?_
  refine r_fstore_n hX (p2 := 2) (ls2 := [some (vR (cc 2 i0)), some (vF a1), some (vF a2), some (vF a2), none]) rfl rfl rfl rfl ?_
  refine r_iconst hX (p2 := 3) rfl rfl rfl ?_
  refine r_istore hX (p2 := 5) (ls2 := [some (vR (cc 2 i0)), some (vF a1), some (vF a2), some (vF a2), some (vI 0)]) rfl rfl rfl rfl ?_
  refine t_X2_setAside_5 xs e i0 hi0 q X hX _ (fun x3 d0 d1 d2 d4 s1 h => ?_) 400 a1 a2 0 (some (vF a2)) rfl s h
  refine r_fload_n hX (p2 := 52) rfl rfl rfl ?_
  exact r_freturn hX rfl rfl (eF_ok h)
noncomputable def f_X2_setShares_39 (i0 : Nat) (K2 : UInt32 → Int → pS → Option (pS)) (K45 : pS → Option (pS)) (x1 : UInt32) (x2 : Int) (s : pS) : Option (pS) := ck (inR (x2 + 1)) (K2 x1 (x2 + 1) s)
set_option maxRecDepth 10000 in
theorem t_X2_setShares_39 (xs : Nat → Int) (e : Nat) (i0 : Nat) (hi0 : i0 < 2) (q : pS) (X : List (Option pV) → List pV → Nat → pH → Prop) (hX : pm_clo 1001 xs (pCall pm_tx 1001 xs pm_P e) e mX2_setShares (eU q) X) (K2 : UInt32 → Int → pS → Option (pS)) (K45 : pS → Option (pS)) (hK2 : ∀ (x1 : UInt32) (x2 : Int) (s : pS), K2 x1 x2 s = some q → X [some (vR (cc 2 i0)), some (vF x1), some (vI x2)] [] 2 (pW s)) (hK45 : ∀ (d0 : Option pV) (d1 : Option pV) (d2 : Option pV) (s : pS), K45 s = some q → X [d0, d1, d2] [] 45 (pW s)) : ∀  (x1 : UInt32) (x2 : Int) (s : pS), f_X2_setShares_39 i0 K2 K45 x1 x2 s = some q → X [some (vR (cc 2 i0)), some (vF x1), some (vI x2)] [] 39 (pW s) := by
  intro x1 x2 s h
  unfold f_X2_setShares_39 at h
  obtain ⟨c1, h⟩ := ck_some h
  refine r_iinc hX (p2 := 42) (ls2 := [some (vR (cc 2 i0)), some (vF x1), some (vI (x2 + 1))]) rfl rfl rfl rfl c1 rfl ?_
  refine r_goto hX (p2 := 2) rfl (by decide) ?_
  exact hK2 x1 (x2 + 1) s h
noncomputable def f_X2_setShares_2 (i0 : Nat) (K45 : pS → Option (pS)) : Nat → UInt32 → Int → pS → Option (pS)
  | 0, _, _, _ => none
  | n + 1, x1, x2, s => (if (sI s 8 i0) ≤ x2 then K45 s else ck (0 ≤ x2 ∧ x2 < 12) ((if (sA s 204 i0 x2.toNat) = 0 then f_X2_setShares_39 i0 (f_X2_setShares_2 i0 K45 n) K45 x1 x2 s else ck (0 ≤ x2 ∧ x2 < 12) (ck (vf_n32 (FP.fmul (sB s 303 i0 x2.toNat) x1)) (ck (0 ≤ x2 ∧ x2 < 12) (bs (wB s 9 i0 (pm_up (sB s 9 i0) x2.toNat (FP.fmul (sB s 303 i0 x2.toNat) x1))) (fun s5 => f_X2_setShares_39 i0 (f_X2_setShares_2 i0 K45 n) K45 x1 x2 s5)))))))
set_option maxRecDepth 10000 in
theorem t_X2_setShares_2 (xs : Nat → Int) (e : Nat) (i0 : Nat) (hi0 : i0 < 2) (q : pS) (X : List (Option pV) → List pV → Nat → pH → Prop) (hX : pm_clo 1001 xs (pCall pm_tx 1001 xs pm_P e) e mX2_setShares (eU q) X) (K45 : pS → Option (pS)) (hK45 : ∀ (d0 : Option pV) (d1 : Option pV) (d2 : Option pV) (s : pS), K45 s = some q → X [d0, d1, d2] [] 45 (pW s)) : ∀ (n : Nat) (x1 : UInt32) (x2 : Int) (s : pS), f_X2_setShares_2 i0 K45 n x1 x2 s = some q → X [some (vR (cc 2 i0)), some (vF x1), some (vI x2)] [] 2 (pW s) := by
  intro n
  induction n with
  | zero =>
    intro x1 x2 s h
    rw [f_X2_setShares_2] at h
    cases h
  | succ n ih =>
    intro x1 x2 s h
    rw [f_X2_setShares_2] at h
    refine r_iload_n hX (p2 := 3) rfl rfl rfl ?_
    refine r_aload_n hX (p2 := 4) rfl rfl rfl ⟨_, Or.inl rfl⟩ ?_
    refine r_gf hX (p2 := 7) (v := vR (cc 0 i0)) rfl rfl (hc2 i0 hi0) rfl rfl rfl ?_
    refine r_gf hX (p2 := 10) (v := vI (sI s 8 i0)) rfl rfl (hc0 i0 hi0) rfl rfl rfl ?_
    refine r_icmp hX (p2 := 45) (p3 := 13) (P := (sI s 8 i0) ≤ x2) rfl (by decide) rfl rfl (fun p7 => ?_) (fun p7 => ?_)
    · have h := it_pos h p7
      exact hK45 (some (vR (cc 2 i0))) (some (vF x1)) (some (vI x2)) s h
    · have h := it_neg h p7
      refine r_aload_n hX (p2 := 14) rfl rfl rfl ⟨_, Or.inl rfl⟩ ?_
      refine r_gf hX (p2 := 17) (v := vR (ca 204 i0)) rfl rfl (hc2 i0 hi0) rfl rfl rfl ?_
      refine r_iload_n hX (p2 := 18) rfl rfl rfl ?_
      obtain ⟨c1, h⟩ := ck_some h
      refine r_baload hX (p2 := 19) (j := x2.toNat) rfl rfl (ha204 i0 hi0) rfl rfl c1 rfl ?_
      refine r_if hX (p2 := 39) (p3 := 22) (P := (sA s 204 i0 x2.toNat) = 0) rfl (by decide) rfl rfl (fun p6 => ?_) (fun p6 => ?_)
      · have h := it_pos h p6
        exact t_X2_setShares_39 xs e i0 hi0 q X hX _ _ ih hK45 x1 x2 s h
      · have h := it_neg h p6
        refine r_aload_n hX (p2 := 23) rfl rfl rfl ⟨_, Or.inl rfl⟩ ?_
        refine r_gf hX (p2 := 26) (v := vR (ca 9 i0)) rfl rfl (hc2 i0 hi0) rfl rfl rfl ?_
        refine r_iload_n hX (p2 := 27) rfl rfl rfl ?_
        refine r_aload_n hX (p2 := 28) rfl rfl rfl ⟨_, Or.inl rfl⟩ ?_
        refine r_gf hX (p2 := 31) (v := vR (cc 3 i0)) rfl rfl (hc2 i0 hi0) rfl rfl rfl ?_
        refine r_gf hX (p2 := 34) (v := vR (ca 303 i0)) rfl rfl (hc3 i0 (Nat.lt_succ_of_lt hi0)) rfl rfl rfl ?_
        refine r_iload_n hX (p2 := 35) rfl rfl rfl ?_
        obtain ⟨c2, h⟩ := ck_some h
        refine r_faload hX (p2 := 36) (j := x2.toNat) rfl rfl (ha303 i0 (Nat.lt_succ_of_lt hi0)) rfl rfl c2 rfl ?_
        refine r_fload_n hX (p2 := 37) rfl rfl rfl ?_
        obtain ⟨c3, h⟩ := ck_some h
        refine r_fmul hX (p2 := 38) rfl rfl c3 ?_
        obtain ⟨c4, h⟩ := ck_some h
        obtain ⟨s5, hs5, h⟩ := bs_some h
        refine r_fastore hX (p2 := 39) (j := x2.toNat) rfl rfl (ha9 i0 hi0) rfl rfl c4 rfl hs5 ?_
        exact t_X2_setShares_39 xs e i0 hi0 q X hX _ _ ih hK45 x1 x2 s5 h
noncomputable def f_X2_setShares (i0 : Nat) (a1 : UInt32) (s : pS) : Option (pS) := f_X2_setShares_2 i0 (fun s1 => some s1) 400 a1 0 s
set_option maxRecDepth 10000 in
theorem c_X2_setShares (xs : Nat → Int) (e : Nat) (i0 : Nat) (a1 : UInt32) (hi0 : i0 < 2) (s : pS) (q : pS) (h : f_X2_setShares i0 a1 s = some q) : pCall pm_tx 1001 xs pm_P (e + 1) 41 [vR (cc 2 i0), vF a1] (pW s) (.inl none) (pW q) := by
  refine pCall_of mX2_setShares rfl rfl (fun X hX => ?_)
  show X [some (vR (cc 2 i0)), some (vF a1), none] [] 0 (pW s)
  replace hX : pm_clo 1001 xs (pCall pm_tx 1001 xs pm_P e) e mX2_setShares (eU q) X := hX
  unfold f_X2_setShares at h
  refine r_iconst hX (p2 := 1) rfl rfl rfl ?_
  refine r_istore_n hX (p2 := 2) (ls2 := [some (vR (cc 2 i0)), some (vF a1), some (vI 0)]) rfl rfl rfl rfl ?_
  refine t_X2_setShares_2 xs e i0 hi0 q X hX _ (fun d0 d1 d2 s1 h => ?_) 400 a1 0 s h
  exact r_return hX rfl rfl (eU_ok h)
noncomputable def f_X2_giveShares_36 (i0 : Nat) (K2 : Int → pS → Option (pS)) (K43 : pS → Option (pS)) (x1 : Int) (y1 : Int) (y2 : Int) (s : pS) : Option (pS) := ck (0 ≤ y1 ∧ y1 < 12) (ck (y2 = 0 ∨ y2 = 1) (bs (wA s 204 i0 (pm_up (sA s 204 i0) y1.toNat y2)) (fun s3 => ck (inR (x1 + 1)) (K2 (x1 + 1) s3))))
set_option maxRecDepth 10000 in
theorem t_X2_giveShares_36 (xs : Nat → Int) (e : Nat) (i0 : Nat) (hi0 : i0 < 2) (q : pS) (X : List (Option pV) → List pV → Nat → pH → Prop) (hX : pm_clo 1001 xs (pCall pm_tx 1001 xs pm_P (e + 2)) (e + 2) mX2_giveShares (eU q) X) (K2 : Int → pS → Option (pS)) (K43 : pS → Option (pS)) (hK2 : ∀ (x1 : Int) (d2 : Option pV) (s : pS), K2 x1 s = some q → X [some (vR (cc 2 i0)), some (vI x1), d2] [] 2 (pW s)) (hK43 : ∀ (d1 : Option pV) (d2 : Option pV) (s : pS), K43 s = some q → X [some (vR (cc 2 i0)), d1, d2] [] 43 (pW s)) : ∀  (x1 : Int) (y1 : Int) (y2 : Int) (d2 : Option pV) (s : pS), f_X2_giveShares_36 i0 K2 K43 x1 y1 y2 s = some q → X [some (vR (cc 2 i0)), some (vI x1), d2] [vI y2, vI y1, vR (ca 204 i0)] 36 (pW s) := by
  intro x1 y1 y2 d2 s h
  unfold f_X2_giveShares_36 at h
  obtain ⟨c1, h⟩ := ck_some h
  obtain ⟨c2, h⟩ := ck_some h
  obtain ⟨s3, hs3, h⟩ := bs_some h
  refine r_bastore hX (p2 := 37) (j := y1.toNat) rfl rfl (ha204 i0 hi0) rfl rfl c1 rfl c2 hs3 ?_
  obtain ⟨c4, h⟩ := ck_some h
  refine r_iinc hX (p2 := 40) (ls2 := [some (vR (cc 2 i0)), some (vI (x1 + 1)), d2]) rfl rfl rfl rfl c4 rfl ?_
  refine r_goto hX (p2 := 2) rfl (by decide) ?_
  exact hK2 (x1 + 1) d2 s3 h
noncomputable def f_X2_giveShares_2 (i0 : Nat) (K43 : pS → Option (pS)) : Nat → Int → pS → Option (pS)
  | 0, _, _ => none
  | n + 1, x1, s => (if (sI s 8 i0) ≤ x1 then K43 s else ck (0 ≤ x1 ∧ x1 < 12) ((if (sA s 302 i0 x1.toNat) ≠ 4 then f_X2_giveShares_36 i0 (f_X2_giveShares_2 i0 K43 n) K43 x1 x1 0 s else f_X2_giveShares_36 i0 (f_X2_giveShares_2 i0 K43 n) K43 x1 x1 1 s)))
set_option maxRecDepth 10000 in
theorem t_X2_giveShares_2 (xs : Nat → Int) (e : Nat) (i0 : Nat) (hi0 : i0 < 2) (q : pS) (X : List (Option pV) → List pV → Nat → pH → Prop) (hX : pm_clo 1001 xs (pCall pm_tx 1001 xs pm_P (e + 2)) (e + 2) mX2_giveShares (eU q) X) (K43 : pS → Option (pS)) (hK43 : ∀ (d1 : Option pV) (d2 : Option pV) (s : pS), K43 s = some q → X [some (vR (cc 2 i0)), d1, d2] [] 43 (pW s)) : ∀ (n : Nat) (x1 : Int) (d2 : Option pV) (s : pS), f_X2_giveShares_2 i0 K43 n x1 s = some q → X [some (vR (cc 2 i0)), some (vI x1), d2] [] 2 (pW s) := by
  intro n
  induction n with
  | zero =>
    intro x1 d2 s h
    rw [f_X2_giveShares_2] at h
    cases h
  | succ n ih =>
    intro x1 d2 s h
    rw [f_X2_giveShares_2] at h
    refine r_iload_n hX (p2 := 3) rfl rfl rfl ?_
    refine r_aload_n hX (p2 := 4) rfl rfl rfl ⟨_, Or.inl rfl⟩ ?_
    refine r_gf hX (p2 := 7) (v := vR (cc 0 i0)) rfl rfl (hc2 i0 hi0) rfl rfl rfl ?_
    refine r_gf hX (p2 := 10) (v := vI (sI s 8 i0)) rfl rfl (hc0 i0 hi0) rfl rfl rfl ?_
    refine r_icmp hX (p2 := 43) (p3 := 13) (P := (sI s 8 i0) ≤ x1) rfl (by decide) rfl rfl (fun p3 => ?_) (fun p3 => ?_)
    · have h := it_pos h p3
      exact hK43 (some (vI x1)) d2 s h
    · have h := it_neg h p3
      refine r_aload_n hX (p2 := 14) rfl rfl rfl ⟨_, Or.inl rfl⟩ ?_
      refine r_gf hX (p2 := 17) (v := vR (ca 204 i0)) rfl rfl (hc2 i0 hi0) rfl rfl rfl ?_
      refine r_iload_n hX (p2 := 18) rfl rfl rfl ?_
      refine r_aload_n hX (p2 := 19) rfl rfl rfl ⟨_, Or.inl rfl⟩ ?_
      refine r_gf hX (p2 := 22) (v := vR (cc 3 i0)) rfl rfl (hc2 i0 hi0) rfl rfl rfl ?_
      refine r_gf hX (p2 := 25) (v := vR (ca 302 i0)) rfl rfl (hc3 i0 (Nat.lt_succ_of_lt hi0)) rfl rfl rfl ?_
      refine r_iload_n hX (p2 := 26) rfl rfl rfl ?_
      obtain ⟨c1, h⟩ := ck_some h
      refine r_iaload hX (p2 := 27) (j := x1.toNat) rfl rfl (ha302 i0 (Nat.lt_succ_of_lt hi0)) rfl rfl c1 rfl ?_
      refine r_iconst hX (p2 := 28) rfl rfl rfl ?_
      refine r_icmp hX (p2 := 35) (p3 := 31) (P := (sA s 302 i0 x1.toNat) ≠ 4) rfl (by decide) rfl rfl (fun p2 => ?_) (fun p2 => ?_)
      · have h := it_pos h p2
        refine r_iconst hX (p2 := 36) rfl rfl rfl ?_
        exact t_X2_giveShares_36 xs e i0 hi0 q X hX _ _ ih hK43 x1 x1 0 d2 s h
      · have h := it_neg h p2
        refine r_iconst hX (p2 := 32) rfl rfl rfl ?_
        refine r_goto hX (p2 := 36) rfl (by decide) ?_
        exact t_X2_giveShares_36 xs e i0 hi0 q X hX _ _ ih hK43 x1 x1 1 d2 s h
noncomputable def f_X2_giveShares_50 (i0 : Nat) (K85 : UInt32 → pS → Option (pS)) : Nat → UInt32 → Int → pS → Option (pS)
  | 0, _, _, _ => none
  | n + 1, x1, x2, s => (if 12 ≤ x2 then K85 x1 s else (f_X2_oneShare i0 x1 s).bind (fun q1 => (f_X2_hasTooGreat i0 q1.1 q1.2).bind (fun q2 => (if q2.1 = 0 then K85 x1 q2.2 else (f_X2_oneShare i0 x1 q2.2).bind (fun q3 => (f_X2_setAside i0 q3.1 x1 q3.2).bind (fun q4 => ck (inR (x2 + 1)) (f_X2_giveShares_50 i0 K85 n q4.1 (x2 + 1) q4.2)))))))
set_option maxRecDepth 10000 in
theorem t_X2_giveShares_50 (xs : Nat → Int) (e : Nat) (i0 : Nat) (hi0 : i0 < 2) (q : pS) (X : List (Option pV) → List pV → Nat → pH → Prop) (hX : pm_clo 1001 xs (pCall pm_tx 1001 xs pm_P (e + 2)) (e + 2) mX2_giveShares (eU q) X) (K85 : UInt32 → pS → Option (pS)) (hK85 : ∀ (x1 : UInt32) (d2 : Option pV) (s : pS), K85 x1 s = some q → X [some (vR (cc 2 i0)), some (vF x1), d2] [] 85 (pW s)) : ∀ (n : Nat) (x1 : UInt32) (x2 : Int) (s : pS), f_X2_giveShares_50 i0 K85 n x1 x2 s = some q → X [some (vR (cc 2 i0)), some (vF x1), some (vI x2)] [] 50 (pW s) := by
  intro n
  induction n with
  | zero =>
    intro x1 x2 s h
    rw [f_X2_giveShares_50] at h
    cases h
  | succ n ih =>
    intro x1 x2 s h
    rw [f_X2_giveShares_50] at h
    refine r_iload_n hX (p2 := 51) rfl rfl rfl ?_
    refine r_bipush hX (p2 := 53) rfl rfl rfl ?_
    refine r_icmp hX (p2 := 85) (p3 := 56) (P := 12 ≤ x2) rfl (by decide) rfl rfl (fun p7 => ?_) (fun p7 => ?_)
    · have h := it_pos h p7
      exact hK85 x1 (some (vI x2)) s h
    · have h := it_neg h p7
      refine r_aload_n hX (p2 := 57) rfl rfl rfl ⟨_, Or.inl rfl⟩ ?_
      refine r_aload_n hX (p2 := 58) rfl rfl rfl ⟨_, Or.inl rfl⟩ ?_
      refine r_fload_n hX (p2 := 59) rfl rfl rfl ?_
      obtain ⟨q1, hq1, h⟩ := bd_some h
      refine r_callv hX (p2 := 62) (v := some (vF q1.1)) (as := [vF x1]) (r := [vR (cc 2 i0)]) (st2 := [vF q1.1, vR (cc 2 i0)]) rfl rfl rfl rfl rfl (hc2 i0 hi0) rfl rfl (c_X2_oneShare xs e i0 x1 hi0 s q1 hq1) ?_
      obtain ⟨q2, hq2, h⟩ := bd_some h
      refine r_callv hX (p2 := 65) (v := some (vI q2.1)) (as := [vF q1.1]) (r := []) (st2 := [vI q2.1]) rfl rfl rfl rfl rfl (hc2 i0 hi0) rfl rfl (c_X2_hasTooGreat xs e i0 q1.1 hi0 q1.2 q2 hq2) ?_
      refine r_if hX (p2 := 85) (p3 := 68) (P := q2.1 = 0) rfl (by decide) rfl rfl (fun p6 => ?_) (fun p6 => ?_)
      · have h := it_pos h p6
        exact hK85 x1 (some (vI x2)) q2.2 h
      · have h := it_neg h p6
        refine r_aload_n hX (p2 := 69) rfl rfl rfl ⟨_, Or.inl rfl⟩ ?_
        refine r_aload_n hX (p2 := 70) rfl rfl rfl ⟨_, Or.inl rfl⟩ ?_
        refine r_fload_n hX (p2 := 71) rfl rfl rfl ?_
        obtain ⟨q3, hq3, h⟩ := bd_some h
        refine r_callv hX (p2 := 74) (v := some (vF q3.1)) (as := [vF x1]) (r := [vR (cc 2 i0)]) (st2 := [vF q3.1, vR (cc 2 i0)]) rfl rfl rfl rfl rfl (hc2 i0 hi0) rfl rfl (c_X2_oneShare xs e i0 x1 hi0 q2.2 q3 hq3) ?_
        refine r_fload_n hX (p2 := 75) rfl rfl rfl ?_
        obtain ⟨q4, hq4, h⟩ := bd_some h
        refine r_callv hX (p2 := 78) (v := some (vF q4.1)) (as := [vF q3.1, vF x1]) (r := []) (st2 := [vF q4.1]) rfl rfl rfl rfl rfl (hc2 i0 hi0) rfl rfl (c_X2_setAside xs e i0 q3.1 x1 hi0 q3.2 q4 hq4) ?_
        refine r_fstore_n hX (p2 := 79) (ls2 := [some (vR (cc 2 i0)), some (vF q4.1), some (vI x2)]) rfl rfl rfl rfl ?_
        obtain ⟨c5, h⟩ := ck_some h
        refine r_iinc hX (p2 := 82) (ls2 := [some (vR (cc 2 i0)), some (vF q4.1), some (vI (x2 + 1))]) rfl rfl rfl rfl c5 rfl ?_
        refine r_goto hX (p2 := 50) rfl (by decide) ?_
        exact ih q4.1 (x2 + 1) q4.2 h
noncomputable def f_X2_giveShares_85 (i0 : Nat) (x1 : UInt32) (s : pS) : Option (pS) := (f_X2_oneShare i0 x1 s).bind (fun q1 => (f_X2_setShares i0 q1.1 q1.2).bind (fun q2 => some q2))
set_option maxRecDepth 10000 in
theorem t_X2_giveShares_85 (xs : Nat → Int) (e : Nat) (i0 : Nat) (hi0 : i0 < 2) (q : pS) (X : List (Option pV) → List pV → Nat → pH → Prop) (hX : pm_clo 1001 xs (pCall pm_tx 1001 xs pm_P (e + 2)) (e + 2) mX2_giveShares (eU q) X) : ∀  (x1 : UInt32) (d2 : Option pV) (s : pS), f_X2_giveShares_85 i0 x1 s = some q → X [some (vR (cc 2 i0)), some (vF x1), d2] [] 85 (pW s) := by
  intro x1 d2 s h
  unfold f_X2_giveShares_85 at h
  refine r_aload_n hX (p2 := 86) rfl rfl rfl ⟨_, Or.inl rfl⟩ ?_
  refine r_aload_n hX (p2 := 87) rfl rfl rfl ⟨_, Or.inl rfl⟩ ?_
  refine r_fload_n hX (p2 := 88) rfl rfl rfl ?_
  obtain ⟨q1, hq1, h⟩ := bd_some h
  refine r_callv hX (p2 := 91) (v := some (vF q1.1)) (as := [vF x1]) (r := [vR (cc 2 i0)]) (st2 := [vF q1.1, vR (cc 2 i0)]) rfl rfl rfl rfl rfl (hc2 i0 hi0) rfl rfl (c_X2_oneShare xs e i0 x1 hi0 s q1 hq1) ?_
  obtain ⟨q2, hq2, h⟩ := bd_some h
  refine r_callv hX (p2 := 94) (v := none) (as := [vF q1.1]) (r := []) (st2 := []) rfl rfl rfl rfl rfl (hc2 i0 hi0) rfl rfl (c_X2_setShares xs (e + 1) i0 q1.1 hi0 q1.2 q2 hq2) ?_
  exact r_return hX rfl rfl (eU_ok h)
noncomputable def f_X2_giveShares (i0 : Nat) (s : pS) : Option (pS) := f_X2_giveShares_2 i0 (fun s1 => (f_X2_spaceForShares i0 s1).bind (fun q2 => f_X2_giveShares_50 i0 (fun x1 s3 => f_X2_giveShares_85 i0 x1 s3) 400 q2.1 0 q2.2)) 400 0 s
set_option maxRecDepth 10000 in
theorem c_X2_giveShares (xs : Nat → Int) (e : Nat) (i0 : Nat) (hi0 : i0 < 2) (s : pS) (q : pS) (h : f_X2_giveShares i0 s = some q) : pCall pm_tx 1001 xs pm_P (e + 2 + 1) 37 [vR (cc 2 i0)] (pW s) (.inl none) (pW q) := by
  refine pCall_of mX2_giveShares rfl rfl (fun X hX => ?_)
  show X [some (vR (cc 2 i0)), none, none] [] 0 (pW s)
  replace hX : pm_clo 1001 xs (pCall pm_tx 1001 xs pm_P (e + 2)) (e + 2) mX2_giveShares (eU q) X := hX
  unfold f_X2_giveShares at h
  refine r_iconst hX (p2 := 1) rfl rfl rfl ?_
  refine r_istore_n hX (p2 := 2) (ls2 := [some (vR (cc 2 i0)), some (vI 0), none]) rfl rfl rfl rfl ?_
  refine t_X2_giveShares_2 xs e i0 hi0 q X hX _ (fun d1 d2 s1 h => ?_) 400 0 none s h
  refine r_aload_n hX (p2 := 44) rfl rfl rfl ⟨_, Or.inl rfl⟩ ?_
  obtain ⟨q2, hq2, h⟩ := bd_some h
  refine r_callv hX (p2 := 47) (v := some (vF q2.1)) (as := []) (r := []) (st2 := [vF q2.1]) rfl rfl rfl rfl rfl (hc2 i0 hi0) rfl rfl (c_X2_spaceForShares xs e i0 hi0 s1 q2 hq2) ?_
  refine r_fstore_n hX (p2 := 48) (ls2 := [some (vR (cc 2 i0)), some (vF q2.1), d2]) rfl rfl rfl rfl ?_
  refine r_iconst hX (p2 := 49) rfl rfl rfl ?_
  refine r_istore_n hX (p2 := 50) (ls2 := [some (vR (cc 2 i0)), some (vF q2.1), some (vI 0)]) rfl rfl rfl rfl ?_
  refine t_X2_giveShares_50 xs e i0 hi0 q X hX _ (fun x1 d2 s3 h => ?_) 400 q2.1 0 q2.2 h
  exact t_X2_giveShares_85 xs e i0 hi0 q X hX x1 d2 s3 h
noncomputable def f_X2_stretch_45 (i0 : Nat) (K15 : Int → Int → pS → Option (pS)) (K53 : Int → pS → Option (pS)) (x2 : Int) (y0 : Int) (y1 : Int) (s : pS) : Option (pS) := ck (inR (y0 + y1)) (bs ((y0 + y1)) (fun v2 => ck (inR (x2 + 1)) (K15 v2 (x2 + 1) s)))
set_option maxRecDepth 10000 in
theorem t_X2_stretch_45 (xs : Nat → Int) (e : Nat) (i0 : Nat) (hi0 : i0 < 2) (q : pS) (X : List (Option pV) → List pV → Nat → pH → Prop) (hX : pm_clo 1001 xs (pCall pm_tx 1001 xs pm_P (e + 2)) (e + 2) mX2_stretch (eU q) X) (K15 : Int → Int → pS → Option (pS)) (K53 : Int → pS → Option (pS)) (hK15 : ∀ (x1 : Int) (x2 : Int) (d3 : Option pV) (s : pS), K15 x1 x2 s = some q → X [some (vR (cc 2 i0)), some (vI x1), some (vI x2), d3] [] 15 (pW s)) (hK53 : ∀ (x1 : Int) (d2 : Option pV) (d3 : Option pV) (s : pS), K53 x1 s = some q → X [some (vR (cc 2 i0)), some (vI x1), d2, d3] [] 53 (pW s)) : ∀  (x2 : Int) (y0 : Int) (y1 : Int) (d1 : Option pV) (d3 : Option pV) (s : pS), f_X2_stretch_45 i0 K15 K53 x2 y0 y1 s = some q → X [some (vR (cc 2 i0)), d1, some (vI x2), d3] [vI y1, vI y0] 45 (pW s) := by
  intro x2 y0 y1 d1 d3 s h
  unfold f_X2_stretch_45 at h
  obtain ⟨c1, h⟩ := ck_some h
  refine r_iadd hX (p2 := 46) rfl rfl c1 ?_
  obtain ⟨v2, hv2, h⟩ := bs_some h
  refine r_istoreE_n hX (p2 := 47) (ls2 := [some (vR (cc 2 i0)), some (vI v2), some (vI x2), d3]) rfl rfl hv2 rfl rfl ?_
  obtain ⟨c3, h⟩ := ck_some h
  refine r_iinc hX (p2 := 50) (ls2 := [some (vR (cc 2 i0)), some (vI v2), some (vI (x2 + 1)), d3]) rfl rfl rfl rfl c3 rfl ?_
  refine r_goto hX (p2 := 15) rfl (by decide) ?_
  exact hK15 v2 (x2 + 1) d3 s h
noncomputable def f_X2_stretch_15 (i0 : Nat) (K53 : Int → pS → Option (pS)) : Nat → Int → Int → pS → Option (pS)
  | 0, _, _, _ => none
  | n + 1, x1, x2, s => (if (sI s 8 i0) ≤ x2 then K53 x1 s else ck (0 ≤ x2 ∧ x2 < 12) ((if (sA s 302 i0 x2.toNat) ≠ 3 then f_X2_stretch_45 i0 (f_X2_stretch_15 i0 K53 n) K53 x2 x1 0 s else f_X2_stretch_45 i0 (f_X2_stretch_15 i0 K53 n) K53 x2 x1 1 s)))
set_option maxRecDepth 10000 in
theorem t_X2_stretch_15 (xs : Nat → Int) (e : Nat) (i0 : Nat) (hi0 : i0 < 2) (q : pS) (X : List (Option pV) → List pV → Nat → pH → Prop) (hX : pm_clo 1001 xs (pCall pm_tx 1001 xs pm_P (e + 2)) (e + 2) mX2_stretch (eU q) X) (K53 : Int → pS → Option (pS)) (hK53 : ∀ (x1 : Int) (d2 : Option pV) (d3 : Option pV) (s : pS), K53 x1 s = some q → X [some (vR (cc 2 i0)), some (vI x1), d2, d3] [] 53 (pW s)) : ∀ (n : Nat) (x1 : Int) (x2 : Int) (d3 : Option pV) (s : pS), f_X2_stretch_15 i0 K53 n x1 x2 s = some q → X [some (vR (cc 2 i0)), some (vI x1), some (vI x2), d3] [] 15 (pW s) := by
  intro n
  induction n with
  | zero =>
    intro x1 x2 d3 s h
    rw [f_X2_stretch_15] at h
    cases h
  | succ n ih =>
    intro x1 x2 d3 s h
    rw [f_X2_stretch_15] at h
    refine r_iload_n hX (p2 := 16) rfl rfl rfl ?_
    refine r_aload_n hX (p2 := 17) rfl rfl rfl ⟨_, Or.inl rfl⟩ ?_
    refine r_gf hX (p2 := 20) (v := vR (cc 0 i0)) rfl rfl (hc2 i0 hi0) rfl rfl rfl ?_
    refine r_gf hX (p2 := 23) (v := vI (sI s 8 i0)) rfl rfl (hc0 i0 hi0) rfl rfl rfl ?_
    refine r_icmp hX (p2 := 53) (p3 := 26) (P := (sI s 8 i0) ≤ x2) rfl (by decide) rfl rfl (fun p3 => ?_) (fun p3 => ?_)
    · have h := it_pos h p3
      exact hK53 x1 (some (vI x2)) d3 s h
    · have h := it_neg h p3
      refine r_iload_n hX (p2 := 27) rfl rfl rfl ?_
      refine r_aload_n hX (p2 := 28) rfl rfl rfl ⟨_, Or.inl rfl⟩ ?_
      refine r_gf hX (p2 := 31) (v := vR (cc 3 i0)) rfl rfl (hc2 i0 hi0) rfl rfl rfl ?_
      refine r_gf hX (p2 := 34) (v := vR (ca 302 i0)) rfl rfl (hc3 i0 (Nat.lt_succ_of_lt hi0)) rfl rfl rfl ?_
      refine r_iload_n hX (p2 := 35) rfl rfl rfl ?_
      obtain ⟨c1, h⟩ := ck_some h
      refine r_iaload hX (p2 := 36) (j := x2.toNat) rfl rfl (ha302 i0 (Nat.lt_succ_of_lt hi0)) rfl rfl c1 rfl ?_
      refine r_iconst hX (p2 := 37) rfl rfl rfl ?_
      refine r_icmp hX (p2 := 44) (p3 := 40) (P := (sA s 302 i0 x2.toNat) ≠ 3) rfl (by decide) rfl rfl (fun p2 => ?_) (fun p2 => ?_)
      · have h := it_pos h p2
        refine r_iconst hX (p2 := 45) rfl rfl rfl ?_
        exact t_X2_stretch_45 xs e i0 hi0 q X hX _ _ ih hK53 x2 x1 0 (some (vI x1)) d3 s h
      · have h := it_neg h p2
        refine r_iconst hX (p2 := 41) rfl rfl rfl ?_
        refine r_goto hX (p2 := 45) rfl (by decide) ?_
        exact t_X2_stretch_45 xs e i0 hi0 q X hX _ _ ih hK53 x2 x1 1 (some (vI x1)) d3 s h
noncomputable def f_X2_stretch_80 (i0 : Nat) (s : pS) : Option (pS) := some s
set_option maxRecDepth 10000 in
theorem t_X2_stretch_80 (xs : Nat → Int) (e : Nat) (i0 : Nat) (hi0 : i0 < 2) (q : pS) (X : List (Option pV) → List pV → Nat → pH → Prop) (hX : pm_clo 1001 xs (pCall pm_tx 1001 xs pm_P (e + 2)) (e + 2) mX2_stretch (eU q) X) : ∀  (d0 : Option pV) (d1 : Option pV) (d2 : Option pV) (d3 : Option pV) (s : pS), f_X2_stretch_80 i0 s = some q → X [d0, d1, d2, d3] [] 80 (pW s) := by
  intro d0 d1 d2 d3 s h
  unfold f_X2_stretch_80 at h
  exact r_return hX rfl rfl (eU_ok h)
noncomputable def f_X2_stretch_132 (i0 : Nat) (K94 : UInt32 → Int → pS → Option (pS)) (K138 : pS → Option (pS)) (x2 : UInt32) (x3 : Int) (s : pS) : Option (pS) := ck (inR (x3 + 1)) (K94 x2 (x3 + 1) s)
set_option maxRecDepth 10000 in
theorem t_X2_stretch_132 (xs : Nat → Int) (e : Nat) (i0 : Nat) (hi0 : i0 < 2) (q : pS) (X : List (Option pV) → List pV → Nat → pH → Prop) (hX : pm_clo 1001 xs (pCall pm_tx 1001 xs pm_P (e + 2)) (e + 2) mX2_stretch (eU q) X) (K94 : UInt32 → Int → pS → Option (pS)) (K138 : pS → Option (pS)) (hK94 : ∀ (x2 : UInt32) (x3 : Int) (d1 : Option pV) (s : pS), K94 x2 x3 s = some q → X [some (vR (cc 2 i0)), d1, some (vF x2), some (vI x3)] [] 94 (pW s)) (hK138 : ∀ (d1 : Option pV) (d2 : Option pV) (d3 : Option pV) (s : pS), K138 s = some q → X [some (vR (cc 2 i0)), d1, d2, d3] [] 138 (pW s)) : ∀  (x2 : UInt32) (x3 : Int) (d1 : Option pV) (s : pS), f_X2_stretch_132 i0 K94 K138 x2 x3 s = some q → X [some (vR (cc 2 i0)), d1, some (vF x2), some (vI x3)] [] 132 (pW s) := by
  intro x2 x3 d1 s h
  unfold f_X2_stretch_132 at h
  obtain ⟨c1, h⟩ := ck_some h
  refine r_iinc hX (p2 := 135) (ls2 := [some (vR (cc 2 i0)), d1, some (vF x2), some (vI (x3 + 1))]) rfl rfl rfl rfl c1 rfl ?_
  refine r_goto hX (p2 := 94) rfl (by decide) ?_
  exact hK94 x2 (x3 + 1) d1 s h
noncomputable def f_X2_stretch_94 (i0 : Nat) (K138 : pS → Option (pS)) : Nat → UInt32 → Int → pS → Option (pS)
  | 0, _, _, _ => none
  | n + 1, x2, x3, s => (if (sI s 8 i0) ≤ x3 then K138 s else ck (0 ≤ x3 ∧ x3 < 12) ((if (sA s 302 i0 x3.toNat) ≠ 3 then f_X2_stretch_132 i0 (f_X2_stretch_94 i0 K138 n) K138 x2 x3 s else ck (0 ≤ x3 ∧ x3 < 12) (ck (vf_n32 (FP.fadd (sB s 9 i0 x3.toNat) x2)) (ck (0 ≤ x3 ∧ x3 < 12) (bs (wB s 9 i0 (pm_up (sB s 9 i0) x3.toNat (FP.fadd (sB s 9 i0 x3.toNat) x2))) (fun s5 => f_X2_stretch_132 i0 (f_X2_stretch_94 i0 K138 n) K138 x2 x3 s5)))))))
set_option maxRecDepth 10000 in
theorem t_X2_stretch_94 (xs : Nat → Int) (e : Nat) (i0 : Nat) (hi0 : i0 < 2) (q : pS) (X : List (Option pV) → List pV → Nat → pH → Prop) (hX : pm_clo 1001 xs (pCall pm_tx 1001 xs pm_P (e + 2)) (e + 2) mX2_stretch (eU q) X) (K138 : pS → Option (pS)) (hK138 : ∀ (d1 : Option pV) (d2 : Option pV) (d3 : Option pV) (s : pS), K138 s = some q → X [some (vR (cc 2 i0)), d1, d2, d3] [] 138 (pW s)) : ∀ (n : Nat) (x2 : UInt32) (x3 : Int) (d1 : Option pV) (s : pS), f_X2_stretch_94 i0 K138 n x2 x3 s = some q → X [some (vR (cc 2 i0)), d1, some (vF x2), some (vI x3)] [] 94 (pW s) := by
  intro n
  induction n with
  | zero =>
    intro x2 x3 d1 s h
    rw [f_X2_stretch_94] at h
    cases h
  | succ n ih =>
    intro x2 x3 d1 s h
    rw [f_X2_stretch_94] at h
    refine r_iload_n hX (p2 := 95) rfl rfl rfl ?_
    refine r_aload_n hX (p2 := 96) rfl rfl rfl ⟨_, Or.inl rfl⟩ ?_
    refine r_gf hX (p2 := 99) (v := vR (cc 0 i0)) rfl rfl (hc2 i0 hi0) rfl rfl rfl ?_
    refine r_gf hX (p2 := 102) (v := vI (sI s 8 i0)) rfl rfl (hc0 i0 hi0) rfl rfl rfl ?_
    refine r_icmp hX (p2 := 138) (p3 := 105) (P := (sI s 8 i0) ≤ x3) rfl (by decide) rfl rfl (fun p7 => ?_) (fun p7 => ?_)
    · have h := it_pos h p7
      exact hK138 d1 (some (vF x2)) (some (vI x3)) s h
    · have h := it_neg h p7
      refine r_aload_n hX (p2 := 106) rfl rfl rfl ⟨_, Or.inl rfl⟩ ?_
      refine r_gf hX (p2 := 109) (v := vR (cc 3 i0)) rfl rfl (hc2 i0 hi0) rfl rfl rfl ?_
      refine r_gf hX (p2 := 112) (v := vR (ca 302 i0)) rfl rfl (hc3 i0 (Nat.lt_succ_of_lt hi0)) rfl rfl rfl ?_
      refine r_iload_n hX (p2 := 113) rfl rfl rfl ?_
      obtain ⟨c1, h⟩ := ck_some h
      refine r_iaload hX (p2 := 114) (j := x3.toNat) rfl rfl (ha302 i0 (Nat.lt_succ_of_lt hi0)) rfl rfl c1 rfl ?_
      refine r_iconst hX (p2 := 115) rfl rfl rfl ?_
      refine r_icmp hX (p2 := 132) (p3 := 118) (P := (sA s 302 i0 x3.toNat) ≠ 3) rfl (by decide) rfl rfl (fun p6 => ?_) (fun p6 => ?_)
      · have h := it_pos h p6
        exact t_X2_stretch_132 xs e i0 hi0 q X hX _ _ ih hK138 x2 x3 d1 s h
      · have h := it_neg h p6
        refine r_aload_n hX (p2 := 119) rfl rfl rfl ⟨_, Or.inl rfl⟩ ?_
        refine r_gf hX (p2 := 122) (v := vR (ca 9 i0)) rfl rfl (hc2 i0 hi0) rfl rfl rfl ?_
        refine r_iload_n hX (p2 := 123) rfl rfl rfl ?_
        refine r_aload_n hX (p2 := 124) rfl rfl rfl ⟨_, Or.inl rfl⟩ ?_
        refine r_gf hX (p2 := 127) (v := vR (ca 9 i0)) rfl rfl (hc2 i0 hi0) rfl rfl rfl ?_
        refine r_iload_n hX (p2 := 128) rfl rfl rfl ?_
        obtain ⟨c2, h⟩ := ck_some h
        refine r_faload hX (p2 := 129) (j := x3.toNat) rfl rfl (ha9 i0 hi0) rfl rfl c2 rfl ?_
        refine r_fload_n hX (p2 := 130) rfl rfl rfl ?_
        obtain ⟨c3, h⟩ := ck_some h
        refine r_fadd hX (p2 := 131) rfl rfl c3 ?_
        obtain ⟨c4, h⟩ := ck_some h
        obtain ⟨s5, hs5, h⟩ := bs_some h
        refine r_fastore hX (p2 := 132) (j := x3.toNat) rfl rfl (ha9 i0 hi0) rfl rfl c4 rfl hs5 ?_
        exact t_X2_stretch_132 xs e i0 hi0 q X hX _ _ ih hK138 x2 x3 d1 s5 h
noncomputable def f_X2_stretch (i0 : Nat) (s : pS) : Option (pS) := (f_X2_restOfSpace i0 s).bind (fun q1 => bs (wF q1.2 13 i0 q1.1) (fun s2 => f_X2_stretch_15 i0 (fun x1 s3 => (if (sI s3 3 i0) ≠ 3 then f_X2_stretch_80 i0 s3 else (if x1 = 0 then f_X2_stretch_80 i0 s3 else (if 0 < (pm_fc .g (sF s3 13 i0) FP.fconst0) then ck (vf_n32 (FP.fdiv (sF s3 13 i0) (FP.i2f (Int32.ofInt x1)))) (bs ((FP.fdiv (sF s3 13 i0) (FP.i2f (Int32.ofInt x1)))) (fun v5 => f_X2_stretch_94 i0 (fun s6 => (f_X2_restOfSpace i0 s6).bind (fun q7 => bs (wF q7.2 13 i0 q7.1) (fun s8 => some s8))) 400 v5 0 s3)) else f_X2_stretch_80 i0 s3)))) 400 0 0 s2))
set_option maxRecDepth 10000 in
theorem c_X2_stretch (xs : Nat → Int) (e : Nat) (i0 : Nat) (hi0 : i0 < 2) (s : pS) (q : pS) (h : f_X2_stretch i0 s = some q) : pCall pm_tx 1001 xs pm_P (e + 2 + 1) 44 [vR (cc 2 i0)] (pW s) (.inl none) (pW q) := by
  refine pCall_of mX2_stretch rfl rfl (fun X hX => ?_)
  show X [some (vR (cc 2 i0)), none, none, none] [] 0 (pW s)
  replace hX : pm_clo 1001 xs (pCall pm_tx 1001 xs pm_P (e + 2)) (e + 2) mX2_stretch (eU q) X := hX
  unfold f_X2_stretch at h
  refine r_aload_n hX (p2 := 1) rfl rfl rfl ⟨_, Or.inl rfl⟩ ?_
  refine r_gf hX (p2 := 4) (v := vR (cc 0 i0)) rfl rfl (hc2 i0 hi0) rfl rfl rfl ?_
  refine r_aload_n hX (p2 := 5) rfl rfl rfl ⟨_, Or.inl rfl⟩ ?_
  obtain ⟨q1, hq1, h⟩ := bd_some h
  refine r_callv hX (p2 := 8) (v := some (vF q1.1)) (as := []) (r := [vR (cc 0 i0)]) (st2 := [vF q1.1, vR (cc 0 i0)]) rfl rfl rfl rfl rfl (hc2 i0 hi0) rfl rfl (c_X2_restOfSpace xs e i0 hi0 s q1 hq1) ?_
  obtain ⟨s2, hs2, h⟩ := bs_some h
  refine r_pfF hX (p2 := 11) rfl rfl (hc0 i0 hi0) rfl rfl rfl rfl hs2 ?_
  refine r_iconst hX (p2 := 12) rfl rfl rfl ?_
  refine r_istore_n hX (p2 := 13) (ls2 := [some (vR (cc 2 i0)), some (vI 0), none, none]) rfl rfl rfl rfl ?_
  refine r_iconst hX (p2 := 14) rfl rfl rfl ?_
  refine r_istore_n hX (p2 := 15) (ls2 := [some (vR (cc 2 i0)), some (vI 0), some (vI 0), none]) rfl rfl rfl rfl ?_
  refine t_X2_stretch_15 xs e i0 hi0 q X hX _ (fun x1 d2 d3 s3 h => ?_) 400 0 0 none s2 h
  refine r_aload_n hX (p2 := 54) rfl rfl rfl ⟨_, Or.inl rfl⟩ ?_
  refine r_gf hX (p2 := 57) (v := vR (cc 0 i0)) rfl rfl (hc2 i0 hi0) rfl rfl rfl ?_
  refine r_gf hX (p2 := 60) (v := vI (sI s3 3 i0)) rfl rfl (hc0 i0 hi0) rfl rfl rfl ?_
  refine r_iconst hX (p2 := 61) rfl rfl rfl ?_
  refine r_icmp hX (p2 := 80) (p3 := 64) (P := (sI s3 3 i0) ≠ 3) rfl (by decide) rfl rfl (fun p11 => ?_) (fun p11 => ?_)
  · have h := it_pos h p11
    exact t_X2_stretch_80 xs e i0 hi0 q X hX (some (vR (cc 2 i0))) (some (vI x1)) d2 d3 s3 h
  · have h := it_neg h p11
    refine r_iload_n hX (p2 := 65) rfl rfl rfl ?_
    refine r_if hX (p2 := 80) (p3 := 68) (P := x1 = 0) rfl (by decide) rfl rfl (fun p10 => ?_) (fun p10 => ?_)
    · have h := it_pos h p10
      exact t_X2_stretch_80 xs e i0 hi0 q X hX (some (vR (cc 2 i0))) (some (vI x1)) d2 d3 s3 h
    · have h := it_neg h p10
      refine r_aload_n hX (p2 := 69) rfl rfl rfl ⟨_, Or.inl rfl⟩ ?_
      refine r_gf hX (p2 := 72) (v := vR (cc 0 i0)) rfl rfl (hc2 i0 hi0) rfl rfl rfl ?_
      refine r_gf hX (p2 := 75) (v := vF (sF s3 13 i0)) rfl rfl (hc0 i0 hi0) rfl rfl rfl ?_
      refine r_fconst0 hX (p2 := 76) rfl rfl ?_
      refine r_fcmp hX (p2 := 77) rfl rfl ?_
      refine r_if hX (p2 := 81) (p3 := 80) (P := 0 < (pm_fc .g (sF s3 13 i0) FP.fconst0)) rfl (by decide) rfl rfl (fun p9 => ?_) (fun p9 => ?_)
      · have h := it_pos h p9
        refine r_aload_n hX (p2 := 82) rfl rfl rfl ⟨_, Or.inl rfl⟩ ?_
        refine r_gf hX (p2 := 85) (v := vR (cc 0 i0)) rfl rfl (hc2 i0 hi0) rfl rfl rfl ?_
        refine r_gf hX (p2 := 88) (v := vF (sF s3 13 i0)) rfl rfl (hc0 i0 hi0) rfl rfl rfl ?_
        refine r_iload_n hX (p2 := 89) rfl rfl rfl ?_
        refine r_i2f hX (p2 := 90) rfl rfl ?_
        obtain ⟨c4, h⟩ := ck_some h
        refine r_fdiv hX (p2 := 91) rfl rfl c4 ?_
        obtain ⟨v5, hv5, h⟩ := bs_some h
        refine r_fstoreE_n hX (p2 := 92) (ls2 := [some (vR (cc 2 i0)), some (vI x1), some (vF v5), d3]) rfl rfl hv5 rfl rfl ?_
        refine r_iconst hX (p2 := 93) rfl rfl rfl ?_
        refine r_istore_n hX (p2 := 94) (ls2 := [some (vR (cc 2 i0)), some (vI x1), some (vF v5), some (vI 0)]) rfl rfl rfl rfl ?_
        refine t_X2_stretch_94 xs e i0 hi0 q X hX _ (fun d1 d2 d3 s6 h => ?_) 400 v5 0 (some (vI x1)) s3 h
        refine r_aload_n hX (p2 := 139) rfl rfl rfl ⟨_, Or.inl rfl⟩ ?_
        refine r_gf hX (p2 := 142) (v := vR (cc 0 i0)) rfl rfl (hc2 i0 hi0) rfl rfl rfl ?_
        refine r_aload_n hX (p2 := 143) rfl rfl rfl ⟨_, Or.inl rfl⟩ ?_
        obtain ⟨q7, hq7, h⟩ := bd_some h
        refine r_callv hX (p2 := 146) (v := some (vF q7.1)) (as := []) (r := [vR (cc 0 i0)]) (st2 := [vF q7.1, vR (cc 0 i0)]) rfl rfl rfl rfl rfl (hc2 i0 hi0) rfl rfl (c_X2_restOfSpace xs e i0 hi0 s6 q7 hq7) ?_
        obtain ⟨s8, hs8, h⟩ := bs_some h
        refine r_pfF hX (p2 := 149) rfl rfl (hc0 i0 hi0) rfl rfl rfl rfl hs8 ?_
        exact r_return hX rfl rfl (eU_ok h)
      · have h := it_neg h p9
        exact t_X2_stretch_80 xs e i0 hi0 q X hX (some (vR (cc 2 i0))) (some (vI x1)) d2 d3 s3 h
noncomputable def f_X2_firstPosition_57 (i0 : Nat) (y0 : UInt32) (s : pS) : Option (UInt32 × pS) := some (y0, s)
set_option maxRecDepth 10000 in
theorem t_X2_firstPosition_57 (xs : Nat → Int) (e : Nat) (i0 : Nat) (hi0 : i0 < 2) (q : UInt32 × pS) (X : List (Option pV) → List pV → Nat → pH → Prop) (hX : pm_clo 1001 xs (pCall pm_tx 1001 xs pm_P e) e mX2_firstPosition (eF q) X) : ∀  (y0 : UInt32) (d0 : Option pV) (s : pS), f_X2_firstPosition_57 i0 y0 s = some q → X [d0] [vF y0] 57 (pW s) := by
  intro y0 d0 s h
  unfold f_X2_firstPosition_57 at h
  exact r_freturn hX rfl rfl (eF_ok h)
noncomputable def f_X2_firstPosition (i0 : Nat) (s : pS) : Option (UInt32 × pS) := (if 0 < (pm_fc .g (sF s 13 i0) FP.fconst0) then (if (sI s 3 i0) ≠ 1 then (if (sI s 3 i0) ≠ 2 then f_X2_firstPosition_57 i0 FP.fconst0 s else f_X2_firstPosition_57 i0 (sF s 13 i0) s) else ck (vf_n32 (FP.fdiv (sF s 13 i0) FP.fconst2)) (some ((FP.fdiv (sF s 13 i0) FP.fconst2), s))) else some (FP.fconst0, s))
set_option maxRecDepth 10000 in
theorem c_X2_firstPosition (xs : Nat → Int) (e : Nat) (i0 : Nat) (hi0 : i0 < 2) (s : pS) (q : UInt32 × pS) (h : f_X2_firstPosition i0 s = some q) : pCall pm_tx 1001 xs pm_P (e + 1) 46 [vR (cc 2 i0)] (pW s) (.inl (some (vF q.1))) (pW q.2) := by
  refine pCall_of mX2_firstPosition rfl rfl (fun X hX => ?_)
  show X [some (vR (cc 2 i0))] [] 0 (pW s)
  replace hX : pm_clo 1001 xs (pCall pm_tx 1001 xs pm_P e) e mX2_firstPosition (eF q) X := hX
  unfold f_X2_firstPosition at h
  refine r_aload_n hX (p2 := 1) rfl rfl rfl ⟨_, Or.inl rfl⟩ ?_
  refine r_gf hX (p2 := 4) (v := vR (cc 0 i0)) rfl rfl (hc2 i0 hi0) rfl rfl rfl ?_
  refine r_gf hX (p2 := 7) (v := vF (sF s 13 i0)) rfl rfl (hc0 i0 hi0) rfl rfl rfl ?_
  refine r_fconst0 hX (p2 := 8) rfl rfl ?_
  refine r_fcmp hX (p2 := 9) rfl rfl ?_
  refine r_if hX (p2 := 14) (p3 := 12) (P := 0 < (pm_fc .g (sF s 13 i0) FP.fconst0)) rfl (by decide) rfl rfl (fun p4 => ?_) (fun p4 => ?_)
  · have h := it_pos h p4
    refine r_aload_n hX (p2 := 15) rfl rfl rfl ⟨_, Or.inl rfl⟩ ?_
    refine r_gf hX (p2 := 18) (v := vR (cc 0 i0)) rfl rfl (hc2 i0 hi0) rfl rfl rfl ?_
    refine r_gf hX (p2 := 21) (v := vI (sI s 3 i0)) rfl rfl (hc0 i0 hi0) rfl rfl rfl ?_
    refine r_iconst hX (p2 := 22) rfl rfl rfl ?_
    refine r_icmp hX (p2 := 35) (p3 := 25) (P := (sI s 3 i0) ≠ 1) rfl (by decide) rfl rfl (fun p3 => ?_) (fun p3 => ?_)
    · have h := it_pos h p3
      refine r_aload_n hX (p2 := 36) rfl rfl rfl ⟨_, Or.inl rfl⟩ ?_
      refine r_gf hX (p2 := 39) (v := vR (cc 0 i0)) rfl rfl (hc2 i0 hi0) rfl rfl rfl ?_
      refine r_gf hX (p2 := 42) (v := vI (sI s 3 i0)) rfl rfl (hc0 i0 hi0) rfl rfl rfl ?_
      refine r_iconst hX (p2 := 43) rfl rfl rfl ?_
      refine r_icmp hX (p2 := 56) (p3 := 46) (P := (sI s 3 i0) ≠ 2) rfl (by decide) rfl rfl (fun p1 => ?_) (fun p1 => ?_)
      · have h := it_pos h p1
        refine r_fconst0 hX (p2 := 57) rfl rfl ?_
        exact t_X2_firstPosition_57 xs e i0 hi0 q X hX FP.fconst0 (some (vR (cc 2 i0))) s h
      · have h := it_neg h p1
        refine r_aload_n hX (p2 := 47) rfl rfl rfl ⟨_, Or.inl rfl⟩ ?_
        refine r_gf hX (p2 := 50) (v := vR (cc 0 i0)) rfl rfl (hc2 i0 hi0) rfl rfl rfl ?_
        refine r_gf hX (p2 := 53) (v := vF (sF s 13 i0)) rfl rfl (hc0 i0 hi0) rfl rfl rfl ?_
        refine r_goto hX (p2 := 57) rfl (by decide) ?_
        exact t_X2_firstPosition_57 xs e i0 hi0 q X hX (sF s 13 i0) (some (vR (cc 2 i0))) s h
    · have h := it_neg h p3
      refine r_aload_n hX (p2 := 26) rfl rfl rfl ⟨_, Or.inl rfl⟩ ?_
      refine r_gf hX (p2 := 29) (v := vR (cc 0 i0)) rfl rfl (hc2 i0 hi0) rfl rfl rfl ?_
      refine r_gf hX (p2 := 32) (v := vF (sF s 13 i0)) rfl rfl (hc0 i0 hi0) rfl rfl rfl ?_
      refine r_fconst2 hX (p2 := 33) rfl rfl ?_
      obtain ⟨c2, h⟩ := ck_some h
      refine r_fdiv hX (p2 := 34) rfl rfl c2 ?_
      exact r_freturn hX rfl rfl (eF_ok h)
  · have h := it_neg h p4
    refine r_fconst0 hX (p2 := 13) rfl rfl ?_
    exact r_freturn hX rfl rfl (eF_ok h)
noncomputable def f_X2_findPositions_7 (i0 : Nat) (K51 : pS → Option (pS)) : Nat → UInt32 → Int → pS → Option (pS)
  | 0, _, _, _ => none
  | n + 1, x1, x2, s => (if (sI s 8 i0) ≤ x2 then K51 s else ck (0 ≤ x2 ∧ x2 < 12) (bs (wB s 10 i0 (pm_up (sB s 10 i0) x2.toNat x1)) (fun s2 => ck (0 ≤ x2 ∧ x2 < 12) (ck (vf_n32 (FP.fadd x1 (sB s2 9 i0 x2.toNat))) (ck (vf_n32 (FP.fadd (FP.fadd x1 (sB s2 9 i0 x2.toNat)) (sF s2 2 i0))) (bs ((FP.fadd (FP.fadd x1 (sB s2 9 i0 x2.toNat)) (sF s2 2 i0))) (fun v6 => ck (inR (x2 + 1)) (f_X2_findPositions_7 i0 K51 n v6 (x2 + 1) s2))))))))
set_option maxRecDepth 10000 in
theorem t_X2_findPositions_7 (xs : Nat → Int) (e : Nat) (i0 : Nat) (hi0 : i0 < 2) (q : pS) (X : List (Option pV) → List pV → Nat → pH → Prop) (hX : pm_clo 1001 xs (pCall pm_tx 1001 xs pm_P (e + 1)) (e + 1) mX2_findPositions (eU q) X) (K51 : pS → Option (pS)) (hK51 : ∀ (d0 : Option pV) (d1 : Option pV) (d2 : Option pV) (s : pS), K51 s = some q → X [d0, d1, d2] [] 51 (pW s)) : ∀ (n : Nat) (x1 : UInt32) (x2 : Int) (s : pS), f_X2_findPositions_7 i0 K51 n x1 x2 s = some q → X [some (vR (cc 2 i0)), some (vF x1), some (vI x2)] [] 7 (pW s) := by
  intro n
  induction n with
  | zero =>
    intro x1 x2 s h
    rw [f_X2_findPositions_7] at h
    cases h
  | succ n ih =>
    intro x1 x2 s h
    rw [f_X2_findPositions_7] at h
    refine r_iload_n hX (p2 := 8) rfl rfl rfl ?_
    refine r_aload_n hX (p2 := 9) rfl rfl rfl ⟨_, Or.inl rfl⟩ ?_
    refine r_gf hX (p2 := 12) (v := vR (cc 0 i0)) rfl rfl (hc2 i0 hi0) rfl rfl rfl ?_
    refine r_gf hX (p2 := 15) (v := vI (sI s 8 i0)) rfl rfl (hc0 i0 hi0) rfl rfl rfl ?_
    refine r_icmp hX (p2 := 51) (p3 := 18) (P := (sI s 8 i0) ≤ x2) rfl (by decide) rfl rfl (fun p8 => ?_) (fun p8 => ?_)
    · have h := it_pos h p8
      exact hK51 (some (vR (cc 2 i0))) (some (vF x1)) (some (vI x2)) s h
    · have h := it_neg h p8
      refine r_aload_n hX (p2 := 19) rfl rfl rfl ⟨_, Or.inl rfl⟩ ?_
      refine r_gf hX (p2 := 22) (v := vR (cc 0 i0)) rfl rfl (hc2 i0 hi0) rfl rfl rfl ?_
      refine r_gf hX (p2 := 25) (v := vR (ca 10 i0)) rfl rfl (hc0 i0 hi0) rfl rfl rfl ?_
      refine r_iload_n hX (p2 := 26) rfl rfl rfl ?_
      refine r_fload_n hX (p2 := 27) rfl rfl rfl ?_
      obtain ⟨c1, h⟩ := ck_some h
      obtain ⟨s2, hs2, h⟩ := bs_some h
      refine r_fastore hX (p2 := 28) (j := x2.toNat) rfl rfl (ha10 i0 hi0) rfl rfl c1 rfl hs2 ?_
      refine r_fload_n hX (p2 := 29) rfl rfl rfl ?_
      refine r_aload_n hX (p2 := 30) rfl rfl rfl ⟨_, Or.inl rfl⟩ ?_
      refine r_gf hX (p2 := 33) (v := vR (ca 9 i0)) rfl rfl (hc2 i0 hi0) rfl rfl rfl ?_
      refine r_iload_n hX (p2 := 34) rfl rfl rfl ?_
      obtain ⟨c3, h⟩ := ck_some h
      refine r_faload hX (p2 := 35) (j := x2.toNat) rfl rfl (ha9 i0 hi0) rfl rfl c3 rfl ?_
      obtain ⟨c4, h⟩ := ck_some h
      refine r_fadd hX (p2 := 36) rfl rfl c4 ?_
      refine r_aload_n hX (p2 := 37) rfl rfl rfl ⟨_, Or.inl rfl⟩ ?_
      refine r_gf hX (p2 := 40) (v := vR (cc 0 i0)) rfl rfl (hc2 i0 hi0) rfl rfl rfl ?_
      refine r_gf hX (p2 := 43) (v := vF (sF s2 2 i0)) rfl rfl (hc0 i0 hi0) rfl rfl rfl ?_
      obtain ⟨c5, h⟩ := ck_some h
      refine r_fadd hX (p2 := 44) rfl rfl c5 ?_
      obtain ⟨v6, hv6, h⟩ := bs_some h
      refine r_fstoreE_n hX (p2 := 45) (ls2 := [some (vR (cc 2 i0)), some (vF v6), some (vI x2)]) rfl rfl hv6 rfl rfl ?_
      obtain ⟨c7, h⟩ := ck_some h
      refine r_iinc hX (p2 := 48) (ls2 := [some (vR (cc 2 i0)), some (vF v6), some (vI (x2 + 1))]) rfl rfl rfl rfl c7 rfl ?_
      refine r_goto hX (p2 := 7) rfl (by decide) ?_
      exact ih v6 (x2 + 1) s2 h
noncomputable def f_X2_findPositions (i0 : Nat) (s : pS) : Option (pS) := (f_X2_firstPosition i0 s).bind (fun q1 => f_X2_findPositions_7 i0 (fun s2 => some s2) 400 q1.1 0 q1.2)
set_option maxRecDepth 10000 in
theorem c_X2_findPositions (xs : Nat → Int) (e : Nat) (i0 : Nat) (hi0 : i0 < 2) (s : pS) (q : pS) (h : f_X2_findPositions i0 s = some q) : pCall pm_tx 1001 xs pm_P (e + 1 + 1) 45 [vR (cc 2 i0)] (pW s) (.inl none) (pW q) := by
  refine pCall_of mX2_findPositions rfl rfl (fun X hX => ?_)
  show X [some (vR (cc 2 i0)), none, none] [] 0 (pW s)
  replace hX : pm_clo 1001 xs (pCall pm_tx 1001 xs pm_P (e + 1)) (e + 1) mX2_findPositions (eU q) X := hX
  unfold f_X2_findPositions at h
  refine r_aload_n hX (p2 := 1) rfl rfl rfl ⟨_, Or.inl rfl⟩ ?_
  obtain ⟨q1, hq1, h⟩ := bd_some h
  refine r_callv hX (p2 := 4) (v := some (vF q1.1)) (as := []) (r := []) (st2 := [vF q1.1]) rfl rfl rfl rfl rfl (hc2 i0 hi0) rfl rfl (c_X2_firstPosition xs e i0 hi0 s q1 hq1) ?_
  refine r_fstore_n hX (p2 := 5) (ls2 := [some (vR (cc 2 i0)), some (vF q1.1), none]) rfl rfl rfl rfl ?_
  refine r_iconst hX (p2 := 6) rfl rfl rfl ?_
  refine r_istore_n hX (p2 := 7) (ls2 := [some (vR (cc 2 i0)), some (vF q1.1), some (vI 0)]) rfl rfl rfl rfl ?_
  refine t_X2_findPositions_7 xs e i0 hi0 q X hX _ (fun d0 d1 d2 s2 h => ?_) 400 q1.1 0 q1.2 h
  exact r_return hX rfl rfl (eU_ok h)
noncomputable def f_X2_extentOf_8 (i0 : Nat) (K32 : Int → UInt32 → pS → Option (UInt32 × pS)) : Nat → Int → UInt32 → Int → pS → Option (UInt32 × pS)
  | 0, _, _, _, _ => none
  | n + 1, x1, x2, x3, s => (f_X2_endOf i0 x1 s).bind (fun q1 => (if q1.1 ≤ x3 then K32 x1 x2 q1.2 else ck (0 ≤ x3 ∧ x3 < 12) (ck (vf_n32 (FP.fadd x2 (sB q1.2 9 i0 x3.toNat))) (bs ((FP.fadd x2 (sB q1.2 9 i0 x3.toNat))) (fun v4 => ck (inR (x3 + 1)) (f_X2_extentOf_8 i0 K32 n x1 v4 (x3 + 1) q1.2))))))
set_option maxRecDepth 10000 in
theorem t_X2_extentOf_8 (xs : Nat → Int) (e : Nat) (i0 : Nat) (hi0 : i0 < 2) (q : UInt32 × pS) (X : List (Option pV) → List pV → Nat → pH → Prop) (hX : pm_clo 1001 xs (pCall pm_tx 1001 xs pm_P (e + 1)) (e + 1) mX2_extentOf (eF q) X) (K32 : Int → UInt32 → pS → Option (UInt32 × pS)) (hK32 : ∀ (x1 : Int) (x2 : UInt32) (d3 : Option pV) (s : pS), K32 x1 x2 s = some q → X [some (vR (cc 2 i0)), some (vI x1), some (vF x2), d3] [] 32 (pW s)) : ∀ (n : Nat) (x1 : Int) (x2 : UInt32) (x3 : Int) (s : pS), f_X2_extentOf_8 i0 K32 n x1 x2 x3 s = some q → X [some (vR (cc 2 i0)), some (vI x1), some (vF x2), some (vI x3)] [] 8 (pW s) := by
  intro n
  induction n with
  | zero =>
    intro x1 x2 x3 s h
    rw [f_X2_extentOf_8] at h
    cases h
  | succ n ih =>
    intro x1 x2 x3 s h
    rw [f_X2_extentOf_8] at h
    refine r_iload_n hX (p2 := 9) rfl rfl rfl ?_
    refine r_aload_n hX (p2 := 10) rfl rfl rfl ⟨_, Or.inl rfl⟩ ?_
    refine r_iload_n hX (p2 := 11) rfl rfl rfl ?_
    obtain ⟨q1, hq1, h⟩ := bd_some h
    refine r_callv hX (p2 := 14) (v := some (vI q1.1)) (as := [vI x1]) (r := [vI x3]) (st2 := [vI q1.1, vI x3]) rfl rfl rfl rfl rfl (hc2 i0 hi0) rfl rfl (c_X2_endOf xs e i0 x1 hi0 s q1 hq1) ?_
    refine r_icmp hX (p2 := 32) (p3 := 17) (P := q1.1 ≤ x3) rfl (by decide) rfl rfl (fun p6 => ?_) (fun p6 => ?_)
    · have h := it_pos h p6
      exact hK32 x1 x2 (some (vI x3)) q1.2 h
    · have h := it_neg h p6
      refine r_fload_n hX (p2 := 18) rfl rfl rfl ?_
      refine r_aload_n hX (p2 := 19) rfl rfl rfl ⟨_, Or.inl rfl⟩ ?_
      refine r_gf hX (p2 := 22) (v := vR (ca 9 i0)) rfl rfl (hc2 i0 hi0) rfl rfl rfl ?_
      refine r_iload_n hX (p2 := 23) rfl rfl rfl ?_
      obtain ⟨c2, h⟩ := ck_some h
      refine r_faload hX (p2 := 24) (j := x3.toNat) rfl rfl (ha9 i0 hi0) rfl rfl c2 rfl ?_
      obtain ⟨c3, h⟩ := ck_some h
      refine r_fadd hX (p2 := 25) rfl rfl c3 ?_
      obtain ⟨v4, hv4, h⟩ := bs_some h
      refine r_fstoreE_n hX (p2 := 26) (ls2 := [some (vR (cc 2 i0)), some (vI x1), some (vF v4), some (vI x3)]) rfl rfl hv4 rfl rfl ?_
      obtain ⟨c5, h⟩ := ck_some h
      refine r_iinc hX (p2 := 29) (ls2 := [some (vR (cc 2 i0)), some (vI x1), some (vF v4), some (vI (x3 + 1))]) rfl rfl rfl rfl c5 rfl ?_
      refine r_goto hX (p2 := 8) rfl (by decide) ?_
      exact ih x1 v4 (x3 + 1) q1.2 h
noncomputable def f_X2_extentOf_34 (i0 : Nat) (K63 : UInt32 → pS → Option (UInt32 × pS)) : Nat → Int → UInt32 → Int → pS → Option (UInt32 × pS)
  | 0, _, _, _, _ => none
  | n + 1, x1, x2, x3, s => ck (0 ≤ x1 ∧ x1 < 10) ((if (sA s 5 i0 x1.toNat) ≤ x3 then K63 x2 s else ck (vf_n32 (FP.fadd x2 (sF s 2 i0))) (bs ((FP.fadd x2 (sF s 2 i0))) (fun v3 => ck (inR (x3 + 1)) (f_X2_extentOf_34 i0 K63 n x1 v3 (x3 + 1) s)))))
set_option maxRecDepth 10000 in
theorem t_X2_extentOf_34 (xs : Nat → Int) (e : Nat) (i0 : Nat) (hi0 : i0 < 2) (q : UInt32 × pS) (X : List (Option pV) → List pV → Nat → pH → Prop) (hX : pm_clo 1001 xs (pCall pm_tx 1001 xs pm_P (e + 1)) (e + 1) mX2_extentOf (eF q) X) (K63 : UInt32 → pS → Option (UInt32 × pS)) (hK63 : ∀ (x2 : UInt32) (d0 : Option pV) (d1 : Option pV) (d3 : Option pV) (s : pS), K63 x2 s = some q → X [d0, d1, some (vF x2), d3] [] 63 (pW s)) : ∀ (n : Nat) (x1 : Int) (x2 : UInt32) (x3 : Int) (s : pS), f_X2_extentOf_34 i0 K63 n x1 x2 x3 s = some q → X [some (vR (cc 2 i0)), some (vI x1), some (vF x2), some (vI x3)] [] 34 (pW s) := by
  intro n
  induction n with
  | zero =>
    intro x1 x2 x3 s h
    rw [f_X2_extentOf_34] at h
    cases h
  | succ n ih =>
    intro x1 x2 x3 s h
    rw [f_X2_extentOf_34] at h
    refine r_iload_n hX (p2 := 35) rfl rfl rfl ?_
    refine r_aload_n hX (p2 := 36) rfl rfl rfl ⟨_, Or.inl rfl⟩ ?_
    refine r_gf hX (p2 := 39) (v := vR (cc 0 i0)) rfl rfl (hc2 i0 hi0) rfl rfl rfl ?_
    refine r_gf hX (p2 := 42) (v := vR (ca 5 i0)) rfl rfl (hc0 i0 hi0) rfl rfl rfl ?_
    refine r_iload_n hX (p2 := 43) rfl rfl rfl ?_
    obtain ⟨c1, h⟩ := ck_some h
    refine r_iaload hX (p2 := 44) (j := x1.toNat) rfl rfl (ha5 i0 hi0) rfl rfl c1 rfl ?_
    refine r_icmp hX (p2 := 63) (p3 := 47) (P := (sA s 5 i0 x1.toNat) ≤ x3) rfl (by decide) rfl rfl (fun p5 => ?_) (fun p5 => ?_)
    · have h := it_pos h p5
      exact hK63 x2 (some (vR (cc 2 i0))) (some (vI x1)) (some (vI x3)) s h
    · have h := it_neg h p5
      refine r_fload_n hX (p2 := 48) rfl rfl rfl ?_
      refine r_aload_n hX (p2 := 49) rfl rfl rfl ⟨_, Or.inl rfl⟩ ?_
      refine r_gf hX (p2 := 52) (v := vR (cc 0 i0)) rfl rfl (hc2 i0 hi0) rfl rfl rfl ?_
      refine r_gf hX (p2 := 55) (v := vF (sF s 2 i0)) rfl rfl (hc0 i0 hi0) rfl rfl rfl ?_
      obtain ⟨c2, h⟩ := ck_some h
      refine r_fadd hX (p2 := 56) rfl rfl c2 ?_
      obtain ⟨v3, hv3, h⟩ := bs_some h
      refine r_fstoreE_n hX (p2 := 57) (ls2 := [some (vR (cc 2 i0)), some (vI x1), some (vF v3), some (vI x3)]) rfl rfl hv3 rfl rfl ?_
      obtain ⟨c4, h⟩ := ck_some h
      refine r_iinc hX (p2 := 60) (ls2 := [some (vR (cc 2 i0)), some (vI x1), some (vF v3), some (vI (x3 + 1))]) rfl rfl rfl rfl c4 rfl ?_
      refine r_goto hX (p2 := 34) rfl (by decide) ?_
      exact ih x1 v3 (x3 + 1) s h
noncomputable def f_X2_extentOf (i0 : Nat) (a1 : Int) (s : pS) : Option (UInt32 × pS) := (f_X2_firstOf i0 a1 s).bind (fun q1 => f_X2_extentOf_8 i0 (fun x1 x2 s2 => f_X2_extentOf_34 i0 (fun x2 s3 => some (x2, s3)) 400 x1 x2 1 s2) 400 a1 FP.fconst0 q1.1 q1.2)
set_option maxRecDepth 10000 in
theorem c_X2_extentOf (xs : Nat → Int) (e : Nat) (i0 : Nat) (a1 : Int) (hi0 : i0 < 2) (s : pS) (q : UInt32 × pS) (h : f_X2_extentOf i0 a1 s = some q) : pCall pm_tx 1001 xs pm_P (e + 1 + 1) 48 [vR (cc 2 i0), vI a1] (pW s) (.inl (some (vF q.1))) (pW q.2) := by
  refine pCall_of mX2_extentOf rfl rfl (fun X hX => ?_)
  show X [some (vR (cc 2 i0)), some (vI a1), none, none] [] 0 (pW s)
  replace hX : pm_clo 1001 xs (pCall pm_tx 1001 xs pm_P (e + 1)) (e + 1) mX2_extentOf (eF q) X := hX
  unfold f_X2_extentOf at h
  refine r_fconst0 hX (p2 := 1) rfl rfl ?_
  refine r_fstore_n hX (p2 := 2) (ls2 := [some (vR (cc 2 i0)), some (vI a1), some (vF FP.fconst0), none]) rfl rfl rfl rfl ?_
  refine r_aload_n hX (p2 := 3) rfl rfl rfl ⟨_, Or.inl rfl⟩ ?_
  refine r_iload_n hX (p2 := 4) rfl rfl rfl ?_
  obtain ⟨q1, hq1, h⟩ := bd_some h
  refine r_callv hX (p2 := 7) (v := some (vI q1.1)) (as := [vI a1]) (r := []) (st2 := [vI q1.1]) rfl rfl rfl rfl rfl (hc2 i0 hi0) rfl rfl (c_X2_firstOf xs e i0 a1 hi0 s q1 hq1) ?_
  refine r_istore_n hX (p2 := 8) (ls2 := [some (vR (cc 2 i0)), some (vI a1), some (vF FP.fconst0), some (vI q1.1)]) rfl rfl rfl rfl ?_
  refine t_X2_extentOf_8 xs e i0 hi0 q X hX _ (fun x1 x2 d3 s2 h => ?_) 400 a1 FP.fconst0 q1.1 q1.2 h
  refine r_iconst hX (p2 := 33) rfl rfl rfl ?_
  refine r_istore_n hX (p2 := 34) (ls2 := [some (vR (cc 2 i0)), some (vI x1), some (vF x2), some (vI 1)]) rfl rfl rfl rfl ?_
  refine t_X2_extentOf_34 xs e i0 hi0 q X hX _ (fun x2 d0 d1 d3 s3 h => ?_) 400 x1 x2 1 s2 h
  refine r_fload_n hX (p2 := 64) rfl rfl rfl ?_
  exact r_freturn hX rfl rfl (eF_ok h)
noncomputable def f_X2_findExtents_36 (i0 : Nat) (K2 : Int → pS → Option (pS)) (K42 : pS → Option (pS)) (x1 : Int) (s : pS) : Option (pS) := ck (inR (x1 + 1)) (K2 (x1 + 1) s)
set_option maxRecDepth 10000 in
theorem t_X2_findExtents_36 (xs : Nat → Int) (e : Nat) (i0 : Nat) (hi0 : i0 < 2) (q : pS) (X : List (Option pV) → List pV → Nat → pH → Prop) (hX : pm_clo 1001 xs (pCall pm_tx 1001 xs pm_P (e + 2)) (e + 2) mX2_findExtents (eU q) X) (K2 : Int → pS → Option (pS)) (K42 : pS → Option (pS)) (hK2 : ∀ (x1 : Int) (s : pS), K2 x1 s = some q → X [some (vR (cc 2 i0)), some (vI x1)] [] 2 (pW s)) (hK42 : ∀ (d0 : Option pV) (d1 : Option pV) (s : pS), K42 s = some q → X [d0, d1] [] 42 (pW s)) : ∀  (x1 : Int) (s : pS), f_X2_findExtents_36 i0 K2 K42 x1 s = some q → X [some (vR (cc 2 i0)), some (vI x1)] [] 36 (pW s) := by
  intro x1 s h
  unfold f_X2_findExtents_36 at h
  obtain ⟨c1, h⟩ := ck_some h
  refine r_iinc hX (p2 := 39) (ls2 := [some (vR (cc 2 i0)), some (vI (x1 + 1))]) rfl rfl rfl rfl c1 rfl ?_
  refine r_goto hX (p2 := 2) rfl (by decide) ?_
  exact hK2 (x1 + 1) s h
noncomputable def f_X2_findExtents_2 (i0 : Nat) (K42 : pS → Option (pS)) : Nat → Int → pS → Option (pS)
  | 0, _, _ => none
  | n + 1, x1, s => (if (sI s 205 i0) ≤ x1 then K42 s else ck (0 ≤ x1 ∧ x1 < 10) ((if (sA s 11 i0 x1.toNat) = 0 then f_X2_findExtents_36 i0 (f_X2_findExtents_2 i0 K42 n) K42 x1 s else (f_X2_extentOf i0 x1 s).bind (fun q2 => ck (0 ≤ x1 ∧ x1 < 10) (bs (wB q2.2 12 i0 (pm_up (sB q2.2 12 i0) x1.toNat q2.1)) (fun s4 => f_X2_findExtents_36 i0 (f_X2_findExtents_2 i0 K42 n) K42 x1 s4))))))
set_option maxRecDepth 10000 in
theorem t_X2_findExtents_2 (xs : Nat → Int) (e : Nat) (i0 : Nat) (hi0 : i0 < 2) (q : pS) (X : List (Option pV) → List pV → Nat → pH → Prop) (hX : pm_clo 1001 xs (pCall pm_tx 1001 xs pm_P (e + 2)) (e + 2) mX2_findExtents (eU q) X) (K42 : pS → Option (pS)) (hK42 : ∀ (d0 : Option pV) (d1 : Option pV) (s : pS), K42 s = some q → X [d0, d1] [] 42 (pW s)) : ∀ (n : Nat) (x1 : Int) (s : pS), f_X2_findExtents_2 i0 K42 n x1 s = some q → X [some (vR (cc 2 i0)), some (vI x1)] [] 2 (pW s) := by
  intro n
  induction n with
  | zero =>
    intro x1 s h
    rw [f_X2_findExtents_2] at h
    cases h
  | succ n ih =>
    intro x1 s h
    rw [f_X2_findExtents_2] at h
    refine r_iload_n hX (p2 := 3) rfl rfl rfl ?_
    refine r_aload_n hX (p2 := 4) rfl rfl rfl ⟨_, Or.inl rfl⟩ ?_
    refine r_gf hX (p2 := 7) (v := vI (sI s 205 i0)) rfl rfl (hc2 i0 hi0) rfl rfl rfl ?_
    refine r_icmp hX (p2 := 42) (p3 := 10) (P := (sI s 205 i0) ≤ x1) rfl (by decide) rfl rfl (fun p6 => ?_) (fun p6 => ?_)
    · have h := it_pos h p6
      exact hK42 (some (vR (cc 2 i0))) (some (vI x1)) s h
    · have h := it_neg h p6
      refine r_aload_n hX (p2 := 11) rfl rfl rfl ⟨_, Or.inl rfl⟩ ?_
      refine r_gf hX (p2 := 14) (v := vR (cc 0 i0)) rfl rfl (hc2 i0 hi0) rfl rfl rfl ?_
      refine r_gf hX (p2 := 17) (v := vR (ca 11 i0)) rfl rfl (hc0 i0 hi0) rfl rfl rfl ?_
      refine r_iload_n hX (p2 := 18) rfl rfl rfl ?_
      obtain ⟨c1, h⟩ := ck_some h
      refine r_iaload hX (p2 := 19) (j := x1.toNat) rfl rfl (ha11 i0 hi0) rfl rfl c1 rfl ?_
      refine r_if hX (p2 := 36) (p3 := 22) (P := (sA s 11 i0 x1.toNat) = 0) rfl (by decide) rfl rfl (fun p5 => ?_) (fun p5 => ?_)
      · have h := it_pos h p5
        exact t_X2_findExtents_36 xs e i0 hi0 q X hX _ _ ih hK42 x1 s h
      · have h := it_neg h p5
        refine r_aload_n hX (p2 := 23) rfl rfl rfl ⟨_, Or.inl rfl⟩ ?_
        refine r_gf hX (p2 := 26) (v := vR (cc 0 i0)) rfl rfl (hc2 i0 hi0) rfl rfl rfl ?_
        refine r_gf hX (p2 := 29) (v := vR (ca 12 i0)) rfl rfl (hc0 i0 hi0) rfl rfl rfl ?_
        refine r_iload_n hX (p2 := 30) rfl rfl rfl ?_
        refine r_aload_n hX (p2 := 31) rfl rfl rfl ⟨_, Or.inl rfl⟩ ?_
        refine r_iload_n hX (p2 := 32) rfl rfl rfl ?_
        obtain ⟨q2, hq2, h⟩ := bd_some h
        refine r_callv hX (p2 := 35) (v := some (vF q2.1)) (as := [vI x1]) (r := [vI x1, vR (ca 12 i0)]) (st2 := [vF q2.1, vI x1, vR (ca 12 i0)]) rfl rfl rfl rfl rfl (hc2 i0 hi0) rfl rfl (c_X2_extentOf xs e i0 x1 hi0 s q2 hq2) ?_
        obtain ⟨c3, h⟩ := ck_some h
        obtain ⟨s4, hs4, h⟩ := bs_some h
        refine r_fastore hX (p2 := 36) (j := x1.toNat) rfl rfl (ha12 i0 hi0) rfl rfl c3 rfl hs4 ?_
        exact t_X2_findExtents_36 xs e i0 hi0 q X hX _ _ ih hK42 x1 s4 h
noncomputable def f_X2_findExtents (i0 : Nat) (s : pS) : Option (pS) := f_X2_findExtents_2 i0 (fun s1 => some s1) 400 0 s
set_option maxRecDepth 10000 in
theorem c_X2_findExtents (xs : Nat → Int) (e : Nat) (i0 : Nat) (hi0 : i0 < 2) (s : pS) (q : pS) (h : f_X2_findExtents i0 s = some q) : pCall pm_tx 1001 xs pm_P (e + 2 + 1) 47 [vR (cc 2 i0)] (pW s) (.inl none) (pW q) := by
  refine pCall_of mX2_findExtents rfl rfl (fun X hX => ?_)
  show X [some (vR (cc 2 i0)), none] [] 0 (pW s)
  replace hX : pm_clo 1001 xs (pCall pm_tx 1001 xs pm_P (e + 2)) (e + 2) mX2_findExtents (eU q) X := hX
  unfold f_X2_findExtents at h
  refine r_iconst hX (p2 := 1) rfl rfl rfl ?_
  refine r_istore_n hX (p2 := 2) (ls2 := [some (vR (cc 2 i0)), some (vI 0)]) rfl rfl rfl rfl ?_
  refine t_X2_findExtents_2 xs e i0 hi0 q X hX _ (fun d0 d1 s1 h => ?_) 400 0 s h
  exact r_return hX rfl rfl (eU_ok h)
noncomputable def f_X2_workOut (i0 : Nat) (a1 : Int) (s : pS) : Option (pS) := bs (wI s 205 i0 a1) (fun s1 => (f_X2_beginSizes i0 s1).bind (fun q2 => (f_X2_meetSingles i0 q2).bind (fun q3 => (f_X2_spreadLeast i0 q3).bind (fun q4 => (f_X2_spreadMost i0 q4).bind (fun q5 => (f_X2_growToLimits i0 q5).bind (fun q6 => (f_X2_giveShares i0 q6).bind (fun q7 => (f_X2_stretch i0 q7).bind (fun q8 => (f_X2_findPositions i0 q8).bind (fun q9 => (f_X2_findExtents i0 q9).bind (fun q10 => some q10))))))))))
set_option maxRecDepth 10000 in
theorem c_X2_workOut (xs : Nat → Int) (e : Nat) (i0 : Nat) (a1 : Int) (hi0 : i0 < 2) (s : pS) (q : pS) (h : f_X2_workOut i0 a1 s = some q) : pCall pm_tx 1001 xs pm_P (e + 4 + 1) 20 [vR (cc 2 i0), vI a1] (pW s) (.inl none) (pW q) := by
  refine pCall_of mX2_workOut rfl rfl (fun X hX => ?_)
  show X [some (vR (cc 2 i0)), some (vI a1)] [] 0 (pW s)
  replace hX : pm_clo 1001 xs (pCall pm_tx 1001 xs pm_P (e + 4)) (e + 4) mX2_workOut (eU q) X := hX
  unfold f_X2_workOut at h
  refine r_aload_n hX (p2 := 1) rfl rfl rfl ⟨_, Or.inl rfl⟩ ?_
  refine r_iload_n hX (p2 := 2) rfl rfl rfl ?_
  obtain ⟨s1, hs1, h⟩ := bs_some h
  refine r_pfI hX (p2 := 5) rfl rfl (hc2 i0 hi0) rfl rfl rfl rfl rfl rfl hs1 ?_
  refine r_aload_n hX (p2 := 6) rfl rfl rfl ⟨_, Or.inl rfl⟩ ?_
  obtain ⟨q2, hq2, h⟩ := bd_some h
  refine r_callv hX (p2 := 9) (v := none) (as := []) (r := []) (st2 := []) rfl rfl rfl rfl rfl (hc2 i0 hi0) rfl rfl (c_X2_beginSizes xs (e + 1) i0 hi0 s1 q2 hq2) ?_
  refine r_aload_n hX (p2 := 10) rfl rfl rfl ⟨_, Or.inl rfl⟩ ?_
  obtain ⟨q3, hq3, h⟩ := bd_some h
  refine r_callv hX (p2 := 13) (v := none) (as := []) (r := []) (st2 := []) rfl rfl rfl rfl rfl (hc2 i0 hi0) rfl rfl (c_X2_meetSingles xs (e + 1) i0 hi0 q2 q3 hq3) ?_
  refine r_aload_n hX (p2 := 14) rfl rfl rfl ⟨_, Or.inl rfl⟩ ?_
  obtain ⟨q4, hq4, h⟩ := bd_some h
  refine r_callv hX (p2 := 17) (v := none) (as := []) (r := []) (st2 := []) rfl rfl rfl rfl rfl (hc2 i0 hi0) rfl rfl (c_X2_spreadLeast xs e i0 hi0 q3 q4 hq4) ?_
  refine r_aload_n hX (p2 := 18) rfl rfl rfl ⟨_, Or.inl rfl⟩ ?_
  obtain ⟨q5, hq5, h⟩ := bd_some h
  refine r_callv hX (p2 := 21) (v := none) (as := []) (r := []) (st2 := []) rfl rfl rfl rfl rfl (hc2 i0 hi0) rfl rfl (c_X2_spreadMost xs e i0 hi0 q4 q5 hq5) ?_
  refine r_aload_n hX (p2 := 22) rfl rfl rfl ⟨_, Or.inl rfl⟩ ?_
  obtain ⟨q6, hq6, h⟩ := bd_some h
  refine r_callv hX (p2 := 25) (v := none) (as := []) (r := []) (st2 := []) rfl rfl rfl rfl rfl (hc2 i0 hi0) rfl rfl (c_X2_growToLimits xs (e + 1) i0 hi0 q5 q6 hq6) ?_
  refine r_aload_n hX (p2 := 26) rfl rfl rfl ⟨_, Or.inl rfl⟩ ?_
  obtain ⟨q7, hq7, h⟩ := bd_some h
  refine r_callv hX (p2 := 29) (v := none) (as := []) (r := []) (st2 := []) rfl rfl rfl rfl rfl (hc2 i0 hi0) rfl rfl (c_X2_giveShares xs (e + 1) i0 hi0 q6 q7 hq7) ?_
  refine r_aload_n hX (p2 := 30) rfl rfl rfl ⟨_, Or.inl rfl⟩ ?_
  obtain ⟨q8, hq8, h⟩ := bd_some h
  refine r_callv hX (p2 := 33) (v := none) (as := []) (r := []) (st2 := []) rfl rfl rfl rfl rfl (hc2 i0 hi0) rfl rfl (c_X2_stretch xs (e + 1) i0 hi0 q7 q8 hq8) ?_
  refine r_aload_n hX (p2 := 34) rfl rfl rfl ⟨_, Or.inl rfl⟩ ?_
  obtain ⟨q9, hq9, h⟩ := bd_some h
  refine r_callv hX (p2 := 37) (v := none) (as := []) (r := []) (st2 := []) rfl rfl rfl rfl rfl (hc2 i0 hi0) rfl rfl (c_X2_findPositions xs (e + 2) i0 hi0 q8 q9 hq9) ?_
  refine r_aload_n hX (p2 := 38) rfl rfl rfl ⟨_, Or.inl rfl⟩ ?_
  obtain ⟨q10, hq10, h⟩ := bd_some h
  refine r_callv hX (p2 := 41) (v := none) (as := []) (r := []) (st2 := []) rfl rfl rfl rfl rfl (hc2 i0 hi0) rfl rfl (c_X2_findExtents xs (e + 1) i0 hi0 q9 q10 hq10) ?_
  exact r_return hX rfl rfl (eU_ok h)
noncomputable def f_X5_layout_25 (x1 : Int) (y0 : Int) (s : pS) : Option (Int × pS) := ck (0 ≤ x1 ∧ x1 < 2) (ck (0 ≤ y0 ∧ y0 < 2) ((f_X1_placeAll x1.toNat y0.toNat (sI s 504 0) (sI s 507 0) s).bind (fun q3 => (f_X2_workOut 0 (sI q3.2 504 0) q3.2).bind (fun q4 => (f_X2_workOut 1 (sI q4 504 0) q4).bind (fun q5 => some (q3.1, q5))))))
set_option maxRecDepth 10000 in
theorem t_X5_layout_25 (xs : Nat → Int) (e : Nat) (q : Int × pS) (X : List (Option pV) → List pV → Nat → pH → Prop) (hX : pm_clo 1001 xs (pCall pm_tx 1001 xs pm_P (e + 6)) (e + 6) mX5_layout (eI q) X) : ∀  (x1 : Int) (y0 : Int) (d2 : Option pV) (d3 : Option pV) (s : pS), f_X5_layout_25 x1 y0 s = some q → X [some (vR (cc 5 0)), some (vI x1), d2, d3] [vI y0] 25 (pW s) := by
  intro x1 y0 d2 d3 s h
  unfold f_X5_layout_25 at h
  refine r_istore_n hX (p2 := 26) (ls2 := [some (vR (cc 5 0)), some (vI x1), some (vI y0), d3]) rfl rfl rfl rfl ?_
  refine r_aload_n hX (p2 := 27) rfl rfl rfl ⟨_, Or.inl rfl⟩ ?_
  refine r_gf hX (p2 := 30) (v := vR (cc 1 0)) rfl rfl (hc5 0 (by decide)) rfl rfl rfl ?_
  refine r_aload_n hX (p2 := 31) rfl rfl rfl ⟨_, Or.inl rfl⟩ ?_
  refine r_gf hX (p2 := 34) (v := vR (cr 501)) rfl rfl (hc5 0 (by decide)) rfl rfl rfl ?_
  refine r_iload_n hX (p2 := 35) rfl rfl rfl ?_
  obtain ⟨c1, h⟩ := ck_some h
  refine r_aaload hX (p2 := 36) rfl rfl hr501 rfl c1 (y := cc 0 x1.toNat) rfl ?_
  refine r_aload_n hX (p2 := 37) rfl rfl rfl ⟨_, Or.inl rfl⟩ ?_
  refine r_gf hX (p2 := 40) (v := vR (cr 501)) rfl rfl (hc5 0 (by decide)) rfl rfl rfl ?_
  refine r_iload_n hX (p2 := 41) rfl rfl rfl ?_
  obtain ⟨c2, h⟩ := ck_some h
  refine r_aaload hX (p2 := 42) rfl rfl hr501 rfl c2 (y := cc 0 y0.toNat) rfl ?_
  refine r_aload_n hX (p2 := 43) rfl rfl rfl ⟨_, Or.inl rfl⟩ ?_
  refine r_gf hX (p2 := 46) (v := vI (sI s 504 0)) rfl rfl (hc5 0 (by decide)) rfl rfl rfl ?_
  refine r_aload_n hX (p2 := 47) rfl rfl rfl ⟨_, Or.inl rfl⟩ ?_
  refine r_gf hX (p2 := 50) (v := vI (sI s 507 0)) rfl rfl (hc5 0 (by decide)) rfl rfl rfl ?_
  obtain ⟨q3, hq3, h⟩ := bd_some h
  refine r_callv hX (p2 := 53) (v := some (vI q3.1)) (as := [vR (cc 0 x1.toNat), vR (cc 0 y0.toNat), vI (sI s 504 0), vI (sI s 507 0)]) (r := []) (st2 := [vI q3.1]) rfl rfl rfl rfl rfl (hc1 0 (by decide)) rfl rfl (c_X1_placeAll xs e x1.toNat y0.toNat (sI s 504 0) (sI s 507 0) (tn_lt c1) (tn_lt c2) s q3 hq3) ?_
  refine r_istore_n hX (p2 := 54) (ls2 := [some (vR (cc 5 0)), some (vI x1), some (vI y0), some (vI q3.1)]) rfl rfl rfl rfl ?_
  refine r_aload_n hX (p2 := 55) rfl rfl rfl ⟨_, Or.inl rfl⟩ ?_
  refine r_gf hX (p2 := 58) (v := vR (cr 502)) rfl rfl (hc5 0 (by decide)) rfl rfl rfl ?_
  refine r_iconst hX (p2 := 59) rfl rfl rfl ?_
  refine r_aaload hX (p2 := 60) rfl rfl hr502 rfl ⟨by decide, by decide⟩ (y := cc 2 0) rfl ?_
  refine r_aload_n hX (p2 := 61) rfl rfl rfl ⟨_, Or.inl rfl⟩ ?_
  refine r_gf hX (p2 := 64) (v := vI (sI q3.2 504 0)) rfl rfl (hc5 0 (by decide)) rfl rfl rfl ?_
  obtain ⟨q4, hq4, h⟩ := bd_some h
  refine r_callv hX (p2 := 67) (v := none) (as := [vI (sI q3.2 504 0)]) (r := []) (st2 := []) rfl rfl rfl rfl rfl (hc2 0 (by decide)) rfl rfl (c_X2_workOut xs (e + 1) 0 (sI q3.2 504 0) (by decide) q3.2 q4 hq4) ?_
  refine r_aload_n hX (p2 := 68) rfl rfl rfl ⟨_, Or.inl rfl⟩ ?_
  refine r_gf hX (p2 := 71) (v := vR (cr 502)) rfl rfl (hc5 0 (by decide)) rfl rfl rfl ?_
  refine r_iconst hX (p2 := 72) rfl rfl rfl ?_
  refine r_aaload hX (p2 := 73) rfl rfl hr502 rfl ⟨by decide, by decide⟩ (y := cc 2 1) rfl ?_
  refine r_aload_n hX (p2 := 74) rfl rfl rfl ⟨_, Or.inl rfl⟩ ?_
  refine r_gf hX (p2 := 77) (v := vI (sI q4 504 0)) rfl rfl (hc5 0 (by decide)) rfl rfl rfl ?_
  obtain ⟨q5, hq5, h⟩ := bd_some h
  refine r_callv hX (p2 := 80) (v := none) (as := [vI (sI q4 504 0)]) (r := []) (st2 := []) rfl rfl rfl rfl rfl (hc2 1 (by decide)) rfl rfl (c_X2_workOut xs (e + 1) 1 (sI q4 504 0) (by decide) q4 q5 hq5) ?_
  refine r_iload_n hX (p2 := 81) rfl rfl rfl ?_
  exact r_iretI hX rfl rfl (eI_ok h)
noncomputable def f_X5_layout_12 (y0 : Int) (s : pS) : Option (Int × pS) := (if (sI s 506 0) = 0 then f_X5_layout_25 y0 0 s else f_X5_layout_25 y0 1 s)
set_option maxRecDepth 10000 in
theorem t_X5_layout_12 (xs : Nat → Int) (e : Nat) (q : Int × pS) (X : List (Option pV) → List pV → Nat → pH → Prop) (hX : pm_clo 1001 xs (pCall pm_tx 1001 xs pm_P (e + 6)) (e + 6) mX5_layout (eI q) X) : ∀  (y0 : Int) (d1 : Option pV) (d2 : Option pV) (d3 : Option pV) (s : pS), f_X5_layout_12 y0 s = some q → X [some (vR (cc 5 0)), d1, d2, d3] [vI y0] 12 (pW s) := by
  intro y0 d1 d2 d3 s h
  unfold f_X5_layout_12 at h
  refine r_istore_n hX (p2 := 13) (ls2 := [some (vR (cc 5 0)), some (vI y0), d2, d3]) rfl rfl rfl rfl ?_
  refine r_aload_n hX (p2 := 14) rfl rfl rfl ⟨_, Or.inl rfl⟩ ?_
  refine r_gf hX (p2 := 17) (v := vI (sI s 506 0)) rfl rfl (hc5 0 (by decide)) rfl rfl rfl ?_
  refine r_if hX (p2 := 24) (p3 := 20) (P := (sI s 506 0) = 0) rfl (by decide) rfl rfl (fun p1 => ?_) (fun p1 => ?_)
  · have h := it_pos h p1
    refine r_iconst hX (p2 := 25) rfl rfl rfl ?_
    exact t_X5_layout_25 xs e q X hX y0 0 d2 d3 s h
  · have h := it_neg h p1
    refine r_iconst hX (p2 := 21) rfl rfl rfl ?_
    refine r_goto hX (p2 := 25) rfl (by decide) ?_
    exact t_X5_layout_25 xs e q X hX y0 1 d2 d3 s h
noncomputable def f_X5_layout (s : pS) : Option (Int × pS) := (if (sI s 506 0) = 0 then f_X5_layout_12 1 s else f_X5_layout_12 0 s)
set_option maxRecDepth 10000 in
theorem c_X5_layout (xs : Nat → Int) (e : Nat) (s : pS) (q : Int × pS) (h : f_X5_layout s = some q) : pCall pm_tx 1001 xs pm_P (e + 6 + 1) 82 [vR (cc 5 0)] (pW s) (.inl (some (vI q.1))) (pW q.2) := by
  refine pCall_of mX5_layout rfl rfl (fun X hX => ?_)
  show X [some (vR (cc 5 0)), none, none, none] [] 0 (pW s)
  replace hX : pm_clo 1001 xs (pCall pm_tx 1001 xs pm_P (e + 6)) (e + 6) mX5_layout (eI q) X := hX
  unfold f_X5_layout at h
  refine r_aload_n hX (p2 := 1) rfl rfl rfl ⟨_, Or.inl rfl⟩ ?_
  refine r_gf hX (p2 := 4) (v := vI (sI s 506 0)) rfl rfl (hc5 0 (by decide)) rfl rfl rfl ?_
  refine r_if hX (p2 := 11) (p3 := 7) (P := (sI s 506 0) = 0) rfl (by decide) rfl rfl (fun p1 => ?_) (fun p1 => ?_)
  · have h := it_pos h p1
    refine r_iconst hX (p2 := 12) rfl rfl rfl ?_
    exact t_X5_layout_12 xs e q X hX 1 none none none s h
  · have h := it_neg h p1
    refine r_iconst hX (p2 := 8) rfl rfl rfl ?_
    refine r_goto hX (p2 := 12) rfl (by decide) ?_
    exact t_X5_layout_12 xs e q X hX 0 none none none s h
noncomputable def f_X6_counts_104 (K33 : Int → Int → pS → Option (pS)) (K113 : pS → Option (pS)) (x1 : Int) (x2 : Int) (y1 : Int) (s : pS) : Option (pS) := bs (wI s 640 0 y1) (fun s1 => ck (inR (x2 + 1)) (K33 x1 (x2 + 1) s1))
set_option maxRecDepth 10000 in
theorem t_X6_counts_104 (xs : Nat → Int) (e : Nat) (q : pS) (X : List (Option pV) → List pV → Nat → pH → Prop) (hX : pm_clo 1001 xs (pCall pm_tx 1001 xs pm_P e) e mX6_counts (eU q) X) (K33 : Int → Int → pS → Option (pS)) (K113 : pS → Option (pS)) (hK33 : ∀ (x1 : Int) (x2 : Int) (d3 : Option pV) (d4 : Option pV) (s : pS), K33 x1 x2 s = some q → X [some (vR (cc 6 0)), some (vI x1), some (vI x2), d3, d4] [] 33 (pW s)) (hK113 : ∀ (d0 : Option pV) (d1 : Option pV) (d2 : Option pV) (d3 : Option pV) (d4 : Option pV) (s : pS), K113 s = some q → X [d0, d1, d2, d3, d4] [] 113 (pW s)) : ∀  (x1 : Int) (x2 : Int) (y1 : Int) (d3 : Option pV) (d4 : Option pV) (s : pS), f_X6_counts_104 K33 K113 x1 x2 y1 s = some q → X [some (vR (cc 6 0)), some (vI x1), some (vI x2), d3, d4] [vI y1, vR (cc 6 0)] 104 (pW s) := by
  intro x1 x2 y1 d3 d4 s h
  unfold f_X6_counts_104 at h
  obtain ⟨s1, hs1, h⟩ := bs_some h
  refine r_pfI hX (p2 := 107) rfl rfl (hc6 0 (by decide)) rfl rfl rfl rfl rfl rfl hs1 ?_
  obtain ⟨c2, h⟩ := ck_some h
  refine r_iinc hX (p2 := 110) (ls2 := [some (vR (cc 6 0)), some (vI x1), some (vI (x2 + 1)), d3, d4]) rfl rfl rfl rfl c2 rfl ?_
  refine r_goto hX (p2 := 33) rfl (by decide) ?_
  exact hK33 x1 (x2 + 1) d3 d4 s1 h
noncomputable def f_X6_counts_83 (K33 : Int → Int → pS → Option (pS)) (K113 : pS → Option (pS)) (x1 : Int) (x2 : Int) (y0 : Int) (s : pS) : Option (pS) := (if y0 ≤ (sI s 640 0) then f_X6_counts_104 K33 K113 x1 x2 (sI s 640 0) s else f_X6_counts_104 K33 K113 x1 x2 y0 s)
set_option maxRecDepth 10000 in
theorem t_X6_counts_83 (xs : Nat → Int) (e : Nat) (q : pS) (X : List (Option pV) → List pV → Nat → pH → Prop) (hX : pm_clo 1001 xs (pCall pm_tx 1001 xs pm_P e) e mX6_counts (eU q) X) (K33 : Int → Int → pS → Option (pS)) (K113 : pS → Option (pS)) (hK33 : ∀ (x1 : Int) (x2 : Int) (d3 : Option pV) (d4 : Option pV) (s : pS), K33 x1 x2 s = some q → X [some (vR (cc 6 0)), some (vI x1), some (vI x2), d3, d4] [] 33 (pW s)) (hK113 : ∀ (d0 : Option pV) (d1 : Option pV) (d2 : Option pV) (d3 : Option pV) (d4 : Option pV) (s : pS), K113 s = some q → X [d0, d1, d2, d3, d4] [] 113 (pW s)) : ∀  (x1 : Int) (x2 : Int) (y0 : Int) (d3 : Option pV) (d4 : Option pV) (hd3 : pm_nc d3) (s : pS), f_X6_counts_83 K33 K113 x1 x2 y0 s = some q → X [some (vR (cc 6 0)), some (vI x1), some (vI x2), d3, d4] [vI y0] 83 (pW s) := by
  intro x1 x2 y0 d3 d4 hd3 s h
  unfold f_X6_counts_83 at h
  refine r_istore hX (p2 := 85) (ls2 := [some (vR (cc 6 0)), some (vI x1), some (vI x2), d3, some (vI y0)]) rfl rfl rfl (st1_nc rfl hd3 rfl) ?_
  refine r_aload_n hX (p2 := 86) rfl rfl rfl ⟨_, Or.inl rfl⟩ ?_
  refine r_iload hX (p2 := 88) rfl rfl rfl ?_
  refine r_aload_n hX (p2 := 89) rfl rfl rfl ⟨_, Or.inl rfl⟩ ?_
  refine r_gf hX (p2 := 92) (v := vI (sI s 640 0)) rfl rfl (hc6 0 (by decide)) rfl rfl rfl ?_
  refine r_icmp hX (p2 := 100) (p3 := 95) (P := y0 ≤ (sI s 640 0)) rfl (by decide) rfl rfl (fun p1 => ?_) (fun p1 => ?_)
  · have h := it_pos h p1
    refine r_aload_n hX (p2 := 101) rfl rfl rfl ⟨_, Or.inl rfl⟩ ?_
    refine r_gf hX (p2 := 104) (v := vI (sI s 640 0)) rfl rfl (hc6 0 (by decide)) rfl rfl rfl ?_
    exact t_X6_counts_104 xs e q X hX _ _ hK33 hK113 x1 x2 (sI s 640 0) d3 (some (vI y0)) s h
  · have h := it_neg h p1
    refine r_iload hX (p2 := 97) rfl rfl rfl ?_
    refine r_goto hX (p2 := 104) rfl (by decide) ?_
    exact t_X6_counts_104 xs e q X hX _ _ hK33 hK113 x1 x2 y0 d3 (some (vI y0)) s h
noncomputable def f_X6_counts_33 (K113 : pS → Option (pS)) : Nat → Int → Int → pS → Option (pS)
  | 0, _, _, _ => none
  | n + 1, x1, x2, s => (if (sI s 619 0) ≤ x2 then K113 s else ck (inR (2 * x2)) (ck (inR ((2 * x2) + x1)) (ck (0 ≤ ((2 * x2) + x1) ∧ ((2 * x2) + x1) < 20) (bs ((sA s 620 0 ((2 * x2) + x1).toNat)) (fun v4 => (if v4 ≤ 0 then ck (inR (2 * x2)) (ck (inR ((2 * x2) + x1)) (ck (0 ≤ ((2 * x2) + x1) ∧ ((2 * x2) + x1) < 20) (f_X6_counts_83 (f_X6_counts_33 K113 n) K113 x1 x2 (sA s 621 0 ((2 * x2) + x1).toNat) s))) else ck (inR (2 * x2)) (ck (inR ((2 * x2) + x1)) (ck (0 ≤ ((2 * x2) + x1) ∧ ((2 * x2) + x1) < 20) (ck (inR (v4 + (sA s 621 0 ((2 * x2) + x1).toNat))) (ck (inR ((v4 + (sA s 621 0 ((2 * x2) + x1).toNat)) - 1)) (f_X6_counts_83 (f_X6_counts_33 K113 n) K113 x1 x2 ((v4 + (sA s 621 0 ((2 * x2) + x1).toNat)) - 1) s)))))))))))
set_option maxRecDepth 10000 in
theorem t_X6_counts_33 (xs : Nat → Int) (e : Nat) (q : pS) (X : List (Option pV) → List pV → Nat → pH → Prop) (hX : pm_clo 1001 xs (pCall pm_tx 1001 xs pm_P e) e mX6_counts (eU q) X) (K113 : pS → Option (pS)) (hK113 : ∀ (d0 : Option pV) (d1 : Option pV) (d2 : Option pV) (d3 : Option pV) (d4 : Option pV) (s : pS), K113 s = some q → X [d0, d1, d2, d3, d4] [] 113 (pW s)) : ∀ (n : Nat) (x1 : Int) (x2 : Int) (d3 : Option pV) (d4 : Option pV) (s : pS), f_X6_counts_33 K113 n x1 x2 s = some q → X [some (vR (cc 6 0)), some (vI x1), some (vI x2), d3, d4] [] 33 (pW s) := by
  intro n
  induction n with
  | zero =>
    intro x1 x2 d3 d4 s h
    rw [f_X6_counts_33] at h
    cases h
  | succ n ih =>
    intro x1 x2 d3 d4 s h
    rw [f_X6_counts_33] at h
    refine r_iload_n hX (p2 := 34) rfl rfl rfl ?_
    refine r_aload_n hX (p2 := 35) rfl rfl rfl ⟨_, Or.inl rfl⟩ ?_
    refine r_gf hX (p2 := 38) (v := vI (sI s 619 0)) rfl rfl (hc6 0 (by decide)) rfl rfl rfl ?_
    refine r_icmp hX (p2 := 113) (p3 := 41) (P := (sI s 619 0) ≤ x2) rfl (by decide) rfl rfl (fun p14 => ?_) (fun p14 => ?_)
    · have h := it_pos h p14
      exact hK113 (some (vR (cc 6 0))) (some (vI x1)) (some (vI x2)) d3 d4 s h
    · have h := it_neg h p14
      refine r_aload_n hX (p2 := 42) rfl rfl rfl ⟨_, Or.inl rfl⟩ ?_
      refine r_gf hX (p2 := 45) (v := vR (ca 620 0)) rfl rfl (hc6 0 (by decide)) rfl rfl rfl ?_
      refine r_iconst hX (p2 := 46) rfl rfl rfl ?_
      refine r_iload_n hX (p2 := 47) rfl rfl rfl ?_
      obtain ⟨c1, h⟩ := ck_some h
      refine r_imul hX (p2 := 48) rfl rfl c1 ?_
      refine r_iload_n hX (p2 := 49) rfl rfl rfl ?_
      obtain ⟨c2, h⟩ := ck_some h
      refine r_iadd hX (p2 := 50) rfl rfl c2 ?_
      obtain ⟨c3, h⟩ := ck_some h
      refine r_iaload hX (p2 := 51) (j := ((2 * x2) + x1).toNat) rfl rfl (ha620 0 (by decide)) rfl rfl c3 rfl ?_
      obtain ⟨v4, hv4, h⟩ := bs_some h
      refine r_istoreE_n hX (p2 := 52) (ls2 := [some (vR (cc 6 0)), some (vI x1), some (vI x2), some (vI v4), d4]) rfl rfl hv4 rfl rfl ?_
      refine r_iload_n hX (p2 := 53) rfl rfl rfl ?_
      refine r_if hX (p2 := 73) (p3 := 56) (P := v4 ≤ 0) rfl (by decide) rfl rfl (fun p13 => ?_) (fun p13 => ?_)
      · have h := it_pos h p13
        refine r_aload_n hX (p2 := 74) rfl rfl rfl ⟨_, Or.inl rfl⟩ ?_
        refine r_gf hX (p2 := 77) (v := vR (ca 621 0)) rfl rfl (hc6 0 (by decide)) rfl rfl rfl ?_
        refine r_iconst hX (p2 := 78) rfl rfl rfl ?_
        refine r_iload_n hX (p2 := 79) rfl rfl rfl ?_
        obtain ⟨c5, h⟩ := ck_some h
        refine r_imul hX (p2 := 80) rfl rfl c5 ?_
        refine r_iload_n hX (p2 := 81) rfl rfl rfl ?_
        obtain ⟨c6, h⟩ := ck_some h
        refine r_iadd hX (p2 := 82) rfl rfl c6 ?_
        obtain ⟨c7, h⟩ := ck_some h
        refine r_iaload hX (p2 := 83) (j := ((2 * x2) + x1).toNat) rfl rfl (ha621 0 (by decide)) rfl rfl c7 rfl ?_
        exact t_X6_counts_83 xs e q X hX _ _ ih hK113 x1 x2 (sA s 621 0 ((2 * x2) + x1).toNat) (some (vI v4)) d4 rfl s h
      · have h := it_neg h p13
        refine r_iload_n hX (p2 := 57) rfl rfl rfl ?_
        refine r_aload_n hX (p2 := 58) rfl rfl rfl ⟨_, Or.inl rfl⟩ ?_
        refine r_gf hX (p2 := 61) (v := vR (ca 621 0)) rfl rfl (hc6 0 (by decide)) rfl rfl rfl ?_
        refine r_iconst hX (p2 := 62) rfl rfl rfl ?_
        refine r_iload_n hX (p2 := 63) rfl rfl rfl ?_
        obtain ⟨c8, h⟩ := ck_some h
        refine r_imul hX (p2 := 64) rfl rfl c8 ?_
        refine r_iload_n hX (p2 := 65) rfl rfl rfl ?_
        obtain ⟨c9, h⟩ := ck_some h
        refine r_iadd hX (p2 := 66) rfl rfl c9 ?_
        obtain ⟨c10, h⟩ := ck_some h
        refine r_iaload hX (p2 := 67) (j := ((2 * x2) + x1).toNat) rfl rfl (ha621 0 (by decide)) rfl rfl c10 rfl ?_
        obtain ⟨c11, h⟩ := ck_some h
        refine r_iadd hX (p2 := 68) rfl rfl c11 ?_
        refine r_iconst hX (p2 := 69) rfl rfl rfl ?_
        obtain ⟨c12, h⟩ := ck_some h
        refine r_isub hX (p2 := 70) rfl rfl c12 ?_
        refine r_goto hX (p2 := 83) rfl (by decide) ?_
        exact t_X6_counts_83 xs e q X hX _ _ ih hK113 x1 x2 ((v4 + (sA s 621 0 ((2 * x2) + x1).toNat)) - 1) (some (vI v4)) d4 rfl s h
noncomputable def f_X6_counts_28 (x1 : Int) (y1 : Int) (s : pS) : Option (pS) := bs (wI s 640 0 y1) (fun s1 => f_X6_counts_33 (fun s2 => some s2) 400 x1 0 s1)
set_option maxRecDepth 10000 in
theorem t_X6_counts_28 (xs : Nat → Int) (e : Nat) (q : pS) (X : List (Option pV) → List pV → Nat → pH → Prop) (hX : pm_clo 1001 xs (pCall pm_tx 1001 xs pm_P e) e mX6_counts (eU q) X) : ∀  (x1 : Int) (y1 : Int) (d2 : Option pV) (d3 : Option pV) (d4 : Option pV) (s : pS), f_X6_counts_28 x1 y1 s = some q → X [some (vR (cc 6 0)), some (vI x1), d2, d3, d4] [vI y1, vR (cc 6 0)] 28 (pW s) := by
  intro x1 y1 d2 d3 d4 s h
  unfold f_X6_counts_28 at h
  obtain ⟨s1, hs1, h⟩ := bs_some h
  refine r_pfI hX (p2 := 31) rfl rfl (hc6 0 (by decide)) rfl rfl rfl rfl rfl rfl hs1 ?_
  refine r_iconst hX (p2 := 32) rfl rfl rfl ?_
  refine r_istore_n hX (p2 := 33) (ls2 := [some (vR (cc 6 0)), some (vI x1), some (vI 0), d3, d4]) rfl rfl rfl rfl ?_
  refine t_X6_counts_33 xs e q X hX _ (fun d0 d1 d2 d3 d4 s2 h => ?_) 400 x1 0 d3 d4 s1 h
  exact r_return hX rfl rfl (eU_ok h)
noncomputable def f_X6_counts (s : pS) : Option (pS) := ck (inR (1 - (sI s 624 0))) (bs ((1 - (sI s 624 0))) (fun v2 => ck (0 ≤ v2 ∧ v2 < 2) ((if (sA s 604 0 v2.toNat) ≤ 1 then f_X6_counts_28 v2 1 s else ck (0 ≤ v2 ∧ v2 < 2) (f_X6_counts_28 v2 (sA s 604 0 v2.toNat) s)))))
set_option maxRecDepth 10000 in
theorem c_X6_counts (xs : Nat → Int) (e : Nat) (s : pS) (q : pS) (h : f_X6_counts s = some q) : pCall pm_tx 1001 xs pm_P (e + 1) 130 [vR (cc 6 0)] (pW s) (.inl none) (pW q) := by
  refine pCall_of mX6_counts rfl rfl (fun X hX => ?_)
  show X [some (vR (cc 6 0)), none, none, none, none] [] 0 (pW s)
  replace hX : pm_clo 1001 xs (pCall pm_tx 1001 xs pm_P e) e mX6_counts (eU q) X := hX
  unfold f_X6_counts at h
  refine r_iconst hX (p2 := 1) rfl rfl rfl ?_
  refine r_aload_n hX (p2 := 2) rfl rfl rfl ⟨_, Or.inl rfl⟩ ?_
  refine r_gf hX (p2 := 5) (v := vI (sI s 624 0)) rfl rfl (hc6 0 (by decide)) rfl rfl rfl ?_
  obtain ⟨c1, h⟩ := ck_some h
  refine r_isub hX (p2 := 6) rfl rfl c1 ?_
  obtain ⟨v2, hv2, h⟩ := bs_some h
  refine r_istoreE_n hX (p2 := 7) (ls2 := [some (vR (cc 6 0)), some (vI v2), none, none, none]) rfl rfl hv2 rfl rfl ?_
  refine r_aload_n hX (p2 := 8) rfl rfl rfl ⟨_, Or.inl rfl⟩ ?_
  refine r_aload_n hX (p2 := 9) rfl rfl rfl ⟨_, Or.inl rfl⟩ ?_
  refine r_gf hX (p2 := 12) (v := vR (ca 604 0)) rfl rfl (hc6 0 (by decide)) rfl rfl rfl ?_
  refine r_iload_n hX (p2 := 13) rfl rfl rfl ?_
  obtain ⟨c3, h⟩ := ck_some h
  refine r_iaload hX (p2 := 14) (j := v2.toNat) rfl rfl (ha604 0 (by decide)) rfl rfl c3 rfl ?_
  refine r_iconst hX (p2 := 15) rfl rfl rfl ?_
  refine r_icmp hX (p2 := 27) (p3 := 18) (P := (sA s 604 0 v2.toNat) ≤ 1) rfl (by decide) rfl rfl (fun p5 => ?_) (fun p5 => ?_)
  · have h := it_pos h p5
    refine r_iconst hX (p2 := 28) rfl rfl rfl ?_
    exact t_X6_counts_28 xs e q X hX v2 1 none none none s h
  · have h := it_neg h p5
    refine r_aload_n hX (p2 := 19) rfl rfl rfl ⟨_, Or.inl rfl⟩ ?_
    refine r_gf hX (p2 := 22) (v := vR (ca 604 0)) rfl rfl (hc6 0 (by decide)) rfl rfl rfl ?_
    refine r_iload_n hX (p2 := 23) rfl rfl rfl ?_
    obtain ⟨c4, h⟩ := ck_some h
    refine r_iaload hX (p2 := 24) (j := v2.toNat) rfl rfl (ha604 0 (by decide)) rfl rfl c4 rfl ?_
    refine r_goto hX (p2 := 28) rfl (by decide) ?_
    exact t_X6_counts_28 xs e q X hX v2 (sA s 604 0 v2.toNat) none none none s h
noncomputable def f_X6_mainStart (a1 : Int) (s : pS) : Option (Int × pS) := ck (inR (2 * a1)) (ck (inR ((2 * a1) + (sI s 624 0))) (ck (0 ≤ ((2 * a1) + (sI s 624 0)) ∧ ((2 * a1) + (sI s 624 0)) < 20) (some ((sA s 620 0 ((2 * a1) + (sI s 624 0)).toNat), s))))
set_option maxRecDepth 10000 in
theorem c_X6_mainStart (xs : Nat → Int) (e : Nat) (a1 : Int) (s : pS) (q : Int × pS) (h : f_X6_mainStart a1 s = some q) : pCall pm_tx 1001 xs pm_P (e + 1) 133 [vR (cc 6 0), vI a1] (pW s) (.inl (some (vI q.1))) (pW q.2) := by
  refine pCall_of mX6_mainStart rfl rfl (fun X hX => ?_)
  show X [some (vR (cc 6 0)), some (vI a1)] [] 0 (pW s)
  replace hX : pm_clo 1001 xs (pCall pm_tx 1001 xs pm_P e) e mX6_mainStart (eI q) X := hX
  unfold f_X6_mainStart at h
  refine r_aload_n hX (p2 := 1) rfl rfl rfl ⟨_, Or.inl rfl⟩ ?_
  refine r_gf hX (p2 := 4) (v := vR (ca 620 0)) rfl rfl (hc6 0 (by decide)) rfl rfl rfl ?_
  refine r_iconst hX (p2 := 5) rfl rfl rfl ?_
  refine r_iload_n hX (p2 := 6) rfl rfl rfl ?_
  obtain ⟨c1, h⟩ := ck_some h
  refine r_imul hX (p2 := 7) rfl rfl c1 ?_
  refine r_aload_n hX (p2 := 8) rfl rfl rfl ⟨_, Or.inl rfl⟩ ?_
  refine r_gf hX (p2 := 11) (v := vI (sI s 624 0)) rfl rfl (hc6 0 (by decide)) rfl rfl rfl ?_
  obtain ⟨c2, h⟩ := ck_some h
  refine r_iadd hX (p2 := 12) rfl rfl c2 ?_
  obtain ⟨c3, h⟩ := ck_some h
  refine r_iaload hX (p2 := 13) (j := ((2 * a1) + (sI s 624 0)).toNat) rfl rfl (ha620 0 (by decide)) rfl rfl c3 rfl ?_
  exact r_iretI hX rfl rfl (eI_ok h)
noncomputable def f_X6_otherStart (a1 : Int) (s : pS) : Option (Int × pS) := ck (inR (2 * a1)) (ck (inR ((2 * a1) + 1)) (ck (inR (((2 * a1) + 1) - (sI s 624 0))) (ck (0 ≤ (((2 * a1) + 1) - (sI s 624 0)) ∧ (((2 * a1) + 1) - (sI s 624 0)) < 20) (some ((sA s 620 0 (((2 * a1) + 1) - (sI s 624 0)).toNat), s)))))
set_option maxRecDepth 10000 in
theorem c_X6_otherStart (xs : Nat → Int) (e : Nat) (a1 : Int) (s : pS) (q : Int × pS) (h : f_X6_otherStart a1 s = some q) : pCall pm_tx 1001 xs pm_P (e + 1) 134 [vR (cc 6 0), vI a1] (pW s) (.inl (some (vI q.1))) (pW q.2) := by
  refine pCall_of mX6_otherStart rfl rfl (fun X hX => ?_)
  show X [some (vR (cc 6 0)), some (vI a1)] [] 0 (pW s)
  replace hX : pm_clo 1001 xs (pCall pm_tx 1001 xs pm_P e) e mX6_otherStart (eI q) X := hX
  unfold f_X6_otherStart at h
  refine r_aload_n hX (p2 := 1) rfl rfl rfl ⟨_, Or.inl rfl⟩ ?_
  refine r_gf hX (p2 := 4) (v := vR (ca 620 0)) rfl rfl (hc6 0 (by decide)) rfl rfl rfl ?_
  refine r_iconst hX (p2 := 5) rfl rfl rfl ?_
  refine r_iload_n hX (p2 := 6) rfl rfl rfl ?_
  obtain ⟨c1, h⟩ := ck_some h
  refine r_imul hX (p2 := 7) rfl rfl c1 ?_
  refine r_iconst hX (p2 := 8) rfl rfl rfl ?_
  obtain ⟨c2, h⟩ := ck_some h
  refine r_iadd hX (p2 := 9) rfl rfl c2 ?_
  refine r_aload_n hX (p2 := 10) rfl rfl rfl ⟨_, Or.inl rfl⟩ ?_
  refine r_gf hX (p2 := 13) (v := vI (sI s 624 0)) rfl rfl (hc6 0 (by decide)) rfl rfl rfl ?_
  obtain ⟨c3, h⟩ := ck_some h
  refine r_isub hX (p2 := 14) rfl rfl c3 ?_
  obtain ⟨c4, h⟩ := ck_some h
  refine r_iaload hX (p2 := 15) (j := (((2 * a1) + 1) - (sI s 624 0)).toNat) rfl rfl (ha620 0 (by decide)) rfl rfl c4 rfl ?_
  exact r_iretI hX rfl rfl (eI_ok h)
noncomputable def f_X6_stand_56 (K102 : Int → Int → Int → Int → pS → Option (pS)) : Nat → Int → Int → Int → Int → Int → pS → Option (pS)
  | 0, _, _, _, _, _, _ => none
  | n + 1, x1, x2, x3, x4, x5, s => ck (inR (2 * x1)) (ck (inR ((2 * x1) + 1)) (ck (inR (((2 * x1) + 1) - (sI s 624 0))) (ck (0 ≤ (((2 * x1) + 1) - (sI s 624 0)) ∧ (((2 * x1) + 1) - (sI s 624 0)) < 20) (ck (inR (x3 + (sA s 621 0 (((2 * x1) + 1) - (sI s 624 0)).toNat))) ((if (x3 + (sA s 621 0 (((2 * x1) + 1) - (sI s 624 0)).toNat)) ≤ x5 then K102 x1 x2 x3 x4 s else ck (inR (x4 - 1)) (ck (inR (12 * (x4 - 1))) (ck (inR ((12 * (x4 - 1)) + x5)) (ck (inR (((12 * (x4 - 1)) + x5) - 1)) (ck (0 ≤ (((12 * (x4 - 1)) + x5) - 1) ∧ (((12 * (x4 - 1)) + x5) - 1) < 144) (bs (wA s 639 0 (pm_up (sA s 639 0) (((12 * (x4 - 1)) + x5) - 1).toNat 1)) (fun s11 => ck (inR (x5 + 1)) (f_X6_stand_56 K102 n x1 x2 x3 x4 (x5 + 1) s11)))))))))))))
set_option maxRecDepth 10000 in
theorem t_X6_stand_56 (xs : Nat → Int) (e : Nat) (q : pS) (X : List (Option pV) → List pV → Nat → pH → Prop) (hX : pm_clo 1001 xs (pCall pm_tx 1001 xs pm_P e) e mX6_stand (eU q) X) (K102 : Int → Int → Int → Int → pS → Option (pS)) (hK102 : ∀ (x1 : Int) (x2 : Int) (x3 : Int) (x4 : Int) (d5 : Option pV) (s : pS), K102 x1 x2 x3 x4 s = some q → X [some (vR (cc 6 0)), some (vI x1), some (vI x2), some (vI x3), some (vI x4), d5] [] 102 (pW s)) : ∀ (n : Nat) (x1 : Int) (x2 : Int) (x3 : Int) (x4 : Int) (x5 : Int) (s : pS), f_X6_stand_56 K102 n x1 x2 x3 x4 x5 s = some q → X [some (vR (cc 6 0)), some (vI x1), some (vI x2), some (vI x3), some (vI x4), some (vI x5)] [] 56 (pW s) := by
  intro n
  induction n with
  | zero =>
    intro x1 x2 x3 x4 x5 s h
    rw [f_X6_stand_56] at h
    cases h
  | succ n ih =>
    intro x1 x2 x3 x4 x5 s h
    rw [f_X6_stand_56] at h
    refine r_iload hX (p2 := 58) rfl rfl rfl ?_
    refine r_iload_n hX (p2 := 59) rfl rfl rfl ?_
    refine r_aload_n hX (p2 := 60) rfl rfl rfl ⟨_, Or.inl rfl⟩ ?_
    refine r_gf hX (p2 := 63) (v := vR (ca 621 0)) rfl rfl (hc6 0 (by decide)) rfl rfl rfl ?_
    refine r_iconst hX (p2 := 64) rfl rfl rfl ?_
    refine r_iload_n hX (p2 := 65) rfl rfl rfl ?_
    obtain ⟨c1, h⟩ := ck_some h
    refine r_imul hX (p2 := 66) rfl rfl c1 ?_
    refine r_iconst hX (p2 := 67) rfl rfl rfl ?_
    obtain ⟨c2, h⟩ := ck_some h
    refine r_iadd hX (p2 := 68) rfl rfl c2 ?_
    refine r_aload_n hX (p2 := 69) rfl rfl rfl ⟨_, Or.inl rfl⟩ ?_
    refine r_gf hX (p2 := 72) (v := vI (sI s 624 0)) rfl rfl (hc6 0 (by decide)) rfl rfl rfl ?_
    obtain ⟨c3, h⟩ := ck_some h
    refine r_isub hX (p2 := 73) rfl rfl c3 ?_
    obtain ⟨c4, h⟩ := ck_some h
    refine r_iaload hX (p2 := 74) (j := (((2 * x1) + 1) - (sI s 624 0)).toNat) rfl rfl (ha621 0 (by decide)) rfl rfl c4 rfl ?_
    obtain ⟨c5, h⟩ := ck_some h
    refine r_iadd hX (p2 := 75) rfl rfl c5 ?_
    refine r_icmp hX (p2 := 102) (p3 := 78) (P := (x3 + (sA s 621 0 (((2 * x1) + 1) - (sI s 624 0)).toNat)) ≤ x5) rfl (by decide) rfl rfl (fun p13 => ?_) (fun p13 => ?_)
    · have h := it_pos h p13
      exact hK102 x1 x2 x3 x4 (some (vI x5)) s h
    · have h := it_neg h p13
      refine r_aload_n hX (p2 := 79) rfl rfl rfl ⟨_, Or.inl rfl⟩ ?_
      refine r_gf hX (p2 := 82) (v := vR (ca 639 0)) rfl rfl (hc6 0 (by decide)) rfl rfl rfl ?_
      refine r_bipush hX (p2 := 84) rfl rfl rfl ?_
      refine r_iload hX (p2 := 86) rfl rfl rfl ?_
      refine r_iconst hX (p2 := 87) rfl rfl rfl ?_
      obtain ⟨c6, h⟩ := ck_some h
      refine r_isub hX (p2 := 88) rfl rfl c6 ?_
      obtain ⟨c7, h⟩ := ck_some h
      refine r_imul hX (p2 := 89) rfl rfl c7 ?_
      refine r_iload hX (p2 := 91) rfl rfl rfl ?_
      obtain ⟨c8, h⟩ := ck_some h
      refine r_iadd hX (p2 := 92) rfl rfl c8 ?_
      refine r_iconst hX (p2 := 93) rfl rfl rfl ?_
      obtain ⟨c9, h⟩ := ck_some h
      refine r_isub hX (p2 := 94) rfl rfl c9 ?_
      refine r_iconst hX (p2 := 95) rfl rfl rfl ?_
      obtain ⟨c10, h⟩ := ck_some h
      obtain ⟨s11, hs11, h⟩ := bs_some h
      refine r_bastore hX (p2 := 96) (j := (((12 * (x4 - 1)) + x5) - 1).toNat) rfl rfl (ha639 0 (by decide)) rfl rfl c10 rfl (Or.inr rfl) hs11 ?_
      obtain ⟨c12, h⟩ := ck_some h
      refine r_iinc hX (p2 := 99) (ls2 := [some (vR (cc 6 0)), some (vI x1), some (vI x2), some (vI x3), some (vI x4), some (vI (x5 + 1))]) rfl rfl rfl rfl c12 rfl ?_
      refine r_goto hX (p2 := 56) rfl (by decide) ?_
      exact ih x1 x2 x3 x4 (x5 + 1) s11 h
noncomputable def f_X6_stand_33 (K108 : pS → Option (pS)) : Nat → Int → Int → Int → Int → pS → Option (pS)
  | 0, _, _, _, _, _ => none
  | n + 1, x1, x2, x3, x4, s => ck (inR (2 * x1)) (ck (inR ((2 * x1) + (sI s 624 0))) (ck (0 ≤ ((2 * x1) + (sI s 624 0)) ∧ ((2 * x1) + (sI s 624 0)) < 20) (ck (inR (x2 + (sA s 621 0 ((2 * x1) + (sI s 624 0)).toNat))) ((if (x2 + (sA s 621 0 ((2 * x1) + (sI s 624 0)).toNat)) ≤ x4 then K108 s else f_X6_stand_56 (fun x1 x2 x3 x4 s5 => ck (inR (x4 + 1)) (f_X6_stand_33 K108 n x1 x2 x3 (x4 + 1) s5)) 400 x1 x2 x3 x4 x3 s)))))
set_option maxRecDepth 10000 in
theorem t_X6_stand_33 (xs : Nat → Int) (e : Nat) (q : pS) (X : List (Option pV) → List pV → Nat → pH → Prop) (hX : pm_clo 1001 xs (pCall pm_tx 1001 xs pm_P e) e mX6_stand (eU q) X) (K108 : pS → Option (pS)) (hK108 : ∀ (d0 : Option pV) (d1 : Option pV) (d2 : Option pV) (d3 : Option pV) (d4 : Option pV) (d5 : Option pV) (s : pS), K108 s = some q → X [d0, d1, d2, d3, d4, d5] [] 108 (pW s)) : ∀ (n : Nat) (x1 : Int) (x2 : Int) (x3 : Int) (x4 : Int) (d5 : Option pV) (s : pS), f_X6_stand_33 K108 n x1 x2 x3 x4 s = some q → X [some (vR (cc 6 0)), some (vI x1), some (vI x2), some (vI x3), some (vI x4), d5] [] 33 (pW s) := by
  intro n
  induction n with
  | zero =>
    intro x1 x2 x3 x4 d5 s h
    rw [f_X6_stand_33] at h
    cases h
  | succ n ih =>
    intro x1 x2 x3 x4 d5 s h
    rw [f_X6_stand_33] at h
    refine r_iload hX (p2 := 35) rfl rfl rfl ?_
    refine r_iload_n hX (p2 := 36) rfl rfl rfl ?_
    refine r_aload_n hX (p2 := 37) rfl rfl rfl ⟨_, Or.inl rfl⟩ ?_
    refine r_gf hX (p2 := 40) (v := vR (ca 621 0)) rfl rfl (hc6 0 (by decide)) rfl rfl rfl ?_
    refine r_iconst hX (p2 := 41) rfl rfl rfl ?_
    refine r_iload_n hX (p2 := 42) rfl rfl rfl ?_
    obtain ⟨c1, h⟩ := ck_some h
    refine r_imul hX (p2 := 43) rfl rfl c1 ?_
    refine r_aload_n hX (p2 := 44) rfl rfl rfl ⟨_, Or.inl rfl⟩ ?_
    refine r_gf hX (p2 := 47) (v := vI (sI s 624 0)) rfl rfl (hc6 0 (by decide)) rfl rfl rfl ?_
    obtain ⟨c2, h⟩ := ck_some h
    refine r_iadd hX (p2 := 48) rfl rfl c2 ?_
    obtain ⟨c3, h⟩ := ck_some h
    refine r_iaload hX (p2 := 49) (j := ((2 * x1) + (sI s 624 0)).toNat) rfl rfl (ha621 0 (by decide)) rfl rfl c3 rfl ?_
    obtain ⟨c4, h⟩ := ck_some h
    refine r_iadd hX (p2 := 50) rfl rfl c4 ?_
    refine r_icmp hX (p2 := 108) (p3 := 53) (P := (x2 + (sA s 621 0 ((2 * x1) + (sI s 624 0)).toNat)) ≤ x4) rfl (by decide) rfl rfl (fun p7 => ?_) (fun p7 => ?_)
    · have h := it_pos h p7
      exact hK108 (some (vR (cc 6 0))) (some (vI x1)) (some (vI x2)) (some (vI x3)) (some (vI x4)) d5 s h
    · have h := it_neg h p7
      refine r_iload_n hX (p2 := 54) rfl rfl rfl ?_
      refine r_istore hX (p2 := 56) (ls2 := [some (vR (cc 6 0)), some (vI x1), some (vI x2), some (vI x3), some (vI x4), some (vI x3)]) rfl rfl rfl rfl ?_
      refine t_X6_stand_56 xs e q X hX _ (fun x1 x2 x3 x4 d5 s5 h => ?_) 400 x1 x2 x3 x4 x3 s h
      obtain ⟨c6, h⟩ := ck_some h
      refine r_iinc hX (p2 := 105) (ls2 := [some (vR (cc 6 0)), some (vI x1), some (vI x2), some (vI x3), some (vI (x4 + 1)), d5]) rfl rfl rfl rfl c6 rfl ?_
      refine r_goto hX (p2 := 33) rfl (by decide) ?_
      exact ih x1 x2 x3 (x4 + 1) d5 s5 h
noncomputable def f_X6_stand (a1 : Int) (a2 : Int) (a3 : Int) (s : pS) : Option (pS) := ck (inR (2 * a1)) (ck (inR ((2 * a1) + (sI s 624 0))) (ck (0 ≤ ((2 * a1) + (sI s 624 0)) ∧ ((2 * a1) + (sI s 624 0)) < 20) (bs (wA s 631 0 (pm_up (sA s 631 0) ((2 * a1) + (sI s 624 0)).toNat a2)) (fun s4 => ck (inR (2 * a1)) (ck (inR ((2 * a1) + 1)) (ck (inR (((2 * a1) + 1) - (sI s4 624 0))) (ck (0 ≤ (((2 * a1) + 1) - (sI s4 624 0)) ∧ (((2 * a1) + 1) - (sI s4 624 0)) < 20) (bs (wA s4 631 0 (pm_up (sA s4 631 0) (((2 * a1) + 1) - (sI s4 624 0)).toNat a3)) (fun s9 => f_X6_stand_33 (fun s10 => some s10) 400 a1 a2 a3 a2 s9)))))))))
set_option maxRecDepth 10000 in
theorem c_X6_stand (xs : Nat → Int) (e : Nat) (a1 : Int) (a2 : Int) (a3 : Int) (s : pS) (q : pS) (h : f_X6_stand a1 a2 a3 s = some q) : pCall pm_tx 1001 xs pm_P (e + 1) 132 [vR (cc 6 0), vI a1, vI a2, vI a3] (pW s) (.inl none) (pW q) := by
  refine pCall_of mX6_stand rfl rfl (fun X hX => ?_)
  show X [some (vR (cc 6 0)), some (vI a1), some (vI a2), some (vI a3), none, none] [] 0 (pW s)
  replace hX : pm_clo 1001 xs (pCall pm_tx 1001 xs pm_P e) e mX6_stand (eU q) X := hX
  unfold f_X6_stand at h
  refine r_aload_n hX (p2 := 1) rfl rfl rfl ⟨_, Or.inl rfl⟩ ?_
  refine r_gf hX (p2 := 4) (v := vR (ca 631 0)) rfl rfl (hc6 0 (by decide)) rfl rfl rfl ?_
  refine r_iconst hX (p2 := 5) rfl rfl rfl ?_
  refine r_iload_n hX (p2 := 6) rfl rfl rfl ?_
  obtain ⟨c1, h⟩ := ck_some h
  refine r_imul hX (p2 := 7) rfl rfl c1 ?_
  refine r_aload_n hX (p2 := 8) rfl rfl rfl ⟨_, Or.inl rfl⟩ ?_
  refine r_gf hX (p2 := 11) (v := vI (sI s 624 0)) rfl rfl (hc6 0 (by decide)) rfl rfl rfl ?_
  obtain ⟨c2, h⟩ := ck_some h
  refine r_iadd hX (p2 := 12) rfl rfl c2 ?_
  refine r_iload_n hX (p2 := 13) rfl rfl rfl ?_
  obtain ⟨c3, h⟩ := ck_some h
  obtain ⟨s4, hs4, h⟩ := bs_some h
  refine r_iastore hX (p2 := 14) (j := ((2 * a1) + (sI s 624 0)).toNat) rfl rfl (ha631 0 (by decide)) rfl rfl c3 rfl hs4 ?_
  refine r_aload_n hX (p2 := 15) rfl rfl rfl ⟨_, Or.inl rfl⟩ ?_
  refine r_gf hX (p2 := 18) (v := vR (ca 631 0)) rfl rfl (hc6 0 (by decide)) rfl rfl rfl ?_
  refine r_iconst hX (p2 := 19) rfl rfl rfl ?_
  refine r_iload_n hX (p2 := 20) rfl rfl rfl ?_
  obtain ⟨c5, h⟩ := ck_some h
  refine r_imul hX (p2 := 21) rfl rfl c5 ?_
  refine r_iconst hX (p2 := 22) rfl rfl rfl ?_
  obtain ⟨c6, h⟩ := ck_some h
  refine r_iadd hX (p2 := 23) rfl rfl c6 ?_
  refine r_aload_n hX (p2 := 24) rfl rfl rfl ⟨_, Or.inl rfl⟩ ?_
  refine r_gf hX (p2 := 27) (v := vI (sI s4 624 0)) rfl rfl (hc6 0 (by decide)) rfl rfl rfl ?_
  obtain ⟨c7, h⟩ := ck_some h
  refine r_isub hX (p2 := 28) rfl rfl c7 ?_
  refine r_iload_n hX (p2 := 29) rfl rfl rfl ?_
  obtain ⟨c8, h⟩ := ck_some h
  obtain ⟨s9, hs9, h⟩ := bs_some h
  refine r_iastore hX (p2 := 30) (j := (((2 * a1) + 1) - (sI s4 624 0)).toNat) rfl rfl (ha631 0 (by decide)) rfl rfl c8 rfl hs9 ?_
  refine r_iload_n hX (p2 := 31) rfl rfl rfl ?_
  refine r_istore hX (p2 := 33) (ls2 := [some (vR (cc 6 0)), some (vI a1), some (vI a2), some (vI a3), some (vI a2), none]) rfl rfl rfl rfl ?_
  refine t_X6_stand_33 xs e q X hX _ (fun d0 d1 d2 d3 d4 d5 s10 h => ?_) 400 a1 a2 a3 a2 none s9 h
  exact r_return hX rfl rfl (eU_ok h)
noncomputable def f_X6_isFree_56 (s : pS) : Option (Int × pS) := some (0, s)
set_option maxRecDepth 10000 in
theorem t_X6_isFree_56 (xs : Nat → Int) (e : Nat) (q : Int × pS) (X : List (Option pV) → List pV → Nat → pH → Prop) (hX : pm_clo 1001 xs (pCall pm_tx 1001 xs pm_P e) e mX6_isFree (eI q) X) : ∀  (d0 : Option pV) (d1 : Option pV) (d2 : Option pV) (d3 : Option pV) (d4 : Option pV) (d5 : Option pV) (d6 : Option pV) (d7 : Option pV) (s : pS), f_X6_isFree_56 s = some q → X [d0, d1, d2, d3, d4, d5, d6, d7] [] 56 (pW s) := by
  intro d0 d1 d2 d3 d4 d5 d6 d7 s h
  unfold f_X6_isFree_56 at h
  refine r_iconst hX (p2 := 57) rfl rfl rfl ?_
  exact r_iretZ hX rfl rfl (Or.inl rfl) (eI_ok h)
noncomputable def f_X6_isFree_73 (K110 : Int → Int → Int → Int → Int → pS → Option (Int × pS)) : Nat → Int → Int → Int → Int → Int → Int → pS → Option (Int × pS)
  | 0, _, _, _, _, _, _, _ => none
  | n + 1, x2, x3, x4, x5, x6, x7, s => ck (inR (x3 + x5)) ((if (x3 + x5) ≤ x7 then K110 x2 x3 x4 x5 x6 s else ck (inR (x6 - 1)) (ck (inR (12 * (x6 - 1))) (ck (inR ((12 * (x6 - 1)) + x7)) (ck (inR (((12 * (x6 - 1)) + x7) - 1)) (ck (0 ≤ (((12 * (x6 - 1)) + x7) - 1) ∧ (((12 * (x6 - 1)) + x7) - 1) < 144) ((if (sA s 639 0 (((12 * (x6 - 1)) + x7) - 1).toNat) = 0 then ck (inR (x7 + 1)) (f_X6_isFree_73 K110 n x2 x3 x4 x5 x6 (x7 + 1) s) else some (0, s)))))))))
set_option maxRecDepth 10000 in
theorem t_X6_isFree_73 (xs : Nat → Int) (e : Nat) (q : Int × pS) (X : List (Option pV) → List pV → Nat → pH → Prop) (hX : pm_clo 1001 xs (pCall pm_tx 1001 xs pm_P e) e mX6_isFree (eI q) X) (K110 : Int → Int → Int → Int → Int → pS → Option (Int × pS)) (hK110 : ∀ (x2 : Int) (x3 : Int) (x4 : Int) (x5 : Int) (x6 : Int) (d1 : Option pV) (d7 : Option pV) (s : pS), K110 x2 x3 x4 x5 x6 s = some q → X [some (vR (cc 6 0)), d1, some (vI x2), some (vI x3), some (vI x4), some (vI x5), some (vI x6), d7] [] 110 (pW s)) : ∀ (n : Nat) (x2 : Int) (x3 : Int) (x4 : Int) (x5 : Int) (x6 : Int) (x7 : Int) (d1 : Option pV) (s : pS), f_X6_isFree_73 K110 n x2 x3 x4 x5 x6 x7 s = some q → X [some (vR (cc 6 0)), d1, some (vI x2), some (vI x3), some (vI x4), some (vI x5), some (vI x6), some (vI x7)] [] 73 (pW s) := by
  intro n
  induction n with
  | zero =>
    intro x2 x3 x4 x5 x6 x7 d1 s h
    rw [f_X6_isFree_73] at h
    cases h
  | succ n ih =>
    intro x2 x3 x4 x5 x6 x7 d1 s h
    rw [f_X6_isFree_73] at h
    refine r_iload hX (p2 := 75) rfl rfl rfl ?_
    refine r_iload_n hX (p2 := 76) rfl rfl rfl ?_
    refine r_iload hX (p2 := 78) rfl rfl rfl ?_
    obtain ⟨c1, h⟩ := ck_some h
    refine r_iadd hX (p2 := 79) rfl rfl c1 ?_
    refine r_icmp hX (p2 := 110) (p3 := 82) (P := (x3 + x5) ≤ x7) rfl (by decide) rfl rfl (fun p9 => ?_) (fun p9 => ?_)
    · have h := it_pos h p9
      exact hK110 x2 x3 x4 x5 x6 d1 (some (vI x7)) s h
    · have h := it_neg h p9
      refine r_aload_n hX (p2 := 83) rfl rfl rfl ⟨_, Or.inl rfl⟩ ?_
      refine r_gf hX (p2 := 86) (v := vR (ca 639 0)) rfl rfl (hc6 0 (by decide)) rfl rfl rfl ?_
      refine r_bipush hX (p2 := 88) rfl rfl rfl ?_
      refine r_iload hX (p2 := 90) rfl rfl rfl ?_
      refine r_iconst hX (p2 := 91) rfl rfl rfl ?_
      obtain ⟨c2, h⟩ := ck_some h
      refine r_isub hX (p2 := 92) rfl rfl c2 ?_
      obtain ⟨c3, h⟩ := ck_some h
      refine r_imul hX (p2 := 93) rfl rfl c3 ?_
      refine r_iload hX (p2 := 95) rfl rfl rfl ?_
      obtain ⟨c4, h⟩ := ck_some h
      refine r_iadd hX (p2 := 96) rfl rfl c4 ?_
      refine r_iconst hX (p2 := 97) rfl rfl rfl ?_
      obtain ⟨c5, h⟩ := ck_some h
      refine r_isub hX (p2 := 98) rfl rfl c5 ?_
      obtain ⟨c6, h⟩ := ck_some h
      refine r_baload hX (p2 := 99) (j := (((12 * (x6 - 1)) + x7) - 1).toNat) rfl rfl (ha639 0 (by decide)) rfl rfl c6 rfl ?_
      refine r_if hX (p2 := 104) (p3 := 102) (P := (sA s 639 0 (((12 * (x6 - 1)) + x7) - 1).toNat) = 0) rfl (by decide) rfl rfl (fun p8 => ?_) (fun p8 => ?_)
      · have h := it_pos h p8
        obtain ⟨c7, h⟩ := ck_some h
        refine r_iinc hX (p2 := 107) (ls2 := [some (vR (cc 6 0)), d1, some (vI x2), some (vI x3), some (vI x4), some (vI x5), some (vI x6), some (vI (x7 + 1))]) rfl rfl rfl rfl c7 rfl ?_
        refine r_goto hX (p2 := 73) rfl (by decide) ?_
        exact ih x2 x3 x4 x5 x6 (x7 + 1) d1 s h
      · have h := it_neg h p8
        refine r_iconst hX (p2 := 103) rfl rfl rfl ?_
        exact r_iretZ hX rfl rfl (Or.inl rfl) (eI_ok h)
noncomputable def f_X6_isFree_61 (K116 : pS → Option (Int × pS)) : Nat → Int → Int → Int → Int → Int → pS → Option (Int × pS)
  | 0, _, _, _, _, _, _ => none
  | n + 1, x2, x3, x4, x5, x6, s => ck (inR (x2 + x4)) ((if (x2 + x4) ≤ x6 then K116 s else f_X6_isFree_73 (fun x2 x3 x4 x5 x6 s2 => ck (inR (x6 + 1)) (f_X6_isFree_61 K116 n x2 x3 x4 x5 (x6 + 1) s2)) 400 x2 x3 x4 x5 x6 x3 s))
set_option maxRecDepth 10000 in
theorem t_X6_isFree_61 (xs : Nat → Int) (e : Nat) (q : Int × pS) (X : List (Option pV) → List pV → Nat → pH → Prop) (hX : pm_clo 1001 xs (pCall pm_tx 1001 xs pm_P e) e mX6_isFree (eI q) X) (K116 : pS → Option (Int × pS)) (hK116 : ∀ (d0 : Option pV) (d1 : Option pV) (d2 : Option pV) (d3 : Option pV) (d4 : Option pV) (d5 : Option pV) (d6 : Option pV) (d7 : Option pV) (s : pS), K116 s = some q → X [d0, d1, d2, d3, d4, d5, d6, d7] [] 116 (pW s)) : ∀ (n : Nat) (x2 : Int) (x3 : Int) (x4 : Int) (x5 : Int) (x6 : Int) (d1 : Option pV) (d7 : Option pV) (s : pS), f_X6_isFree_61 K116 n x2 x3 x4 x5 x6 s = some q → X [some (vR (cc 6 0)), d1, some (vI x2), some (vI x3), some (vI x4), some (vI x5), some (vI x6), d7] [] 61 (pW s) := by
  intro n
  induction n with
  | zero =>
    intro x2 x3 x4 x5 x6 d1 d7 s h
    rw [f_X6_isFree_61] at h
    cases h
  | succ n ih =>
    intro x2 x3 x4 x5 x6 d1 d7 s h
    rw [f_X6_isFree_61] at h
    refine r_iload hX (p2 := 63) rfl rfl rfl ?_
    refine r_iload_n hX (p2 := 64) rfl rfl rfl ?_
    refine r_iload hX (p2 := 66) rfl rfl rfl ?_
    obtain ⟨c1, h⟩ := ck_some h
    refine r_iadd hX (p2 := 67) rfl rfl c1 ?_
    refine r_icmp hX (p2 := 116) (p3 := 70) (P := (x2 + x4) ≤ x6) rfl (by decide) rfl rfl (fun p4 => ?_) (fun p4 => ?_)
    · have h := it_pos h p4
      exact hK116 (some (vR (cc 6 0))) d1 (some (vI x2)) (some (vI x3)) (some (vI x4)) (some (vI x5)) (some (vI x6)) d7 s h
    · have h := it_neg h p4
      refine r_iload_n hX (p2 := 71) rfl rfl rfl ?_
      refine r_istore hX (p2 := 73) (ls2 := [some (vR (cc 6 0)), d1, some (vI x2), some (vI x3), some (vI x4), some (vI x5), some (vI x6), some (vI x3)]) rfl rfl rfl rfl ?_
      refine t_X6_isFree_73 xs e q X hX _ (fun x2 x3 x4 x5 x6 d1 d7 s2 h => ?_) 400 x2 x3 x4 x5 x6 x3 d1 s h
      obtain ⟨c3, h⟩ := ck_some h
      refine r_iinc hX (p2 := 113) (ls2 := [some (vR (cc 6 0)), d1, some (vI x2), some (vI x3), some (vI x4), some (vI x5), some (vI (x6 + 1)), d7]) rfl rfl rfl rfl c3 rfl ?_
      refine r_goto hX (p2 := 61) rfl (by decide) ?_
      exact ih x2 x3 x4 x5 (x6 + 1) d1 d7 s2 h
noncomputable def f_X6_isFree (a1 : Int) (a2 : Int) (a3 : Int) (s : pS) : Option (Int × pS) := ck (inR (2 * a1)) (ck (inR ((2 * a1) + (sI s 624 0))) (ck (0 ≤ ((2 * a1) + (sI s 624 0)) ∧ ((2 * a1) + (sI s 624 0)) < 20) (bs ((sA s 621 0 ((2 * a1) + (sI s 624 0)).toNat)) (fun v4 => ck (inR (2 * a1)) (ck (inR ((2 * a1) + 1)) (ck (inR (((2 * a1) + 1) - (sI s 624 0))) (ck (0 ≤ (((2 * a1) + 1) - (sI s 624 0)) ∧ (((2 * a1) + 1) - (sI s 624 0)) < 20) (bs ((sA s 621 0 (((2 * a1) + 1) - (sI s 624 0)).toNat)) (fun v9 => ck (inR (a3 + v9)) (ck (inR ((a3 + v9) - 1)) ((if (sI s 640 0) < ((a3 + v9) - 1) then f_X6_isFree_56 s else ck (inR (a2 + v4)) (ck (inR ((a2 + v4) - 1)) ((if ((a2 + v4) - 1) ≤ 12 then f_X6_isFree_61 (fun s14 => some (1, s14)) 400 a2 a3 v4 v9 a2 s else f_X6_isFree_56 s)))))))))))))))
set_option maxRecDepth 10000 in
theorem c_X6_isFree (xs : Nat → Int) (e : Nat) (a1 : Int) (a2 : Int) (a3 : Int) (s : pS) (q : Int × pS) (h : f_X6_isFree a1 a2 a3 s = some q) : pCall pm_tx 1001 xs pm_P (e + 1) 131 [vR (cc 6 0), vI a1, vI a2, vI a3] (pW s) (.inl (some (vI q.1))) (pW q.2) := by
  refine pCall_of mX6_isFree rfl rfl (fun X hX => ?_)
  show X [some (vR (cc 6 0)), some (vI a1), some (vI a2), some (vI a3), none, none, none, none] [] 0 (pW s)
  replace hX : pm_clo 1001 xs (pCall pm_tx 1001 xs pm_P e) e mX6_isFree (eI q) X := hX
  unfold f_X6_isFree at h
  refine r_aload_n hX (p2 := 1) rfl rfl rfl ⟨_, Or.inl rfl⟩ ?_
  refine r_gf hX (p2 := 4) (v := vR (ca 621 0)) rfl rfl (hc6 0 (by decide)) rfl rfl rfl ?_
  refine r_iconst hX (p2 := 5) rfl rfl rfl ?_
  refine r_iload_n hX (p2 := 6) rfl rfl rfl ?_
  obtain ⟨c1, h⟩ := ck_some h
  refine r_imul hX (p2 := 7) rfl rfl c1 ?_
  refine r_aload_n hX (p2 := 8) rfl rfl rfl ⟨_, Or.inl rfl⟩ ?_
  refine r_gf hX (p2 := 11) (v := vI (sI s 624 0)) rfl rfl (hc6 0 (by decide)) rfl rfl rfl ?_
  obtain ⟨c2, h⟩ := ck_some h
  refine r_iadd hX (p2 := 12) rfl rfl c2 ?_
  obtain ⟨c3, h⟩ := ck_some h
  refine r_iaload hX (p2 := 13) (j := ((2 * a1) + (sI s 624 0)).toNat) rfl rfl (ha621 0 (by decide)) rfl rfl c3 rfl ?_
  obtain ⟨v4, hv4, h⟩ := bs_some h
  refine r_istoreE hX (p2 := 15) (ls2 := [some (vR (cc 6 0)), some (vI a1), some (vI a2), some (vI a3), some (vI v4), none, none, none]) rfl rfl hv4 rfl rfl ?_
  refine r_aload_n hX (p2 := 16) rfl rfl rfl ⟨_, Or.inl rfl⟩ ?_
  refine r_gf hX (p2 := 19) (v := vR (ca 621 0)) rfl rfl (hc6 0 (by decide)) rfl rfl rfl ?_
  refine r_iconst hX (p2 := 20) rfl rfl rfl ?_
  refine r_iload_n hX (p2 := 21) rfl rfl rfl ?_
  obtain ⟨c5, h⟩ := ck_some h
  refine r_imul hX (p2 := 22) rfl rfl c5 ?_
  refine r_iconst hX (p2 := 23) rfl rfl rfl ?_
  obtain ⟨c6, h⟩ := ck_some h
  refine r_iadd hX (p2 := 24) rfl rfl c6 ?_
  refine r_aload_n hX (p2 := 25) rfl rfl rfl ⟨_, Or.inl rfl⟩ ?_
  refine r_gf hX (p2 := 28) (v := vI (sI s 624 0)) rfl rfl (hc6 0 (by decide)) rfl rfl rfl ?_
  obtain ⟨c7, h⟩ := ck_some h
  refine r_isub hX (p2 := 29) rfl rfl c7 ?_
  obtain ⟨c8, h⟩ := ck_some h
  refine r_iaload hX (p2 := 30) (j := (((2 * a1) + 1) - (sI s 624 0)).toNat) rfl rfl (ha621 0 (by decide)) rfl rfl c8 rfl ?_
  obtain ⟨v9, hv9, h⟩ := bs_some h
  refine r_istoreE hX (p2 := 32) (ls2 := [some (vR (cc 6 0)), some (vI a1), some (vI a2), some (vI a3), some (vI v4), some (vI v9), none, none]) rfl rfl hv9 rfl rfl ?_
  refine r_iload_n hX (p2 := 33) rfl rfl rfl ?_
  refine r_iload hX (p2 := 35) rfl rfl rfl ?_
  obtain ⟨c10, h⟩ := ck_some h
  refine r_iadd hX (p2 := 36) rfl rfl c10 ?_
  refine r_iconst hX (p2 := 37) rfl rfl rfl ?_
  obtain ⟨c11, h⟩ := ck_some h
  refine r_isub hX (p2 := 38) rfl rfl c11 ?_
  refine r_aload_n hX (p2 := 39) rfl rfl rfl ⟨_, Or.inl rfl⟩ ?_
  refine r_gf hX (p2 := 42) (v := vI (sI s 640 0)) rfl rfl (hc6 0 (by decide)) rfl rfl rfl ?_
  refine r_icmp hX (p2 := 56) (p3 := 45) (P := (sI s 640 0) < ((a3 + v9) - 1)) rfl (by decide) rfl rfl (fun p16 => ?_) (fun p16 => ?_)
  · have h := it_pos h p16
    exact t_X6_isFree_56 xs e q X hX (some (vR (cc 6 0))) (some (vI a1)) (some (vI a2)) (some (vI a3)) (some (vI v4)) (some (vI v9)) none none s h
  · have h := it_neg h p16
    refine r_iload_n hX (p2 := 46) rfl rfl rfl ?_
    refine r_iload hX (p2 := 48) rfl rfl rfl ?_
    obtain ⟨c12, h⟩ := ck_some h
    refine r_iadd hX (p2 := 49) rfl rfl c12 ?_
    refine r_iconst hX (p2 := 50) rfl rfl rfl ?_
    obtain ⟨c13, h⟩ := ck_some h
    refine r_isub hX (p2 := 51) rfl rfl c13 ?_
    refine r_bipush hX (p2 := 53) rfl rfl rfl ?_
    refine r_icmp hX (p2 := 58) (p3 := 56) (P := ((a2 + v4) - 1) ≤ 12) rfl (by decide) rfl rfl (fun p15 => ?_) (fun p15 => ?_)
    · have h := it_pos h p15
      refine r_iload_n hX (p2 := 59) rfl rfl rfl ?_
      refine r_istore hX (p2 := 61) (ls2 := [some (vR (cc 6 0)), some (vI a1), some (vI a2), some (vI a3), some (vI v4), some (vI v9), some (vI a2), none]) rfl rfl rfl rfl ?_
      refine t_X6_isFree_61 xs e q X hX _ (fun d0 d1 d2 d3 d4 d5 d6 d7 s14 h => ?_) 400 a2 a3 v4 v9 a2 (some (vI a1)) none s h
      refine r_iconst hX (p2 := 117) rfl rfl rfl ?_
      exact r_iretZ hX rfl rfl (Or.inr rfl) (eI_ok h)
    · have h := it_neg h p15
      exact t_X6_isFree_56 xs e q X hX (some (vR (cc 6 0))) (some (vI a1)) (some (vI a2)) (some (vI a3)) (some (vI v4)) (some (vI v9)) none none s h
noncomputable def f_X6_inLine_92 (K4 : Int → Int → Int → pS → Option (pS)) (K98 : Int → Int → pS → Option (pS)) (x1 : Int) (x2 : Int) (x3 : Int) (s : pS) : Option (pS) := ck (inR (x3 + 1)) (K4 x1 x2 (x3 + 1) s)
set_option maxRecDepth 10000 in
theorem t_X6_inLine_92 (xs : Nat → Int) (e : Nat) (q : pS) (X : List (Option pV) → List pV → Nat → pH → Prop) (hX : pm_clo 1001 xs (pCall pm_tx 1001 xs pm_P (e + 1)) (e + 1) mX6_inLine (eU q) X) (K4 : Int → Int → Int → pS → Option (pS)) (K98 : Int → Int → pS → Option (pS)) (hK4 : ∀ (x1 : Int) (x2 : Int) (x3 : Int) (d4 : Option pV) (s : pS), K4 x1 x2 x3 s = some q → X [some (vR (cc 6 0)), some (vI x1), some (vI x2), some (vI x3), d4] [] 4 (pW s)) (hK98 : ∀ (x1 : Int) (x2 : Int) (d3 : Option pV) (d4 : Option pV) (s : pS), K98 x1 x2 s = some q → X [some (vR (cc 6 0)), some (vI x1), some (vI x2), d3, d4] [] 98 (pW s)) : ∀  (x1 : Int) (x2 : Int) (x3 : Int) (d4 : Option pV) (s : pS), f_X6_inLine_92 K4 K98 x1 x2 x3 s = some q → X [some (vR (cc 6 0)), some (vI x1), some (vI x2), some (vI x3), d4] [] 92 (pW s) := by
  intro x1 x2 x3 d4 s h
  unfold f_X6_inLine_92 at h
  obtain ⟨c1, h⟩ := ck_some h
  refine r_iinc hX (p2 := 95) (ls2 := [some (vR (cc 6 0)), some (vI x1), some (vI x2), some (vI (x3 + 1)), d4]) rfl rfl rfl rfl c1 rfl ?_
  refine r_goto hX (p2 := 4) rfl (by decide) ?_
  exact hK4 x1 x2 (x3 + 1) d4 s h
noncomputable def f_X6_inLine_46 (K4 : Int → Int → Int → pS → Option (pS)) (K98 : Int → Int → pS → Option (pS)) (x1 : Int) (x2 : Int) (x3 : Int) (y0 : Int) (s : pS) : Option (pS) := (if y0 = 0 then f_X6_inLine_92 K4 K98 x1 x2 x3 s else (if (sI s 625 0) ≠ 0 then f_X6_inLine_92 K4 K98 x1 x2 x3 s else ck (inR (2 * x3)) (ck (inR ((2 * x3) + 1)) (ck (inR (((2 * x3) + 1) - (sI s 624 0))) (ck (0 ≤ (((2 * x3) + 1) - (sI s 624 0)) ∧ (((2 * x3) + 1) - (sI s 624 0)) < 20) (ck (inR (2 * x3)) (ck (inR ((2 * x3) + 1)) (ck (inR (((2 * x3) + 1) - (sI s 624 0))) (ck (0 ≤ (((2 * x3) + 1) - (sI s 624 0)) ∧ (((2 * x3) + 1) - (sI s 624 0)) < 20) (ck (inR ((sA s 631 0 (((2 * x3) + 1) - (sI s 624 0)).toNat) + (sA s 621 0 (((2 * x3) + 1) - (sI s 624 0)).toNat))) (bs (((sA s 631 0 (((2 * x3) + 1) - (sI s 624 0)).toNat) + (sA s 621 0 (((2 * x3) + 1) - (sI s 624 0)).toNat))) (fun v10 => f_X6_inLine_92 K4 K98 x1 v10 x3 s))))))))))))
set_option maxRecDepth 10000 in
theorem t_X6_inLine_46 (xs : Nat → Int) (e : Nat) (q : pS) (X : List (Option pV) → List pV → Nat → pH → Prop) (hX : pm_clo 1001 xs (pCall pm_tx 1001 xs pm_P (e + 1)) (e + 1) mX6_inLine (eU q) X) (K4 : Int → Int → Int → pS → Option (pS)) (K98 : Int → Int → pS → Option (pS)) (hK4 : ∀ (x1 : Int) (x2 : Int) (x3 : Int) (d4 : Option pV) (s : pS), K4 x1 x2 x3 s = some q → X [some (vR (cc 6 0)), some (vI x1), some (vI x2), some (vI x3), d4] [] 4 (pW s)) (hK98 : ∀ (x1 : Int) (x2 : Int) (d3 : Option pV) (d4 : Option pV) (s : pS), K98 x1 x2 s = some q → X [some (vR (cc 6 0)), some (vI x1), some (vI x2), d3, d4] [] 98 (pW s)) : ∀  (x1 : Int) (x2 : Int) (x3 : Int) (y0 : Int) (d4 : Option pV) (s : pS), f_X6_inLine_46 K4 K98 x1 x2 x3 y0 s = some q → X [some (vR (cc 6 0)), some (vI x1), some (vI x2), some (vI x3), d4] [vI y0] 46 (pW s) := by
  intro x1 x2 x3 y0 d4 s h
  unfold f_X6_inLine_46 at h
  refine r_istore hX (p2 := 48) (ls2 := [some (vR (cc 6 0)), some (vI x1), some (vI x2), some (vI x3), some (vI y0)]) rfl rfl rfl rfl ?_
  refine r_iload hX (p2 := 50) rfl rfl rfl ?_
  refine r_if hX (p2 := 92) (p3 := 53) (P := y0 = 0) rfl (by decide) rfl rfl (fun p12 => ?_) (fun p12 => ?_)
  · have h := it_pos h p12
    exact t_X6_inLine_92 xs e q X hX _ _ hK4 hK98 x1 x2 x3 (some (vI y0)) s h
  · have h := it_neg h p12
    refine r_aload_n hX (p2 := 54) rfl rfl rfl ⟨_, Or.inl rfl⟩ ?_
    refine r_gf hX (p2 := 57) (v := vI (sI s 625 0)) rfl rfl (hc6 0 (by decide)) rfl rfl rfl ?_
    refine r_if hX (p2 := 92) (p3 := 60) (P := (sI s 625 0) ≠ 0) rfl (by decide) rfl rfl (fun p11 => ?_) (fun p11 => ?_)
    · have h := it_pos h p11
      exact t_X6_inLine_92 xs e q X hX _ _ hK4 hK98 x1 x2 x3 (some (vI y0)) s h
    · have h := it_neg h p11
      refine r_aload_n hX (p2 := 61) rfl rfl rfl ⟨_, Or.inl rfl⟩ ?_
      refine r_gf hX (p2 := 64) (v := vR (ca 631 0)) rfl rfl (hc6 0 (by decide)) rfl rfl rfl ?_
      refine r_iconst hX (p2 := 65) rfl rfl rfl ?_
      refine r_iload_n hX (p2 := 66) rfl rfl rfl ?_
      obtain ⟨c1, h⟩ := ck_some h
      refine r_imul hX (p2 := 67) rfl rfl c1 ?_
      refine r_iconst hX (p2 := 68) rfl rfl rfl ?_
      obtain ⟨c2, h⟩ := ck_some h
      refine r_iadd hX (p2 := 69) rfl rfl c2 ?_
      refine r_aload_n hX (p2 := 70) rfl rfl rfl ⟨_, Or.inl rfl⟩ ?_
      refine r_gf hX (p2 := 73) (v := vI (sI s 624 0)) rfl rfl (hc6 0 (by decide)) rfl rfl rfl ?_
      obtain ⟨c3, h⟩ := ck_some h
      refine r_isub hX (p2 := 74) rfl rfl c3 ?_
      obtain ⟨c4, h⟩ := ck_some h
      refine r_iaload hX (p2 := 75) (j := (((2 * x3) + 1) - (sI s 624 0)).toNat) rfl rfl (ha631 0 (by decide)) rfl rfl c4 rfl ?_
      refine r_aload_n hX (p2 := 76) rfl rfl rfl ⟨_, Or.inl rfl⟩ ?_
      refine r_gf hX (p2 := 79) (v := vR (ca 621 0)) rfl rfl (hc6 0 (by decide)) rfl rfl rfl ?_
      refine r_iconst hX (p2 := 80) rfl rfl rfl ?_
      refine r_iload_n hX (p2 := 81) rfl rfl rfl ?_
      obtain ⟨c5, h⟩ := ck_some h
      refine r_imul hX (p2 := 82) rfl rfl c5 ?_
      refine r_iconst hX (p2 := 83) rfl rfl rfl ?_
      obtain ⟨c6, h⟩ := ck_some h
      refine r_iadd hX (p2 := 84) rfl rfl c6 ?_
      refine r_aload_n hX (p2 := 85) rfl rfl rfl ⟨_, Or.inl rfl⟩ ?_
      refine r_gf hX (p2 := 88) (v := vI (sI s 624 0)) rfl rfl (hc6 0 (by decide)) rfl rfl rfl ?_
      obtain ⟨c7, h⟩ := ck_some h
      refine r_isub hX (p2 := 89) rfl rfl c7 ?_
      obtain ⟨c8, h⟩ := ck_some h
      refine r_iaload hX (p2 := 90) (j := (((2 * x3) + 1) - (sI s 624 0)).toNat) rfl rfl (ha621 0 (by decide)) rfl rfl c8 rfl ?_
      obtain ⟨c9, h⟩ := ck_some h
      refine r_iadd hX (p2 := 91) rfl rfl c9 ?_
      obtain ⟨v10, hv10, h⟩ := bs_some h
      refine r_istoreE_n hX (p2 := 92) (ls2 := [some (vR (cc 6 0)), some (vI x1), some (vI v10), some (vI x3), some (vI y0)]) rfl rfl hv10 rfl rfl ?_
      exact t_X6_inLine_92 xs e q X hX _ _ hK4 hK98 x1 v10 x3 (some (vI y0)) s h
noncomputable def f_X6_inLine_45 (K4 : Int → Int → Int → pS → Option (pS)) (K98 : Int → Int → pS → Option (pS)) (x1 : Int) (x2 : Int) (x3 : Int) (s : pS) : Option (pS) := f_X6_inLine_46 K4 K98 x1 x2 x3 0 s
set_option maxRecDepth 10000 in
theorem t_X6_inLine_45 (xs : Nat → Int) (e : Nat) (q : pS) (X : List (Option pV) → List pV → Nat → pH → Prop) (hX : pm_clo 1001 xs (pCall pm_tx 1001 xs pm_P (e + 1)) (e + 1) mX6_inLine (eU q) X) (K4 : Int → Int → Int → pS → Option (pS)) (K98 : Int → Int → pS → Option (pS)) (hK4 : ∀ (x1 : Int) (x2 : Int) (x3 : Int) (d4 : Option pV) (s : pS), K4 x1 x2 x3 s = some q → X [some (vR (cc 6 0)), some (vI x1), some (vI x2), some (vI x3), d4] [] 4 (pW s)) (hK98 : ∀ (x1 : Int) (x2 : Int) (d3 : Option pV) (d4 : Option pV) (s : pS), K98 x1 x2 s = some q → X [some (vR (cc 6 0)), some (vI x1), some (vI x2), d3, d4] [] 98 (pW s)) : ∀  (x1 : Int) (x2 : Int) (x3 : Int) (d4 : Option pV) (s : pS), f_X6_inLine_45 K4 K98 x1 x2 x3 s = some q → X [some (vR (cc 6 0)), some (vI x1), some (vI x2), some (vI x3), d4] [] 45 (pW s) := by
  intro x1 x2 x3 d4 s h
  unfold f_X6_inLine_45 at h
  refine r_iconst hX (p2 := 46) rfl rfl rfl ?_
  exact t_X6_inLine_46 xs e q X hX _ _ hK4 hK98 x1 x2 x3 0 d4 s h
noncomputable def f_X6_inLine_4 (K98 : Int → Int → pS → Option (pS)) : Nat → Int → Int → Int → pS → Option (pS)
  | 0, _, _, _, _ => none
  | n + 1, x1, x2, x3, s => (if x1 ≤ x3 then K98 x1 x2 s else (f_X6_mainStart x3 s).bind (fun q1 => (f_X6_mainStart x1 q1.2).bind (fun q2 => (if q1.1 ≠ q2.1 then f_X6_inLine_45 (f_X6_inLine_4 K98 n) K98 x1 x2 x3 q2.2 else (f_X6_otherStart x3 q2.2).bind (fun q3 => (if q3.1 ≠ 0 then f_X6_inLine_45 (f_X6_inLine_4 K98 n) K98 x1 x2 x3 q3.2 else ck (inR (2 * x3)) (ck (0 ≤ (2 * x3) ∧ (2 * x3) < 20) ((if (sA q3.2 631 0 (2 * x3).toNat) ≤ 0 then f_X6_inLine_45 (f_X6_inLine_4 K98 n) K98 x1 x2 x3 q3.2 else f_X6_inLine_46 (f_X6_inLine_4 K98 n) K98 x1 x2 x3 1 q3.2)))))))))
set_option maxRecDepth 10000 in
theorem t_X6_inLine_4 (xs : Nat → Int) (e : Nat) (q : pS) (X : List (Option pV) → List pV → Nat → pH → Prop) (hX : pm_clo 1001 xs (pCall pm_tx 1001 xs pm_P (e + 1)) (e + 1) mX6_inLine (eU q) X) (K98 : Int → Int → pS → Option (pS)) (hK98 : ∀ (x1 : Int) (x2 : Int) (d3 : Option pV) (d4 : Option pV) (s : pS), K98 x1 x2 s = some q → X [some (vR (cc 6 0)), some (vI x1), some (vI x2), d3, d4] [] 98 (pW s)) : ∀ (n : Nat) (x1 : Int) (x2 : Int) (x3 : Int) (d4 : Option pV) (s : pS), f_X6_inLine_4 K98 n x1 x2 x3 s = some q → X [some (vR (cc 6 0)), some (vI x1), some (vI x2), some (vI x3), d4] [] 4 (pW s) := by
  intro n
  induction n with
  | zero =>
    intro x1 x2 x3 d4 s h
    rw [f_X6_inLine_4] at h
    cases h
  | succ n ih =>
    intro x1 x2 x3 d4 s h
    rw [f_X6_inLine_4] at h
    refine r_iload_n hX (p2 := 5) rfl rfl rfl ?_
    refine r_iload_n hX (p2 := 6) rfl rfl rfl ?_
    refine r_icmp hX (p2 := 98) (p3 := 9) (P := x1 ≤ x3) rfl (by decide) rfl rfl (fun p9 => ?_) (fun p9 => ?_)
    · have h := it_pos h p9
      exact hK98 x1 x2 (some (vI x3)) d4 s h
    · have h := it_neg h p9
      refine r_aload_n hX (p2 := 10) rfl rfl rfl ⟨_, Or.inl rfl⟩ ?_
      refine r_iload_n hX (p2 := 11) rfl rfl rfl ?_
      obtain ⟨q1, hq1, h⟩ := bd_some h
      refine r_callv hX (p2 := 14) (v := some (vI q1.1)) (as := [vI x3]) (r := []) (st2 := [vI q1.1]) rfl rfl rfl rfl rfl (hc6 0 (by decide)) rfl rfl (c_X6_mainStart xs e x3 s q1 hq1) ?_
      refine r_aload_n hX (p2 := 15) rfl rfl rfl ⟨_, Or.inl rfl⟩ ?_
      refine r_iload_n hX (p2 := 16) rfl rfl rfl ?_
      obtain ⟨q2, hq2, h⟩ := bd_some h
      refine r_callv hX (p2 := 19) (v := some (vI q2.1)) (as := [vI x1]) (r := [vI q1.1]) (st2 := [vI q2.1, vI q1.1]) rfl rfl rfl rfl rfl (hc6 0 (by decide)) rfl rfl (c_X6_mainStart xs e x1 q1.2 q2 hq2) ?_
      refine r_icmp hX (p2 := 45) (p3 := 22) (P := q1.1 ≠ q2.1) rfl (by decide) rfl rfl (fun p8 => ?_) (fun p8 => ?_)
      · have h := it_pos h p8
        exact t_X6_inLine_45 xs e q X hX _ _ ih hK98 x1 x2 x3 d4 q2.2 h
      · have h := it_neg h p8
        refine r_aload_n hX (p2 := 23) rfl rfl rfl ⟨_, Or.inl rfl⟩ ?_
        refine r_iload_n hX (p2 := 24) rfl rfl rfl ?_
        obtain ⟨q3, hq3, h⟩ := bd_some h
        refine r_callv hX (p2 := 27) (v := some (vI q3.1)) (as := [vI x3]) (r := []) (st2 := [vI q3.1]) rfl rfl rfl rfl rfl (hc6 0 (by decide)) rfl rfl (c_X6_otherStart xs e x3 q2.2 q3 hq3) ?_
        refine r_if hX (p2 := 45) (p3 := 30) (P := q3.1 ≠ 0) rfl (by decide) rfl rfl (fun p7 => ?_) (fun p7 => ?_)
        · have h := it_pos h p7
          exact t_X6_inLine_45 xs e q X hX _ _ ih hK98 x1 x2 x3 d4 q3.2 h
        · have h := it_neg h p7
          refine r_aload_n hX (p2 := 31) rfl rfl rfl ⟨_, Or.inl rfl⟩ ?_
          refine r_gf hX (p2 := 34) (v := vR (ca 631 0)) rfl rfl (hc6 0 (by decide)) rfl rfl rfl ?_
          refine r_iconst hX (p2 := 35) rfl rfl rfl ?_
          refine r_iload_n hX (p2 := 36) rfl rfl rfl ?_
          obtain ⟨c4, h⟩ := ck_some h
          refine r_imul hX (p2 := 37) rfl rfl c4 ?_
          obtain ⟨c5, h⟩ := ck_some h
          refine r_iaload hX (p2 := 38) (j := (2 * x3).toNat) rfl rfl (ha631 0 (by decide)) rfl rfl c5 rfl ?_
          refine r_if hX (p2 := 45) (p3 := 41) (P := (sA q3.2 631 0 (2 * x3).toNat) ≤ 0) rfl (by decide) rfl rfl (fun p6 => ?_) (fun p6 => ?_)
          · have h := it_pos h p6
            exact t_X6_inLine_45 xs e q X hX _ _ ih hK98 x1 x2 x3 d4 q3.2 h
          · have h := it_neg h p6
            refine r_iconst hX (p2 := 42) rfl rfl rfl ?_
            refine r_goto hX (p2 := 46) rfl (by decide) ?_
            exact t_X6_inLine_46 xs e q X hX _ _ ih hK98 x1 x2 x3 1 d4 q3.2 h
noncomputable def f_X6_inLine_100 (K140 : pS → Option (pS)) : Nat → Int → Int → pS → Option (pS)
  | 0, _, _, _ => none
  | n + 1, x1, x3, s => (if (sI s 640 0) < x3 then K140 s else (f_X6_mainStart x1 s).bind (fun q1 => (f_X6_isFree x1 q1.1 x3 q1.2).bind (fun q2 => (if q2.1 = 0 then ck (inR (x3 + 1)) (f_X6_inLine_100 K140 n x1 (x3 + 1) q2.2) else (f_X6_mainStart x1 q2.2).bind (fun q4 => (f_X6_stand x1 q4.1 x3 q4.2).bind (fun q5 => some q5))))))
set_option maxRecDepth 10000 in
theorem t_X6_inLine_100 (xs : Nat → Int) (e : Nat) (q : pS) (X : List (Option pV) → List pV → Nat → pH → Prop) (hX : pm_clo 1001 xs (pCall pm_tx 1001 xs pm_P (e + 1)) (e + 1) mX6_inLine (eU q) X) (K140 : pS → Option (pS)) (hK140 : ∀ (d0 : Option pV) (d1 : Option pV) (d2 : Option pV) (d3 : Option pV) (d4 : Option pV) (s : pS), K140 s = some q → X [d0, d1, d2, d3, d4] [] 140 (pW s)) : ∀ (n : Nat) (x1 : Int) (x3 : Int) (d2 : Option pV) (d4 : Option pV) (hd2 : pm_nc d2) (s : pS), f_X6_inLine_100 K140 n x1 x3 s = some q → X [some (vR (cc 6 0)), some (vI x1), d2, some (vI x3), d4] [] 100 (pW s) := by
  intro n
  induction n with
  | zero =>
    intro x1 x3 d2 d4 hd2 s h
    rw [f_X6_inLine_100] at h
    cases h
  | succ n ih =>
    intro x1 x3 d2 d4 hd2 s h
    rw [f_X6_inLine_100] at h
    refine r_iload_n hX (p2 := 101) rfl rfl rfl ?_
    refine r_aload_n hX (p2 := 102) rfl rfl rfl ⟨_, Or.inl rfl⟩ ?_
    refine r_gf hX (p2 := 105) (v := vI (sI s 640 0)) rfl rfl (hc6 0 (by decide)) rfl rfl rfl ?_
    refine r_icmp hX (p2 := 140) (p3 := 108) (P := (sI s 640 0) < x3) rfl (by decide) rfl rfl (fun p7 => ?_) (fun p7 => ?_)
    · have h := it_pos h p7
      exact hK140 (some (vR (cc 6 0))) (some (vI x1)) d2 (some (vI x3)) d4 s h
    · have h := it_neg h p7
      refine r_aload_n hX (p2 := 109) rfl rfl rfl ⟨_, Or.inl rfl⟩ ?_
      refine r_iload_n hX (p2 := 110) rfl rfl rfl ?_
      refine r_aload_n hX (p2 := 111) rfl rfl rfl ⟨_, Or.inl rfl⟩ ?_
      refine r_iload_n hX (p2 := 112) rfl rfl rfl ?_
      obtain ⟨q1, hq1, h⟩ := bd_some h
      refine r_callv hX (p2 := 115) (v := some (vI q1.1)) (as := [vI x1]) (r := [vI x1, vR (cc 6 0)]) (st2 := [vI q1.1, vI x1, vR (cc 6 0)]) rfl rfl rfl rfl rfl (hc6 0 (by decide)) rfl rfl (c_X6_mainStart xs e x1 s q1 hq1) ?_
      refine r_iload_n hX (p2 := 116) rfl rfl rfl ?_
      obtain ⟨q2, hq2, h⟩ := bd_some h
      refine r_callv hX (p2 := 119) (v := some (vI q2.1)) (as := [vI x1, vI q1.1, vI x3]) (r := []) (st2 := [vI q2.1]) rfl rfl rfl rfl rfl (hc6 0 (by decide)) rfl rfl (c_X6_isFree xs e x1 q1.1 x3 q1.2 q2 hq2) ?_
      refine r_if hX (p2 := 134) (p3 := 122) (P := q2.1 = 0) rfl (by decide) rfl rfl (fun p6 => ?_) (fun p6 => ?_)
      · have h := it_pos h p6
        obtain ⟨c3, h⟩ := ck_some h
        refine r_iinc hX (p2 := 137) (ls2 := [some (vR (cc 6 0)), some (vI x1), d2, some (vI (x3 + 1)), d4]) rfl rfl rfl rfl c3 (st1_nc rfl hd2 rfl) ?_
        refine r_goto hX (p2 := 100) rfl (by decide) ?_
        exact ih x1 (x3 + 1) d2 d4 hd2 q2.2 h
      · have h := it_neg h p6
        refine r_aload_n hX (p2 := 123) rfl rfl rfl ⟨_, Or.inl rfl⟩ ?_
        refine r_iload_n hX (p2 := 124) rfl rfl rfl ?_
        refine r_aload_n hX (p2 := 125) rfl rfl rfl ⟨_, Or.inl rfl⟩ ?_
        refine r_iload_n hX (p2 := 126) rfl rfl rfl ?_
        obtain ⟨q4, hq4, h⟩ := bd_some h
        refine r_callv hX (p2 := 129) (v := some (vI q4.1)) (as := [vI x1]) (r := [vI x1, vR (cc 6 0)]) (st2 := [vI q4.1, vI x1, vR (cc 6 0)]) rfl rfl rfl rfl rfl (hc6 0 (by decide)) rfl rfl (c_X6_mainStart xs e x1 q2.2 q4 hq4) ?_
        refine r_iload_n hX (p2 := 130) rfl rfl rfl ?_
        obtain ⟨q5, hq5, h⟩ := bd_some h
        refine r_callv hX (p2 := 133) (v := none) (as := [vI x1, vI q4.1, vI x3]) (r := []) (st2 := []) rfl rfl rfl rfl rfl (hc6 0 (by decide)) rfl rfl (c_X6_stand xs e x1 q4.1 x3 q4.2 q5 hq5) ?_
        exact r_return hX rfl rfl (eU_ok h)
noncomputable def f_X6_inLine (a1 : Int) (s : pS) : Option (pS) := f_X6_inLine_4 (fun x1 x2 s1 => f_X6_inLine_100 (fun s2 => some s2) 400 x1 x2 s1) 400 a1 1 0 s
set_option maxRecDepth 10000 in
theorem c_X6_inLine (xs : Nat → Int) (e : Nat) (a1 : Int) (s : pS) (q : pS) (h : f_X6_inLine a1 s = some q) : pCall pm_tx 1001 xs pm_P (e + 1 + 1) 135 [vR (cc 6 0), vI a1] (pW s) (.inl none) (pW q) := by
  refine pCall_of mX6_inLine rfl rfl (fun X hX => ?_)
  show X [some (vR (cc 6 0)), some (vI a1), none, none, none] [] 0 (pW s)
  replace hX : pm_clo 1001 xs (pCall pm_tx 1001 xs pm_P (e + 1)) (e + 1) mX6_inLine (eU q) X := hX
  unfold f_X6_inLine at h
  refine r_iconst hX (p2 := 1) rfl rfl rfl ?_
  refine r_istore_n hX (p2 := 2) (ls2 := [some (vR (cc 6 0)), some (vI a1), some (vI 1), none, none]) rfl rfl rfl rfl ?_
  refine r_iconst hX (p2 := 3) rfl rfl rfl ?_
  refine r_istore_n hX (p2 := 4) (ls2 := [some (vR (cc 6 0)), some (vI a1), some (vI 1), some (vI 0), none]) rfl rfl rfl rfl ?_
  refine t_X6_inLine_4 xs e q X hX _ (fun x1 x2 d3 d4 s1 h => ?_) 400 a1 1 0 none s h
  refine r_iload_n hX (p2 := 99) rfl rfl rfl ?_
  refine r_istore_n hX (p2 := 100) (ls2 := [some (vR (cc 6 0)), some (vI x1), some (vI x2), some (vI x2), d4]) rfl rfl rfl rfl ?_
  refine t_X6_inLine_100 xs e q X hX _ (fun d0 d1 d2 d3 d4 s2 h => ?_) 400 x1 x2 (some (vI x2)) d4 rfl s1 h
  exact r_return hX rfl rfl (eU_ok h)
noncomputable def f_X6_byItself_50 (K111 : Int → Int → Int → pS → Option (pS)) : Nat → Int → Int → Int → pS → Option (pS)
  | 0, _, _, _, _ => none
  | n + 1, x1, x3, x4, s => (if 12 < x3 then K111 x1 x3 x4 s else (f_X6_isFree x1 x3 x4 s).bind (fun q1 => (if q1.1 ≠ 0 then K111 x1 x3 x4 q1.2 else ck (inR (x3 + 1)) (f_X6_byItself_50 K111 n x1 (x3 + 1) x4 q1.2))))
set_option maxRecDepth 10000 in
theorem t_X6_byItself_50 (xs : Nat → Int) (e : Nat) (q : pS) (X : List (Option pV) → List pV → Nat → pH → Prop) (hX : pm_clo 1001 xs (pCall pm_tx 1001 xs pm_P (e + 1)) (e + 1) mX6_byItself (eU q) X) (K111 : Int → Int → Int → pS → Option (pS)) (hK111 : ∀ (x1 : Int) (x3 : Int) (x4 : Int) (d2 : Option pV) (s : pS), K111 x1 x3 x4 s = some q → X [some (vR (cc 6 0)), some (vI x1), d2, some (vI x3), some (vI x4)] [] 111 (pW s)) : ∀ (n : Nat) (x1 : Int) (x3 : Int) (x4 : Int) (d2 : Option pV) (hd2 : pm_nc d2) (s : pS), f_X6_byItself_50 K111 n x1 x3 x4 s = some q → X [some (vR (cc 6 0)), some (vI x1), d2, some (vI x3), some (vI x4)] [] 50 (pW s) := by
  intro n
  induction n with
  | zero =>
    intro x1 x3 x4 d2 hd2 s h
    rw [f_X6_byItself_50] at h
    cases h
  | succ n ih =>
    intro x1 x3 x4 d2 hd2 s h
    rw [f_X6_byItself_50] at h
    refine r_iload_n hX (p2 := 51) rfl rfl rfl ?_
    refine r_bipush hX (p2 := 53) rfl rfl rfl ?_
    refine r_icmp hX (p2 := 111) (p3 := 56) (P := 12 < x3) rfl (by decide) rfl rfl (fun p4 => ?_) (fun p4 => ?_)
    · have h := it_pos h p4
      exact hK111 x1 x3 x4 d2 s h
    · have h := it_neg h p4
      refine r_aload_n hX (p2 := 57) rfl rfl rfl ⟨_, Or.inl rfl⟩ ?_
      refine r_iload_n hX (p2 := 58) rfl rfl rfl ?_
      refine r_iload_n hX (p2 := 59) rfl rfl rfl ?_
      refine r_iload hX (p2 := 61) rfl rfl rfl ?_
      obtain ⟨q1, hq1, h⟩ := bd_some h
      refine r_callv hX (p2 := 64) (v := some (vI q1.1)) (as := [vI x1, vI x3, vI x4]) (r := []) (st2 := [vI q1.1]) rfl rfl rfl rfl rfl (hc6 0 (by decide)) rfl rfl (c_X6_isFree xs e x1 x3 x4 s q1 hq1) ?_
      refine r_if hX (p2 := 111) (p3 := 67) (P := q1.1 ≠ 0) rfl (by decide) rfl rfl (fun p3 => ?_) (fun p3 => ?_)
      · have h := it_pos h p3
        exact hK111 x1 x3 x4 d2 q1.2 h
      · have h := it_neg h p3
        obtain ⟨c2, h⟩ := ck_some h
        refine r_iinc hX (p2 := 70) (ls2 := [some (vR (cc 6 0)), some (vI x1), d2, some (vI (x3 + 1)), some (vI x4)]) rfl rfl rfl rfl c2 (st1_nc rfl hd2 rfl) ?_
        refine r_goto hX (p2 := 50) rfl (by decide) ?_
        exact ih x1 (x3 + 1) x4 d2 hd2 q1.2 h
noncomputable def f_X6_byItself_111 (x1 : Int) (x3 : Int) (x4 : Int) (s : pS) : Option (pS) := (if x3 ≤ 12 then (f_X6_stand x1 x3 x4 s).bind (fun q1 => bs (wI q1 641 0 x3) (fun s2 => bs (wI s2 642 0 x4) (fun s3 => some s3))) else some s)
set_option maxRecDepth 10000 in
theorem t_X6_byItself_111 (xs : Nat → Int) (e : Nat) (q : pS) (X : List (Option pV) → List pV → Nat → pH → Prop) (hX : pm_clo 1001 xs (pCall pm_tx 1001 xs pm_P (e + 1)) (e + 1) mX6_byItself (eU q) X) : ∀  (x1 : Int) (x3 : Int) (x4 : Int) (d2 : Option pV) (s : pS), f_X6_byItself_111 x1 x3 x4 s = some q → X [some (vR (cc 6 0)), some (vI x1), d2, some (vI x3), some (vI x4)] [] 111 (pW s) := by
  intro x1 x3 x4 d2 s h
  unfold f_X6_byItself_111 at h
  refine r_iload_n hX (p2 := 112) rfl rfl rfl ?_
  refine r_bipush hX (p2 := 114) rfl rfl rfl ?_
  refine r_icmp hX (p2 := 118) (p3 := 117) (P := x3 ≤ 12) rfl (by decide) rfl rfl (fun p4 => ?_) (fun p4 => ?_)
  · have h := it_pos h p4
    refine r_aload_n hX (p2 := 119) rfl rfl rfl ⟨_, Or.inl rfl⟩ ?_
    refine r_iload_n hX (p2 := 120) rfl rfl rfl ?_
    refine r_iload_n hX (p2 := 121) rfl rfl rfl ?_
    refine r_iload hX (p2 := 123) rfl rfl rfl ?_
    obtain ⟨q1, hq1, h⟩ := bd_some h
    refine r_callv hX (p2 := 126) (v := none) (as := [vI x1, vI x3, vI x4]) (r := []) (st2 := []) rfl rfl rfl rfl rfl (hc6 0 (by decide)) rfl rfl (c_X6_stand xs e x1 x3 x4 s q1 hq1) ?_
    refine r_aload_n hX (p2 := 127) rfl rfl rfl ⟨_, Or.inl rfl⟩ ?_
    refine r_iload_n hX (p2 := 128) rfl rfl rfl ?_
    obtain ⟨s2, hs2, h⟩ := bs_some h
    refine r_pfI hX (p2 := 131) rfl rfl (hc6 0 (by decide)) rfl rfl rfl rfl rfl rfl hs2 ?_
    refine r_aload_n hX (p2 := 132) rfl rfl rfl ⟨_, Or.inl rfl⟩ ?_
    refine r_iload hX (p2 := 134) rfl rfl rfl ?_
    obtain ⟨s3, hs3, h⟩ := bs_some h
    refine r_pfI hX (p2 := 137) rfl rfl (hc6 0 (by decide)) rfl rfl rfl rfl rfl rfl hs3 ?_
    exact r_return hX rfl rfl (eU_ok h)
  · have h := it_neg h p4
    exact r_return hX rfl rfl (eU_ok h)
noncomputable def f_X6_byItself_47 (x1 : Int) (x2 : Int) (x3 : Int) (s : pS) : Option (pS) := f_X6_byItself_50 (fun x1 x3 x4 s1 => f_X6_byItself_111 x1 x3 x4 s1) 400 x1 x3 x2 s
set_option maxRecDepth 10000 in
theorem t_X6_byItself_47 (xs : Nat → Int) (e : Nat) (q : pS) (X : List (Option pV) → List pV → Nat → pH → Prop) (hX : pm_clo 1001 xs (pCall pm_tx 1001 xs pm_P (e + 1)) (e + 1) mX6_byItself (eU q) X) : ∀  (x1 : Int) (x2 : Int) (x3 : Int) (d4 : Option pV) (s : pS), f_X6_byItself_47 x1 x2 x3 s = some q → X [some (vR (cc 6 0)), some (vI x1), some (vI x2), some (vI x3), d4] [] 47 (pW s) := by
  intro x1 x2 x3 d4 s h
  unfold f_X6_byItself_47 at h
  refine r_iload_n hX (p2 := 48) rfl rfl rfl ?_
  refine r_istore hX (p2 := 50) (ls2 := [some (vR (cc 6 0)), some (vI x1), some (vI x2), some (vI x3), some (vI x2)]) rfl rfl rfl rfl ?_
  refine t_X6_byItself_50 xs e q X hX _ (fun x1 x3 x4 d2 s1 h => ?_) 400 x1 x3 x2 (some (vI x2)) rfl s h
  exact t_X6_byItself_111 xs e q X hX x1 x3 x4 d2 s1 h
noncomputable def f_X6_byItself_73 (K111 : Int → Int → Int → pS → Option (pS)) : Nat → Int → Int → Int → pS → Option (pS)
  | 0, _, _, _, _ => none
  | n + 1, x1, x3, x4, s => (if 12 < x3 then K111 x1 x3 x4 s else (f_X6_isFree x1 x3 x4 s).bind (fun q1 => (if q1.1 ≠ 0 then K111 x1 x3 x4 q1.2 else ck (inR (x4 + 1)) ((if (x4 + 1) ≤ (sI q1.2 640 0) then f_X6_byItself_73 K111 n x1 x3 (x4 + 1) q1.2 else ck (inR (x3 + 1)) (f_X6_byItself_73 K111 n x1 (x3 + 1) 1 q1.2))))))
set_option maxRecDepth 10000 in
theorem t_X6_byItself_73 (xs : Nat → Int) (e : Nat) (q : pS) (X : List (Option pV) → List pV → Nat → pH → Prop) (hX : pm_clo 1001 xs (pCall pm_tx 1001 xs pm_P (e + 1)) (e + 1) mX6_byItself (eU q) X) (K111 : Int → Int → Int → pS → Option (pS)) (hK111 : ∀ (x1 : Int) (x3 : Int) (x4 : Int) (d2 : Option pV) (s : pS), K111 x1 x3 x4 s = some q → X [some (vR (cc 6 0)), some (vI x1), d2, some (vI x3), some (vI x4)] [] 111 (pW s)) : ∀ (n : Nat) (x1 : Int) (x3 : Int) (x4 : Int) (d2 : Option pV) (hd2 : pm_nc d2) (s : pS), f_X6_byItself_73 K111 n x1 x3 x4 s = some q → X [some (vR (cc 6 0)), some (vI x1), d2, some (vI x3), some (vI x4)] [] 73 (pW s) := by
  intro n
  induction n with
  | zero =>
    intro x1 x3 x4 d2 hd2 s h
    rw [f_X6_byItself_73] at h
    cases h
  | succ n ih =>
    intro x1 x3 x4 d2 hd2 s h
    rw [f_X6_byItself_73] at h
    refine r_iload_n hX (p2 := 74) rfl rfl rfl ?_
    refine r_bipush hX (p2 := 76) rfl rfl rfl ?_
    refine r_icmp hX (p2 := 111) (p3 := 79) (P := 12 < x3) rfl (by decide) rfl rfl (fun p6 => ?_) (fun p6 => ?_)
    · have h := it_pos h p6
      exact hK111 x1 x3 x4 d2 s h
    · have h := it_neg h p6
      refine r_aload_n hX (p2 := 80) rfl rfl rfl ⟨_, Or.inl rfl⟩ ?_
      refine r_iload_n hX (p2 := 81) rfl rfl rfl ?_
      refine r_iload_n hX (p2 := 82) rfl rfl rfl ?_
      refine r_iload hX (p2 := 84) rfl rfl rfl ?_
      obtain ⟨q1, hq1, h⟩ := bd_some h
      refine r_callv hX (p2 := 87) (v := some (vI q1.1)) (as := [vI x1, vI x3, vI x4]) (r := []) (st2 := [vI q1.1]) rfl rfl rfl rfl rfl (hc6 0 (by decide)) rfl rfl (c_X6_isFree xs e x1 x3 x4 s q1 hq1) ?_
      refine r_if hX (p2 := 111) (p3 := 90) (P := q1.1 ≠ 0) rfl (by decide) rfl rfl (fun p5 => ?_) (fun p5 => ?_)
      · have h := it_pos h p5
        exact hK111 x1 x3 x4 d2 q1.2 h
      · have h := it_neg h p5
        obtain ⟨c2, h⟩ := ck_some h
        refine r_iinc hX (p2 := 93) (ls2 := [some (vR (cc 6 0)), some (vI x1), d2, some (vI x3), some (vI (x4 + 1))]) rfl rfl rfl rfl c2 rfl ?_
        refine r_iload hX (p2 := 95) rfl rfl rfl ?_
        refine r_aload_n hX (p2 := 96) rfl rfl rfl ⟨_, Or.inl rfl⟩ ?_
        refine r_gf hX (p2 := 99) (v := vI (sI q1.2 640 0)) rfl rfl (hc6 0 (by decide)) rfl rfl rfl ?_
        refine r_icmp hX (p2 := 73) (p3 := 102) (P := (x4 + 1) ≤ (sI q1.2 640 0)) rfl (by decide) rfl rfl (fun p4 => ?_) (fun p4 => ?_)
        · have h := it_pos h p4
          exact ih x1 x3 (x4 + 1) d2 hd2 q1.2 h
        · have h := it_neg h p4
          refine r_iconst hX (p2 := 103) rfl rfl rfl ?_
          refine r_istore hX (p2 := 105) (ls2 := [some (vR (cc 6 0)), some (vI x1), d2, some (vI x3), some (vI 1)]) rfl rfl rfl rfl ?_
          obtain ⟨c3, h⟩ := ck_some h
          refine r_iinc hX (p2 := 108) (ls2 := [some (vR (cc 6 0)), some (vI x1), d2, some (vI (x3 + 1)), some (vI 1)]) rfl rfl rfl rfl c3 (st1_nc rfl hd2 rfl) ?_
          refine r_goto hX (p2 := 73) rfl (by decide) ?_
          exact ih x1 (x3 + 1) 1 d2 hd2 q1.2 h
noncomputable def f_X6_byItself_17 (x1 : Int) (s : pS) : Option (pS) := (f_X6_otherStart x1 s).bind (fun q1 => bs ((sI q1.2 641 0)) (fun v2 => bs ((sI q1.2 642 0)) (fun v3 => (if q1.1 ≤ 0 then f_X6_byItself_73 (fun x1 x3 x4 s4 => f_X6_byItself_111 x1 x3 x4 s4) 400 x1 v2 v3 q1.2 else (if v3 ≤ q1.1 then f_X6_byItself_47 x1 q1.1 v2 q1.2 else ck (inR (v2 + 1)) (f_X6_byItself_47 x1 q1.1 (v2 + 1) q1.2))))))
set_option maxRecDepth 10000 in
theorem t_X6_byItself_17 (xs : Nat → Int) (e : Nat) (q : pS) (X : List (Option pV) → List pV → Nat → pH → Prop) (hX : pm_clo 1001 xs (pCall pm_tx 1001 xs pm_P (e + 1)) (e + 1) mX6_byItself (eU q) X) : ∀  (x1 : Int) (d2 : Option pV) (d3 : Option pV) (d4 : Option pV) (s : pS), f_X6_byItself_17 x1 s = some q → X [some (vR (cc 6 0)), some (vI x1), d2, d3, d4] [] 17 (pW s) := by
  intro x1 d2 d3 d4 s h
  unfold f_X6_byItself_17 at h
  refine r_aload_n hX (p2 := 18) rfl rfl rfl ⟨_, Or.inl rfl⟩ ?_
  refine r_iload_n hX (p2 := 19) rfl rfl rfl ?_
  obtain ⟨q1, hq1, h⟩ := bd_some h
  refine r_callv hX (p2 := 22) (v := some (vI q1.1)) (as := [vI x1]) (r := []) (st2 := [vI q1.1]) rfl rfl rfl rfl rfl (hc6 0 (by decide)) rfl rfl (c_X6_otherStart xs e x1 s q1 hq1) ?_
  refine r_istore_n hX (p2 := 23) (ls2 := [some (vR (cc 6 0)), some (vI x1), some (vI q1.1), d3, d4]) rfl rfl rfl rfl ?_
  refine r_aload_n hX (p2 := 24) rfl rfl rfl ⟨_, Or.inl rfl⟩ ?_
  refine r_gf hX (p2 := 27) (v := vI (sI q1.2 641 0)) rfl rfl (hc6 0 (by decide)) rfl rfl rfl ?_
  obtain ⟨v2, hv2, h⟩ := bs_some h
  refine r_istoreE_n hX (p2 := 28) (ls2 := [some (vR (cc 6 0)), some (vI x1), some (vI q1.1), some (vI v2), d4]) rfl rfl hv2 rfl rfl ?_
  refine r_aload_n hX (p2 := 29) rfl rfl rfl ⟨_, Or.inl rfl⟩ ?_
  refine r_gf hX (p2 := 32) (v := vI (sI q1.2 642 0)) rfl rfl (hc6 0 (by decide)) rfl rfl rfl ?_
  obtain ⟨v3, hv3, h⟩ := bs_some h
  refine r_istoreE hX (p2 := 34) (ls2 := [some (vR (cc 6 0)), some (vI x1), some (vI q1.1), some (vI v2), some (vI v3)]) rfl rfl hv3 rfl rfl ?_
  refine r_iload_n hX (p2 := 35) rfl rfl rfl ?_
  refine r_if hX (p2 := 73) (p3 := 38) (P := q1.1 ≤ 0) rfl (by decide) rfl rfl (fun p7 => ?_) (fun p7 => ?_)
  · have h := it_pos h p7
    refine t_X6_byItself_73 xs e q X hX _ (fun x1 x3 x4 d2 s4 h => ?_) 400 x1 v2 v3 (some (vI q1.1)) rfl q1.2 h
    exact t_X6_byItself_111 xs e q X hX x1 x3 x4 d2 s4 h
  · have h := it_neg h p7
    refine r_iload_n hX (p2 := 39) rfl rfl rfl ?_
    refine r_iload hX (p2 := 41) rfl rfl rfl ?_
    refine r_icmp hX (p2 := 47) (p3 := 44) (P := v3 ≤ q1.1) rfl (by decide) rfl rfl (fun p6 => ?_) (fun p6 => ?_)
    · have h := it_pos h p6
      exact t_X6_byItself_47 xs e q X hX x1 q1.1 v2 (some (vI v3)) q1.2 h
    · have h := it_neg h p6
      obtain ⟨c5, h⟩ := ck_some h
      refine r_iinc hX (p2 := 47) (ls2 := [some (vR (cc 6 0)), some (vI x1), some (vI q1.1), some (vI (v2 + 1)), some (vI v3)]) rfl rfl rfl rfl c5 rfl ?_
      exact t_X6_byItself_47 xs e q X hX x1 q1.1 (v2 + 1) (some (vI v3)) q1.2 h
noncomputable def f_X6_byItself (a1 : Int) (s : pS) : Option (pS) := (if (sI s 625 0) = 0 then f_X6_byItself_17 a1 s else bs (wI s 641 0 1) (fun s1 => bs (wI s1 642 0 1) (fun s2 => f_X6_byItself_17 a1 s2)))
set_option maxRecDepth 10000 in
theorem c_X6_byItself (xs : Nat → Int) (e : Nat) (a1 : Int) (s : pS) (q : pS) (h : f_X6_byItself a1 s = some q) : pCall pm_tx 1001 xs pm_P (e + 1 + 1) 136 [vR (cc 6 0), vI a1] (pW s) (.inl none) (pW q) := by
  refine pCall_of mX6_byItself rfl rfl (fun X hX => ?_)
  show X [some (vR (cc 6 0)), some (vI a1), none, none, none] [] 0 (pW s)
  replace hX : pm_clo 1001 xs (pCall pm_tx 1001 xs pm_P (e + 1)) (e + 1) mX6_byItself (eU q) X := hX
  unfold f_X6_byItself at h
  refine r_aload_n hX (p2 := 1) rfl rfl rfl ⟨_, Or.inl rfl⟩ ?_
  refine r_gf hX (p2 := 4) (v := vI (sI s 625 0)) rfl rfl (hc6 0 (by decide)) rfl rfl rfl ?_
  refine r_if hX (p2 := 17) (p3 := 7) (P := (sI s 625 0) = 0) rfl (by decide) rfl rfl (fun p3 => ?_) (fun p3 => ?_)
  · have h := it_pos h p3
    exact t_X6_byItself_17 xs e q X hX a1 none none none s h
  · have h := it_neg h p3
    refine r_aload_n hX (p2 := 8) rfl rfl rfl ⟨_, Or.inl rfl⟩ ?_
    refine r_iconst hX (p2 := 9) rfl rfl rfl ?_
    obtain ⟨s1, hs1, h⟩ := bs_some h
    refine r_pfI hX (p2 := 12) rfl rfl (hc6 0 (by decide)) rfl rfl rfl rfl rfl rfl hs1 ?_
    refine r_aload_n hX (p2 := 13) rfl rfl rfl ⟨_, Or.inl rfl⟩ ?_
    refine r_iconst hX (p2 := 14) rfl rfl rfl ?_
    obtain ⟨s2, hs2, h⟩ := bs_some h
    refine r_pfI hX (p2 := 17) rfl rfl (hc6 0 (by decide)) rfl rfl rfl rfl rfl rfl hs2 ?_
    exact t_X6_byItself_17 xs e q X hX a1 none none none s2 h
