/-! ===== THE METHODS AS FUNCTIONS (written by wip/whole/gen_fun.py) ===== -/
noncomputable def f_X6_places_6 (K26 : pS → Option (pS)) : Nat → Int → pS → Option (pS)
  | 0, _, _ => none
  | n + 1, x1, s => (if 144 ≤ x1 then K26 s else ck (0 ≤ x1 ∧ x1 < 144) (bs (wA s 639 0 (pm_up (sA s 639 0) x1.toNat 0)) (fun s2 => ck (inR (x1 + 1)) (f_X6_places_6 K26 n (x1 + 1) s2))))
set_option maxRecDepth 10000 in
theorem t_X6_places_6 (xs : Nat → Int) (e : Nat) (q : pS) (X : List (Option pV) → List pV → Nat → pH → Prop) (hX : pm_clo 1001 xs (pCall pm_tx 1001 xs pm_P (e + 2)) (e + 2) mX6_places (eU q) X) (K26 : pS → Option (pS)) (hK26 : ∀ (d1 : Option pV) (d2 : Option pV) (d3 : Option pV) (d4 : Option pV) (s : pS), K26 s = some q → X [some (vR (cc 6 0)), d1, d2, d3, d4] [] 26 (pW s)) : ∀ (n : Nat) (x1 : Int) (d2 : Option pV) (d3 : Option pV) (d4 : Option pV) (s : pS), f_X6_places_6 K26 n x1 s = some q → X [some (vR (cc 6 0)), some (vI x1), d2, d3, d4] [] 6 (pW s) := by
  intro n
  induction n with
  | zero =>
    intro x1 d2 d3 d4 s h
    rw [f_X6_places_6] at h
    cases h
  | succ n ih =>
    intro x1 d2 d3 d4 s h
    rw [f_X6_places_6] at h
    refine r_iload_n hX (p2 := 7) rfl rfl rfl ?_
    refine r_sipush hX (p2 := 10) rfl rfl rfl ?_
    refine r_icmp hX (p2 := 26) (p3 := 13) (P := 144 ≤ x1) rfl (by decide) rfl rfl (fun p4 => ?_) (fun p4 => ?_)
    · have h := it_pos h p4
      exact hK26 (some (vI x1)) d2 d3 d4 s h
    · have h := it_neg h p4
      refine r_aload_n hX (p2 := 14) rfl rfl rfl ⟨_, Or.inl rfl⟩ ?_
      refine r_gf hX (p2 := 17) (v := vR (ca 639 0)) rfl rfl (hc6 0 (by decide)) rfl rfl rfl ?_
      refine r_iload_n hX (p2 := 18) rfl rfl rfl ?_
      refine r_iconst hX (p2 := 19) rfl rfl rfl ?_
      obtain ⟨c1, h⟩ := ck_some h
      obtain ⟨s2, hs2, h⟩ := bs_some h
      refine r_bastore hX (p2 := 20) (j := x1.toNat) rfl rfl (ha639 0 (by decide)) rfl rfl c1 rfl (Or.inl rfl) hs2 ?_
      obtain ⟨c3, h⟩ := ck_some h
      refine r_iinc hX (p2 := 23) (ls2 := [some (vR (cc 6 0)), some (vI (x1 + 1)), d2, d3, d4]) rfl rfl rfl rfl c3 rfl ?_
      refine r_goto hX (p2 := 6) rfl (by decide) ?_
      exact ih (x1 + 1) d2 d3 d4 s2 h
noncomputable def f_X6_places_28 (K47 : pS → Option (pS)) : Nat → Int → pS → Option (pS)
  | 0, _, _ => none
  | n + 1, x1, s => (if 20 ≤ x1 then K47 s else ck (0 ≤ x1 ∧ x1 < 20) (bs (wA s 631 0 (pm_up (sA s 631 0) x1.toNat 0)) (fun s2 => ck (inR (x1 + 1)) (f_X6_places_28 K47 n (x1 + 1) s2))))
set_option maxRecDepth 10000 in
theorem t_X6_places_28 (xs : Nat → Int) (e : Nat) (q : pS) (X : List (Option pV) → List pV → Nat → pH → Prop) (hX : pm_clo 1001 xs (pCall pm_tx 1001 xs pm_P (e + 2)) (e + 2) mX6_places (eU q) X) (K47 : pS → Option (pS)) (hK47 : ∀ (d1 : Option pV) (d2 : Option pV) (d3 : Option pV) (d4 : Option pV) (s : pS), K47 s = some q → X [some (vR (cc 6 0)), d1, d2, d3, d4] [] 47 (pW s)) : ∀ (n : Nat) (x1 : Int) (d2 : Option pV) (d3 : Option pV) (d4 : Option pV) (s : pS), f_X6_places_28 K47 n x1 s = some q → X [some (vR (cc 6 0)), some (vI x1), d2, d3, d4] [] 28 (pW s) := by
  intro n
  induction n with
  | zero =>
    intro x1 d2 d3 d4 s h
    rw [f_X6_places_28] at h
    cases h
  | succ n ih =>
    intro x1 d2 d3 d4 s h
    rw [f_X6_places_28] at h
    refine r_iload_n hX (p2 := 29) rfl rfl rfl ?_
    refine r_bipush hX (p2 := 31) rfl rfl rfl ?_
    refine r_icmp hX (p2 := 47) (p3 := 34) (P := 20 ≤ x1) rfl (by decide) rfl rfl (fun p4 => ?_) (fun p4 => ?_)
    · have h := it_pos h p4
      exact hK47 (some (vI x1)) d2 d3 d4 s h
    · have h := it_neg h p4
      refine r_aload_n hX (p2 := 35) rfl rfl rfl ⟨_, Or.inl rfl⟩ ?_
      refine r_gf hX (p2 := 38) (v := vR (ca 631 0)) rfl rfl (hc6 0 (by decide)) rfl rfl rfl ?_
      refine r_iload_n hX (p2 := 39) rfl rfl rfl ?_
      refine r_iconst hX (p2 := 40) rfl rfl rfl ?_
      obtain ⟨c1, h⟩ := ck_some h
      obtain ⟨s2, hs2, h⟩ := bs_some h
      refine r_iastore hX (p2 := 41) (j := x1.toNat) rfl rfl (ha631 0 (by decide)) rfl rfl c1 rfl hs2 ?_
      obtain ⟨c3, h⟩ := ck_some h
      refine r_iinc hX (p2 := 44) (ls2 := [some (vR (cc 6 0)), some (vI (x1 + 1)), d2, d3, d4]) rfl rfl rfl rfl c3 rfl ?_
      refine r_goto hX (p2 := 28) rfl (by decide) ?_
      exact ih (x1 + 1) d2 d3 d4 s2 h
noncomputable def f_X6_places_98 (K59 : Int → pS → Option (pS)) (K104 : pS → Option (pS)) (x1 : Int) (s : pS) : Option (pS) := ck (inR (x1 + 1)) (K59 (x1 + 1) s)
set_option maxRecDepth 10000 in
theorem t_X6_places_98 (xs : Nat → Int) (e : Nat) (q : pS) (X : List (Option pV) → List pV → Nat → pH → Prop) (hX : pm_clo 1001 xs (pCall pm_tx 1001 xs pm_P (e + 2)) (e + 2) mX6_places (eU q) X) (K59 : Int → pS → Option (pS)) (K104 : pS → Option (pS)) (hK59 : ∀ (x1 : Int) (d2 : Option pV) (d3 : Option pV) (d4 : Option pV) (s : pS), K59 x1 s = some q → X [some (vR (cc 6 0)), some (vI x1), d2, d3, d4] [] 59 (pW s)) (hK104 : ∀ (d1 : Option pV) (d2 : Option pV) (d3 : Option pV) (d4 : Option pV) (s : pS), K104 s = some q → X [some (vR (cc 6 0)), d1, d2, d3, d4] [] 104 (pW s)) : ∀  (x1 : Int) (d2 : Option pV) (d3 : Option pV) (d4 : Option pV) (s : pS), f_X6_places_98 K59 K104 x1 s = some q → X [some (vR (cc 6 0)), some (vI x1), d2, d3, d4] [] 98 (pW s) := by
  intro x1 d2 d3 d4 s h
  unfold f_X6_places_98 at h
  obtain ⟨c1, h⟩ := ck_some h
  refine r_iinc hX (p2 := 101) (ls2 := [some (vR (cc 6 0)), some (vI (x1 + 1)), d2, d3, d4]) rfl rfl rfl rfl c1 rfl ?_
  refine r_goto hX (p2 := 59) rfl (by decide) ?_
  exact hK59 (x1 + 1) d2 d3 d4 s h
noncomputable def f_X6_places_59 (K104 : pS → Option (pS)) : Nat → Int → pS → Option (pS)
  | 0, _, _ => none
  | n + 1, x1, s => (if (sI s 619 0) ≤ x1 then K104 s else (f_X6_mainStart x1 s).bind (fun q1 => (if q1.1 ≤ 0 then f_X6_places_98 (f_X6_places_59 K104 n) K104 x1 q1.2 else (f_X6_otherStart x1 q1.2).bind (fun q2 => (if q2.1 ≤ 0 then f_X6_places_98 (f_X6_places_59 K104 n) K104 x1 q2.2 else (f_X6_mainStart x1 q2.2).bind (fun q3 => (f_X6_otherStart x1 q3.2).bind (fun q4 => (f_X6_stand x1 q3.1 q4.1 q4.2).bind (fun q5 => f_X6_places_98 (f_X6_places_59 K104 n) K104 x1 q5))))))))
set_option maxRecDepth 10000 in
theorem t_X6_places_59 (xs : Nat → Int) (e : Nat) (q : pS) (X : List (Option pV) → List pV → Nat → pH → Prop) (hX : pm_clo 1001 xs (pCall pm_tx 1001 xs pm_P (e + 2)) (e + 2) mX6_places (eU q) X) (K104 : pS → Option (pS)) (hK104 : ∀ (d1 : Option pV) (d2 : Option pV) (d3 : Option pV) (d4 : Option pV) (s : pS), K104 s = some q → X [some (vR (cc 6 0)), d1, d2, d3, d4] [] 104 (pW s)) : ∀ (n : Nat) (x1 : Int) (d2 : Option pV) (d3 : Option pV) (d4 : Option pV) (s : pS), f_X6_places_59 K104 n x1 s = some q → X [some (vR (cc 6 0)), some (vI x1), d2, d3, d4] [] 59 (pW s) := by
  intro n
  induction n with
  | zero =>
    intro x1 d2 d3 d4 s h
    rw [f_X6_places_59] at h
    cases h
  | succ n ih =>
    intro x1 d2 d3 d4 s h
    rw [f_X6_places_59] at h
    refine r_iload_n hX (p2 := 60) rfl rfl rfl ?_
    refine r_aload_n hX (p2 := 61) rfl rfl rfl ⟨_, Or.inl rfl⟩ ?_
    refine r_gf hX (p2 := 64) (v := vI (sI s 619 0)) rfl rfl (hc6 0 (by decide)) rfl rfl rfl ?_
    refine r_icmp hX (p2 := 104) (p3 := 67) (P := (sI s 619 0) ≤ x1) rfl (by decide) rfl rfl (fun p8 => ?_) (fun p8 => ?_)
    · have h := it_pos h p8
      exact hK104 (some (vI x1)) d2 d3 d4 s h
    · have h := it_neg h p8
      refine r_aload_n hX (p2 := 68) rfl rfl rfl ⟨_, Or.inl rfl⟩ ?_
      refine r_iload_n hX (p2 := 69) rfl rfl rfl ?_
      obtain ⟨q1, hq1, h⟩ := bd_some h
      refine r_callv hX (p2 := 72) (v := some (vI q1.1)) (as := [vI x1]) (r := []) (st2 := [vI q1.1]) rfl rfl rfl rfl rfl (hc6 0 (by decide)) rfl rfl (c_X6_mainStart xs (e + 1) x1 s q1 hq1) ?_
      refine r_if hX (p2 := 98) (p3 := 75) (P := q1.1 ≤ 0) rfl (by decide) rfl rfl (fun p7 => ?_) (fun p7 => ?_)
      · have h := it_pos h p7
        exact t_X6_places_98 xs e q X hX _ _ ih hK104 x1 d2 d3 d4 q1.2 h
      · have h := it_neg h p7
        refine r_aload_n hX (p2 := 76) rfl rfl rfl ⟨_, Or.inl rfl⟩ ?_
        refine r_iload_n hX (p2 := 77) rfl rfl rfl ?_
        obtain ⟨q2, hq2, h⟩ := bd_some h
        refine r_callv hX (p2 := 80) (v := some (vI q2.1)) (as := [vI x1]) (r := []) (st2 := [vI q2.1]) rfl rfl rfl rfl rfl (hc6 0 (by decide)) rfl rfl (c_X6_otherStart xs (e + 1) x1 q1.2 q2 hq2) ?_
        refine r_if hX (p2 := 98) (p3 := 83) (P := q2.1 ≤ 0) rfl (by decide) rfl rfl (fun p6 => ?_) (fun p6 => ?_)
        · have h := it_pos h p6
          exact t_X6_places_98 xs e q X hX _ _ ih hK104 x1 d2 d3 d4 q2.2 h
        · have h := it_neg h p6
          refine r_aload_n hX (p2 := 84) rfl rfl rfl ⟨_, Or.inl rfl⟩ ?_
          refine r_iload_n hX (p2 := 85) rfl rfl rfl ?_
          refine r_aload_n hX (p2 := 86) rfl rfl rfl ⟨_, Or.inl rfl⟩ ?_
          refine r_iload_n hX (p2 := 87) rfl rfl rfl ?_
          obtain ⟨q3, hq3, h⟩ := bd_some h
          refine r_callv hX (p2 := 90) (v := some (vI q3.1)) (as := [vI x1]) (r := [vI x1, vR (cc 6 0)]) (st2 := [vI q3.1, vI x1, vR (cc 6 0)]) rfl rfl rfl rfl rfl (hc6 0 (by decide)) rfl rfl (c_X6_mainStart xs (e + 1) x1 q2.2 q3 hq3) ?_
          refine r_aload_n hX (p2 := 91) rfl rfl rfl ⟨_, Or.inl rfl⟩ ?_
          refine r_iload_n hX (p2 := 92) rfl rfl rfl ?_
          obtain ⟨q4, hq4, h⟩ := bd_some h
          refine r_callv hX (p2 := 95) (v := some (vI q4.1)) (as := [vI x1]) (r := [vI q3.1, vI x1, vR (cc 6 0)]) (st2 := [vI q4.1, vI q3.1, vI x1, vR (cc 6 0)]) rfl rfl rfl rfl rfl (hc6 0 (by decide)) rfl rfl (c_X6_otherStart xs (e + 1) x1 q3.2 q4 hq4) ?_
          obtain ⟨q5, hq5, h⟩ := bd_some h
          refine r_callv hX (p2 := 98) (v := none) (as := [vI x1, vI q3.1, vI q4.1]) (r := []) (st2 := []) rfl rfl rfl rfl rfl (hc6 0 (by decide)) rfl rfl (c_X6_stand xs (e + 1) x1 q3.1 q4.1 q4.2 q5 hq5) ?_
          exact t_X6_places_98 xs e q X hX _ _ ih hK104 x1 d2 d3 d4 q5 h
noncomputable def f_X6_places_135 (K106 : Int → pS → Option (pS)) (K141 : pS → Option (pS)) (x1 : Int) (s : pS) : Option (pS) := ck (inR (x1 + 1)) (K106 (x1 + 1) s)
set_option maxRecDepth 10000 in
theorem t_X6_places_135 (xs : Nat → Int) (e : Nat) (q : pS) (X : List (Option pV) → List pV → Nat → pH → Prop) (hX : pm_clo 1001 xs (pCall pm_tx 1001 xs pm_P (e + 2)) (e + 2) mX6_places (eU q) X) (K106 : Int → pS → Option (pS)) (K141 : pS → Option (pS)) (hK106 : ∀ (x1 : Int) (d2 : Option pV) (d3 : Option pV) (d4 : Option pV) (s : pS), K106 x1 s = some q → X [some (vR (cc 6 0)), some (vI x1), d2, d3, d4] [] 106 (pW s)) (hK141 : ∀ (d1 : Option pV) (d2 : Option pV) (d3 : Option pV) (d4 : Option pV) (s : pS), K141 s = some q → X [some (vR (cc 6 0)), d1, d2, d3, d4] [] 141 (pW s)) : ∀  (x1 : Int) (d2 : Option pV) (d3 : Option pV) (d4 : Option pV) (s : pS), f_X6_places_135 K106 K141 x1 s = some q → X [some (vR (cc 6 0)), some (vI x1), d2, d3, d4] [] 135 (pW s) := by
  intro x1 d2 d3 d4 s h
  unfold f_X6_places_135 at h
  obtain ⟨c1, h⟩ := ck_some h
  refine r_iinc hX (p2 := 138) (ls2 := [some (vR (cc 6 0)), some (vI (x1 + 1)), d2, d3, d4]) rfl rfl rfl rfl c1 rfl ?_
  refine r_goto hX (p2 := 106) rfl (by decide) ?_
  exact hK106 (x1 + 1) d2 d3 d4 s h
noncomputable def f_X6_places_106 (K141 : pS → Option (pS)) : Nat → Int → pS → Option (pS)
  | 0, _, _ => none
  | n + 1, x1, s => (if (sI s 619 0) ≤ x1 then K141 s else (f_X6_mainStart x1 s).bind (fun q1 => (if q1.1 ≤ 0 then f_X6_places_135 (f_X6_places_106 K141 n) K141 x1 q1.2 else (f_X6_otherStart x1 q1.2).bind (fun q2 => (if q2.1 ≠ 0 then f_X6_places_135 (f_X6_places_106 K141 n) K141 x1 q2.2 else (f_X6_inLine x1 q2.2).bind (fun q3 => f_X6_places_135 (f_X6_places_106 K141 n) K141 x1 q3))))))
set_option maxRecDepth 10000 in
theorem t_X6_places_106 (xs : Nat → Int) (e : Nat) (q : pS) (X : List (Option pV) → List pV → Nat → pH → Prop) (hX : pm_clo 1001 xs (pCall pm_tx 1001 xs pm_P (e + 2)) (e + 2) mX6_places (eU q) X) (K141 : pS → Option (pS)) (hK141 : ∀ (d1 : Option pV) (d2 : Option pV) (d3 : Option pV) (d4 : Option pV) (s : pS), K141 s = some q → X [some (vR (cc 6 0)), d1, d2, d3, d4] [] 141 (pW s)) : ∀ (n : Nat) (x1 : Int) (d2 : Option pV) (d3 : Option pV) (d4 : Option pV) (s : pS), f_X6_places_106 K141 n x1 s = some q → X [some (vR (cc 6 0)), some (vI x1), d2, d3, d4] [] 106 (pW s) := by
  intro n
  induction n with
  | zero =>
    intro x1 d2 d3 d4 s h
    rw [f_X6_places_106] at h
    cases h
  | succ n ih =>
    intro x1 d2 d3 d4 s h
    rw [f_X6_places_106] at h
    refine r_iload_n hX (p2 := 107) rfl rfl rfl ?_
    refine r_aload_n hX (p2 := 108) rfl rfl rfl ⟨_, Or.inl rfl⟩ ?_
    refine r_gf hX (p2 := 111) (v := vI (sI s 619 0)) rfl rfl (hc6 0 (by decide)) rfl rfl rfl ?_
    refine r_icmp hX (p2 := 141) (p3 := 114) (P := (sI s 619 0) ≤ x1) rfl (by decide) rfl rfl (fun p6 => ?_) (fun p6 => ?_)
    · have h := it_pos h p6
      exact hK141 (some (vI x1)) d2 d3 d4 s h
    · have h := it_neg h p6
      refine r_aload_n hX (p2 := 115) rfl rfl rfl ⟨_, Or.inl rfl⟩ ?_
      refine r_iload_n hX (p2 := 116) rfl rfl rfl ?_
      obtain ⟨q1, hq1, h⟩ := bd_some h
      refine r_callv hX (p2 := 119) (v := some (vI q1.1)) (as := [vI x1]) (r := []) (st2 := [vI q1.1]) rfl rfl rfl rfl rfl (hc6 0 (by decide)) rfl rfl (c_X6_mainStart xs (e + 1) x1 s q1 hq1) ?_
      refine r_if hX (p2 := 135) (p3 := 122) (P := q1.1 ≤ 0) rfl (by decide) rfl rfl (fun p5 => ?_) (fun p5 => ?_)
      · have h := it_pos h p5
        exact t_X6_places_135 xs e q X hX _ _ ih hK141 x1 d2 d3 d4 q1.2 h
      · have h := it_neg h p5
        refine r_aload_n hX (p2 := 123) rfl rfl rfl ⟨_, Or.inl rfl⟩ ?_
        refine r_iload_n hX (p2 := 124) rfl rfl rfl ?_
        obtain ⟨q2, hq2, h⟩ := bd_some h
        refine r_callv hX (p2 := 127) (v := some (vI q2.1)) (as := [vI x1]) (r := []) (st2 := [vI q2.1]) rfl rfl rfl rfl rfl (hc6 0 (by decide)) rfl rfl (c_X6_otherStart xs (e + 1) x1 q1.2 q2 hq2) ?_
        refine r_if hX (p2 := 135) (p3 := 130) (P := q2.1 ≠ 0) rfl (by decide) rfl rfl (fun p4 => ?_) (fun p4 => ?_)
        · have h := it_pos h p4
          exact t_X6_places_135 xs e q X hX _ _ ih hK141 x1 d2 d3 d4 q2.2 h
        · have h := it_neg h p4
          refine r_aload_n hX (p2 := 131) rfl rfl rfl ⟨_, Or.inl rfl⟩ ?_
          refine r_iload_n hX (p2 := 132) rfl rfl rfl ?_
          obtain ⟨q3, hq3, h⟩ := bd_some h
          refine r_callv hX (p2 := 135) (v := none) (as := [vI x1]) (r := []) (st2 := []) rfl rfl rfl rfl rfl (hc6 0 (by decide)) rfl rfl (c_X6_inLine xs e x1 q2.2 q3 hq3) ?_
          exact t_X6_places_135 xs e q X hX _ _ ih hK141 x1 d2 d3 d4 q3 h
noncomputable def f_X6_places_164 (K143 : Int → pS → Option (pS)) (K170 : pS → Option (pS)) (x1 : Int) (s : pS) : Option (pS) := ck (inR (x1 + 1)) (K143 (x1 + 1) s)
set_option maxRecDepth 10000 in
theorem t_X6_places_164 (xs : Nat → Int) (e : Nat) (q : pS) (X : List (Option pV) → List pV → Nat → pH → Prop) (hX : pm_clo 1001 xs (pCall pm_tx 1001 xs pm_P (e + 2)) (e + 2) mX6_places (eU q) X) (K143 : Int → pS → Option (pS)) (K170 : pS → Option (pS)) (hK143 : ∀ (x1 : Int) (d2 : Option pV) (d3 : Option pV) (d4 : Option pV) (s : pS), K143 x1 s = some q → X [some (vR (cc 6 0)), some (vI x1), d2, d3, d4] [] 143 (pW s)) (hK170 : ∀ (d1 : Option pV) (d2 : Option pV) (d3 : Option pV) (d4 : Option pV) (s : pS), K170 s = some q → X [some (vR (cc 6 0)), d1, d2, d3, d4] [] 170 (pW s)) : ∀  (x1 : Int) (d2 : Option pV) (d3 : Option pV) (d4 : Option pV) (s : pS), f_X6_places_164 K143 K170 x1 s = some q → X [some (vR (cc 6 0)), some (vI x1), d2, d3, d4] [] 164 (pW s) := by
  intro x1 d2 d3 d4 s h
  unfold f_X6_places_164 at h
  obtain ⟨c1, h⟩ := ck_some h
  refine r_iinc hX (p2 := 167) (ls2 := [some (vR (cc 6 0)), some (vI (x1 + 1)), d2, d3, d4]) rfl rfl rfl rfl c1 rfl ?_
  refine r_goto hX (p2 := 143) rfl (by decide) ?_
  exact hK143 (x1 + 1) d2 d3 d4 s h
noncomputable def f_X6_places_143 (K170 : pS → Option (pS)) : Nat → Int → pS → Option (pS)
  | 0, _, _ => none
  | n + 1, x1, s => (if (sI s 619 0) ≤ x1 then K170 s else (f_X6_mainStart x1 s).bind (fun q1 => (if q1.1 ≠ 0 then f_X6_places_164 (f_X6_places_143 K170 n) K170 x1 q1.2 else (f_X6_byItself x1 q1.2).bind (fun q2 => f_X6_places_164 (f_X6_places_143 K170 n) K170 x1 q2))))
set_option maxRecDepth 10000 in
theorem t_X6_places_143 (xs : Nat → Int) (e : Nat) (q : pS) (X : List (Option pV) → List pV → Nat → pH → Prop) (hX : pm_clo 1001 xs (pCall pm_tx 1001 xs pm_P (e + 2)) (e + 2) mX6_places (eU q) X) (K170 : pS → Option (pS)) (hK170 : ∀ (d1 : Option pV) (d2 : Option pV) (d3 : Option pV) (d4 : Option pV) (s : pS), K170 s = some q → X [some (vR (cc 6 0)), d1, d2, d3, d4] [] 170 (pW s)) : ∀ (n : Nat) (x1 : Int) (d2 : Option pV) (d3 : Option pV) (d4 : Option pV) (s : pS), f_X6_places_143 K170 n x1 s = some q → X [some (vR (cc 6 0)), some (vI x1), d2, d3, d4] [] 143 (pW s) := by
  intro n
  induction n with
  | zero =>
    intro x1 d2 d3 d4 s h
    rw [f_X6_places_143] at h
    cases h
  | succ n ih =>
    intro x1 d2 d3 d4 s h
    rw [f_X6_places_143] at h
    refine r_iload_n hX (p2 := 144) rfl rfl rfl ?_
    refine r_aload_n hX (p2 := 145) rfl rfl rfl ⟨_, Or.inl rfl⟩ ?_
    refine r_gf hX (p2 := 148) (v := vI (sI s 619 0)) rfl rfl (hc6 0 (by decide)) rfl rfl rfl ?_
    refine r_icmp hX (p2 := 170) (p3 := 151) (P := (sI s 619 0) ≤ x1) rfl (by decide) rfl rfl (fun p4 => ?_) (fun p4 => ?_)
    · have h := it_pos h p4
      exact hK170 (some (vI x1)) d2 d3 d4 s h
    · have h := it_neg h p4
      refine r_aload_n hX (p2 := 152) rfl rfl rfl ⟨_, Or.inl rfl⟩ ?_
      refine r_iload_n hX (p2 := 153) rfl rfl rfl ?_
      obtain ⟨q1, hq1, h⟩ := bd_some h
      refine r_callv hX (p2 := 156) (v := some (vI q1.1)) (as := [vI x1]) (r := []) (st2 := [vI q1.1]) rfl rfl rfl rfl rfl (hc6 0 (by decide)) rfl rfl (c_X6_mainStart xs (e + 1) x1 s q1 hq1) ?_
      refine r_if hX (p2 := 164) (p3 := 159) (P := q1.1 ≠ 0) rfl (by decide) rfl rfl (fun p3 => ?_) (fun p3 => ?_)
      · have h := it_pos h p3
        exact t_X6_places_164 xs e q X hX _ _ ih hK170 x1 d2 d3 d4 q1.2 h
      · have h := it_neg h p3
        refine r_aload_n hX (p2 := 160) rfl rfl rfl ⟨_, Or.inl rfl⟩ ?_
        refine r_iload_n hX (p2 := 161) rfl rfl rfl ?_
        obtain ⟨q2, hq2, h⟩ := bd_some h
        refine r_callv hX (p2 := 164) (v := none) (as := [vI x1]) (r := []) (st2 := []) rfl rfl rfl rfl rfl (hc6 0 (by decide)) rfl rfl (c_X6_byItself xs e x1 q1.2 q2 hq2) ?_
        exact t_X6_places_164 xs e q X hX _ _ ih hK170 x1 d2 d3 d4 q2 h
noncomputable def f_X6_places_276 (K214 : Int → Int → Int → pS → Option (pS)) (K283 : Int → Int → pS → Option (pS)) (x1 : Int) (x3 : Int) (y0 : Int) (s : pS) : Option (pS) := ck (inR (x3 + 1)) (K214 x1 y0 (x3 + 1) s)
set_option maxRecDepth 10000 in
theorem t_X6_places_276 (xs : Nat → Int) (e : Nat) (q : pS) (X : List (Option pV) → List pV → Nat → pH → Prop) (hX : pm_clo 1001 xs (pCall pm_tx 1001 xs pm_P (e + 2)) (e + 2) mX6_places (eU q) X) (K214 : Int → Int → Int → pS → Option (pS)) (K283 : Int → Int → pS → Option (pS)) (hK214 : ∀ (x1 : Int) (x2 : Int) (x3 : Int) (d4 : Option pV) (s : pS), K214 x1 x2 x3 s = some q → X [some (vR (cc 6 0)), some (vI x1), some (vI x2), some (vI x3), d4] [] 214 (pW s)) (hK283 : ∀ (x1 : Int) (x2 : Int) (d3 : Option pV) (d4 : Option pV) (s : pS), K283 x1 x2 s = some q → X [some (vR (cc 6 0)), some (vI x1), some (vI x2), d3, d4] [] 283 (pW s)) : ∀  (x1 : Int) (x3 : Int) (y0 : Int) (d2 : Option pV) (d4 : Option pV) (s : pS), f_X6_places_276 K214 K283 x1 x3 y0 s = some q → X [some (vR (cc 6 0)), some (vI x1), d2, some (vI x3), d4] [vI y0] 276 (pW s) := by
  intro x1 x3 y0 d2 d4 s h
  unfold f_X6_places_276 at h
  refine r_istore_n hX (p2 := 277) (ls2 := [some (vR (cc 6 0)), some (vI x1), some (vI y0), some (vI x3), d4]) rfl rfl rfl rfl ?_
  obtain ⟨c1, h⟩ := ck_some h
  refine r_iinc hX (p2 := 280) (ls2 := [some (vR (cc 6 0)), some (vI x1), some (vI y0), some (vI (x3 + 1)), d4]) rfl rfl rfl rfl c1 rfl ?_
  refine r_goto hX (p2 := 214) rfl (by decide) ?_
  exact hK214 x1 y0 (x3 + 1) d4 s h
noncomputable def f_X6_places_262 (K214 : Int → Int → Int → pS → Option (pS)) (K283 : Int → Int → pS → Option (pS)) (x1 : Int) (x2 : Int) (x3 : Int) (y0 : Int) (s : pS) : Option (pS) := (if y0 ≤ x2 then f_X6_places_276 K214 K283 x1 x3 x2 s else f_X6_places_276 K214 K283 x1 x3 y0 s)
set_option maxRecDepth 10000 in
theorem t_X6_places_262 (xs : Nat → Int) (e : Nat) (q : pS) (X : List (Option pV) → List pV → Nat → pH → Prop) (hX : pm_clo 1001 xs (pCall pm_tx 1001 xs pm_P (e + 2)) (e + 2) mX6_places (eU q) X) (K214 : Int → Int → Int → pS → Option (pS)) (K283 : Int → Int → pS → Option (pS)) (hK214 : ∀ (x1 : Int) (x2 : Int) (x3 : Int) (d4 : Option pV) (s : pS), K214 x1 x2 x3 s = some q → X [some (vR (cc 6 0)), some (vI x1), some (vI x2), some (vI x3), d4] [] 214 (pW s)) (hK283 : ∀ (x1 : Int) (x2 : Int) (d3 : Option pV) (d4 : Option pV) (s : pS), K283 x1 x2 s = some q → X [some (vR (cc 6 0)), some (vI x1), some (vI x2), d3, d4] [] 283 (pW s)) : ∀  (x1 : Int) (x2 : Int) (x3 : Int) (y0 : Int) (d4 : Option pV) (s : pS), f_X6_places_262 K214 K283 x1 x2 x3 y0 s = some q → X [some (vR (cc 6 0)), some (vI x1), some (vI x2), some (vI x3), d4] [vI y0] 262 (pW s) := by
  intro x1 x2 x3 y0 d4 s h
  unfold f_X6_places_262 at h
  refine r_istore hX (p2 := 264) (ls2 := [some (vR (cc 6 0)), some (vI x1), some (vI x2), some (vI x3), some (vI y0)]) rfl rfl rfl rfl ?_
  refine r_iload hX (p2 := 266) rfl rfl rfl ?_
  refine r_iload_n hX (p2 := 267) rfl rfl rfl ?_
  refine r_icmp hX (p2 := 275) (p3 := 270) (P := y0 ≤ x2) rfl (by decide) rfl rfl (fun p1 => ?_) (fun p1 => ?_)
  · have h := it_pos h p1
    refine r_iload_n hX (p2 := 276) rfl rfl rfl ?_
    exact t_X6_places_276 xs e q X hX _ _ hK214 hK283 x1 x3 x2 (some (vI x2)) (some (vI y0)) s h
  · have h := it_neg h p1
    refine r_iload hX (p2 := 272) rfl rfl rfl ?_
    refine r_goto hX (p2 := 276) rfl (by decide) ?_
    exact t_X6_places_276 xs e q X hX _ _ hK214 hK283 x1 x3 y0 (some (vI x2)) (some (vI y0)) s h
noncomputable def f_X6_places_214 (K283 : Int → Int → pS → Option (pS)) : Nat → Int → Int → Int → pS → Option (pS)
  | 0, _, _, _, _ => none
  | n + 1, x1, x2, x3, s => (if (sI s 619 0) ≤ x3 then K283 x1 x2 s else ck (inR (2 * x3)) (ck (inR ((2 * x3) + x1)) (ck (0 ≤ ((2 * x3) + x1) ∧ ((2 * x3) + x1) < 20) ((if (sA s 631 0 ((2 * x3) + x1).toNat) ≤ 0 then f_X6_places_262 (f_X6_places_214 K283 n) K283 x1 x2 x3 0 s else ck (inR (2 * x3)) (ck (inR ((2 * x3) + x1)) (ck (0 ≤ ((2 * x3) + x1) ∧ ((2 * x3) + x1) < 20) (ck (inR (2 * x3)) (ck (inR ((2 * x3) + x1)) (ck (0 ≤ ((2 * x3) + x1) ∧ ((2 * x3) + x1) < 20) (ck (inR ((sA s 631 0 ((2 * x3) + x1).toNat) + (sA s 621 0 ((2 * x3) + x1).toNat))) (ck (inR (((sA s 631 0 ((2 * x3) + x1).toNat) + (sA s 621 0 ((2 * x3) + x1).toNat)) - 1)) (f_X6_places_262 (f_X6_places_214 K283 n) K283 x1 x2 x3 (((sA s 631 0 ((2 * x3) + x1).toNat) + (sA s 621 0 ((2 * x3) + x1).toNat)) - 1) s)))))))))))))
set_option maxRecDepth 10000 in
theorem t_X6_places_214 (xs : Nat → Int) (e : Nat) (q : pS) (X : List (Option pV) → List pV → Nat → pH → Prop) (hX : pm_clo 1001 xs (pCall pm_tx 1001 xs pm_P (e + 2)) (e + 2) mX6_places (eU q) X) (K283 : Int → Int → pS → Option (pS)) (hK283 : ∀ (x1 : Int) (x2 : Int) (d3 : Option pV) (d4 : Option pV) (s : pS), K283 x1 x2 s = some q → X [some (vR (cc 6 0)), some (vI x1), some (vI x2), d3, d4] [] 283 (pW s)) : ∀ (n : Nat) (x1 : Int) (x2 : Int) (x3 : Int) (d4 : Option pV) (s : pS), f_X6_places_214 K283 n x1 x2 x3 s = some q → X [some (vR (cc 6 0)), some (vI x1), some (vI x2), some (vI x3), d4] [] 214 (pW s) := by
  intro n
  induction n with
  | zero =>
    intro x1 x2 x3 d4 s h
    rw [f_X6_places_214] at h
    cases h
  | succ n ih =>
    intro x1 x2 x3 d4 s h
    rw [f_X6_places_214] at h
    refine r_iload_n hX (p2 := 215) rfl rfl rfl ?_
    refine r_aload_n hX (p2 := 216) rfl rfl rfl ⟨_, Or.inl rfl⟩ ?_
    refine r_gf hX (p2 := 219) (v := vI (sI s 619 0)) rfl rfl (hc6 0 (by decide)) rfl rfl rfl ?_
    refine r_icmp hX (p2 := 283) (p3 := 222) (P := (sI s 619 0) ≤ x3) rfl (by decide) rfl rfl (fun p13 => ?_) (fun p13 => ?_)
    · have h := it_pos h p13
      exact hK283 x1 x2 (some (vI x3)) d4 s h
    · have h := it_neg h p13
      refine r_aload_n hX (p2 := 223) rfl rfl rfl ⟨_, Or.inl rfl⟩ ?_
      refine r_gf hX (p2 := 226) (v := vR (ca 631 0)) rfl rfl (hc6 0 (by decide)) rfl rfl rfl ?_
      refine r_iconst hX (p2 := 227) rfl rfl rfl ?_
      refine r_iload_n hX (p2 := 228) rfl rfl rfl ?_
      obtain ⟨c1, h⟩ := ck_some h
      refine r_imul hX (p2 := 229) rfl rfl c1 ?_
      refine r_iload_n hX (p2 := 230) rfl rfl rfl ?_
      obtain ⟨c2, h⟩ := ck_some h
      refine r_iadd hX (p2 := 231) rfl rfl c2 ?_
      obtain ⟨c3, h⟩ := ck_some h
      refine r_iaload hX (p2 := 232) (j := ((2 * x3) + x1).toNat) rfl rfl (ha631 0 (by decide)) rfl rfl c3 rfl ?_
      refine r_if hX (p2 := 261) (p3 := 235) (P := (sA s 631 0 ((2 * x3) + x1).toNat) ≤ 0) rfl (by decide) rfl rfl (fun p12 => ?_) (fun p12 => ?_)
      · have h := it_pos h p12
        refine r_iconst hX (p2 := 262) rfl rfl rfl ?_
        exact t_X6_places_262 xs e q X hX _ _ ih hK283 x1 x2 x3 0 d4 s h
      · have h := it_neg h p12
        refine r_aload_n hX (p2 := 236) rfl rfl rfl ⟨_, Or.inl rfl⟩ ?_
        refine r_gf hX (p2 := 239) (v := vR (ca 631 0)) rfl rfl (hc6 0 (by decide)) rfl rfl rfl ?_
        refine r_iconst hX (p2 := 240) rfl rfl rfl ?_
        refine r_iload_n hX (p2 := 241) rfl rfl rfl ?_
        obtain ⟨c4, h⟩ := ck_some h
        refine r_imul hX (p2 := 242) rfl rfl c4 ?_
        refine r_iload_n hX (p2 := 243) rfl rfl rfl ?_
        obtain ⟨c5, h⟩ := ck_some h
        refine r_iadd hX (p2 := 244) rfl rfl c5 ?_
        obtain ⟨c6, h⟩ := ck_some h
        refine r_iaload hX (p2 := 245) (j := ((2 * x3) + x1).toNat) rfl rfl (ha631 0 (by decide)) rfl rfl c6 rfl ?_
        refine r_aload_n hX (p2 := 246) rfl rfl rfl ⟨_, Or.inl rfl⟩ ?_
        refine r_gf hX (p2 := 249) (v := vR (ca 621 0)) rfl rfl (hc6 0 (by decide)) rfl rfl rfl ?_
        refine r_iconst hX (p2 := 250) rfl rfl rfl ?_
        refine r_iload_n hX (p2 := 251) rfl rfl rfl ?_
        obtain ⟨c7, h⟩ := ck_some h
        refine r_imul hX (p2 := 252) rfl rfl c7 ?_
        refine r_iload_n hX (p2 := 253) rfl rfl rfl ?_
        obtain ⟨c8, h⟩ := ck_some h
        refine r_iadd hX (p2 := 254) rfl rfl c8 ?_
        obtain ⟨c9, h⟩ := ck_some h
        refine r_iaload hX (p2 := 255) (j := ((2 * x3) + x1).toNat) rfl rfl (ha621 0 (by decide)) rfl rfl c9 rfl ?_
        obtain ⟨c10, h⟩ := ck_some h
        refine r_iadd hX (p2 := 256) rfl rfl c10 ?_
        refine r_iconst hX (p2 := 257) rfl rfl rfl ?_
        obtain ⟨c11, h⟩ := ck_some h
        refine r_isub hX (p2 := 258) rfl rfl c11 ?_
        refine r_goto hX (p2 := 262) rfl (by decide) ?_
        exact t_X6_places_262 xs e q X hX _ _ ih hK283 x1 x2 x3 (((sA s 631 0 ((2 * x3) + x1).toNat) + (sA s 621 0 ((2 * x3) + x1).toNat)) - 1) d4 s h
noncomputable def f_X6_places_211 (K172 : Int → pS → Option (pS)) (K296 : pS → Option (pS)) (x1 : Int) (y0 : Int) (s : pS) : Option (pS) := f_X6_places_214 (fun x1 x2 s1 => ck (0 ≤ x1 ∧ x1 < 2) (bs (wA s1 633 0 (pm_up (sA s1 633 0) x1.toNat x2)) (fun s3 => ck (inR (x1 + 1)) (K172 (x1 + 1) s3)))) 400 x1 y0 0 s
set_option maxRecDepth 10000 in
theorem t_X6_places_211 (xs : Nat → Int) (e : Nat) (q : pS) (X : List (Option pV) → List pV → Nat → pH → Prop) (hX : pm_clo 1001 xs (pCall pm_tx 1001 xs pm_P (e + 2)) (e + 2) mX6_places (eU q) X) (K172 : Int → pS → Option (pS)) (K296 : pS → Option (pS)) (hK172 : ∀ (x1 : Int) (d2 : Option pV) (d3 : Option pV) (d4 : Option pV) (s : pS), K172 x1 s = some q → X [some (vR (cc 6 0)), some (vI x1), d2, d3, d4] [] 172 (pW s)) (hK296 : ∀ (d0 : Option pV) (d1 : Option pV) (d2 : Option pV) (d3 : Option pV) (d4 : Option pV) (s : pS), K296 s = some q → X [d0, d1, d2, d3, d4] [] 296 (pW s)) : ∀  (x1 : Int) (y0 : Int) (d2 : Option pV) (d3 : Option pV) (d4 : Option pV) (s : pS), f_X6_places_211 K172 K296 x1 y0 s = some q → X [some (vR (cc 6 0)), some (vI x1), d2, d3, d4] [vI y0] 211 (pW s) := by
  intro x1 y0 d2 d3 d4 s h
  unfold f_X6_places_211 at h
  refine r_istore_n hX (p2 := 212) (ls2 := [some (vR (cc 6 0)), some (vI x1), some (vI y0), d3, d4]) rfl rfl rfl rfl ?_
  refine r_iconst hX (p2 := 213) rfl rfl rfl ?_
  refine r_istore_n hX (p2 := 214) (ls2 := [some (vR (cc 6 0)), some (vI x1), some (vI y0), some (vI 0), d4]) rfl rfl rfl rfl ?_
  refine t_X6_places_214 xs e q X hX _ (fun x1 x2 d3 d4 s1 h => ?_) 400 x1 y0 0 d4 s h
  refine r_aload_n hX (p2 := 284) rfl rfl rfl ⟨_, Or.inl rfl⟩ ?_
  refine r_gf hX (p2 := 287) (v := vR (ca 633 0)) rfl rfl (hc6 0 (by decide)) rfl rfl rfl ?_
  refine r_iload_n hX (p2 := 288) rfl rfl rfl ?_
  refine r_iload_n hX (p2 := 289) rfl rfl rfl ?_
  obtain ⟨c2, h⟩ := ck_some h
  obtain ⟨s3, hs3, h⟩ := bs_some h
  refine r_iastore hX (p2 := 290) (j := x1.toNat) rfl rfl (ha633 0 (by decide)) rfl rfl c2 rfl hs3 ?_
  obtain ⟨c4, h⟩ := ck_some h
  refine r_iinc hX (p2 := 293) (ls2 := [some (vR (cc 6 0)), some (vI (x1 + 1)), some (vI x2), d3, d4]) rfl rfl rfl rfl c4 rfl ?_
  refine r_goto hX (p2 := 172) rfl (by decide) ?_
  exact hK172 (x1 + 1) (some (vI x2)) d3 d4 s3 h
noncomputable def f_X6_places_198 (K172 : Int → pS → Option (pS)) (K296 : pS → Option (pS)) (x1 : Int) (s : pS) : Option (pS) := ck (0 ≤ x1 ∧ x1 < 2) (f_X6_places_211 K172 K296 x1 (sA s 604 0 x1.toNat) s)
set_option maxRecDepth 10000 in
theorem t_X6_places_198 (xs : Nat → Int) (e : Nat) (q : pS) (X : List (Option pV) → List pV → Nat → pH → Prop) (hX : pm_clo 1001 xs (pCall pm_tx 1001 xs pm_P (e + 2)) (e + 2) mX6_places (eU q) X) (K172 : Int → pS → Option (pS)) (K296 : pS → Option (pS)) (hK172 : ∀ (x1 : Int) (d2 : Option pV) (d3 : Option pV) (d4 : Option pV) (s : pS), K172 x1 s = some q → X [some (vR (cc 6 0)), some (vI x1), d2, d3, d4] [] 172 (pW s)) (hK296 : ∀ (d0 : Option pV) (d1 : Option pV) (d2 : Option pV) (d3 : Option pV) (d4 : Option pV) (s : pS), K296 s = some q → X [d0, d1, d2, d3, d4] [] 296 (pW s)) : ∀  (x1 : Int) (d2 : Option pV) (d3 : Option pV) (d4 : Option pV) (s : pS), f_X6_places_198 K172 K296 x1 s = some q → X [some (vR (cc 6 0)), some (vI x1), d2, d3, d4] [] 198 (pW s) := by
  intro x1 d2 d3 d4 s h
  unfold f_X6_places_198 at h
  refine r_aload_n hX (p2 := 199) rfl rfl rfl ⟨_, Or.inl rfl⟩ ?_
  refine r_gf hX (p2 := 202) (v := vR (ca 604 0)) rfl rfl (hc6 0 (by decide)) rfl rfl rfl ?_
  refine r_iload_n hX (p2 := 203) rfl rfl rfl ?_
  obtain ⟨c1, h⟩ := ck_some h
  refine r_iaload hX (p2 := 204) (j := x1.toNat) rfl rfl (ha604 0 (by decide)) rfl rfl c1 rfl ?_
  refine r_goto hX (p2 := 211) rfl (by decide) ?_
  exact t_X6_places_211 xs e q X hX _ _ hK172 hK296 x1 (sA s 604 0 x1.toNat) d2 d3 d4 s h
noncomputable def f_X6_places_172 (K296 : pS → Option (pS)) : Nat → Int → pS → Option (pS)
  | 0, _, _ => none
  | n + 1, x1, s => (if 2 ≤ x1 then K296 s else (if x1 = (sI s 624 0) then f_X6_places_198 (f_X6_places_172 K296 n) K296 x1 s else ck (0 ≤ x1 ∧ x1 < 2) ((if (sA s 604 0 x1.toNat) ≤ (sI s 640 0) then f_X6_places_211 (f_X6_places_172 K296 n) K296 x1 (sI s 640 0) s else f_X6_places_198 (f_X6_places_172 K296 n) K296 x1 s))))
set_option maxRecDepth 10000 in
theorem t_X6_places_172 (xs : Nat → Int) (e : Nat) (q : pS) (X : List (Option pV) → List pV → Nat → pH → Prop) (hX : pm_clo 1001 xs (pCall pm_tx 1001 xs pm_P (e + 2)) (e + 2) mX6_places (eU q) X) (K296 : pS → Option (pS)) (hK296 : ∀ (d0 : Option pV) (d1 : Option pV) (d2 : Option pV) (d3 : Option pV) (d4 : Option pV) (s : pS), K296 s = some q → X [d0, d1, d2, d3, d4] [] 296 (pW s)) : ∀ (n : Nat) (x1 : Int) (d2 : Option pV) (d3 : Option pV) (d4 : Option pV) (s : pS), f_X6_places_172 K296 n x1 s = some q → X [some (vR (cc 6 0)), some (vI x1), d2, d3, d4] [] 172 (pW s) := by
  intro n
  induction n with
  | zero =>
    intro x1 d2 d3 d4 s h
    rw [f_X6_places_172] at h
    cases h
  | succ n ih =>
    intro x1 d2 d3 d4 s h
    rw [f_X6_places_172] at h
    refine r_iload_n hX (p2 := 173) rfl rfl rfl ?_
    refine r_iconst hX (p2 := 174) rfl rfl rfl ?_
    refine r_icmp hX (p2 := 296) (p3 := 177) (P := 2 ≤ x1) rfl (by decide) rfl rfl (fun p4 => ?_) (fun p4 => ?_)
    · have h := it_pos h p4
      exact hK296 (some (vR (cc 6 0))) (some (vI x1)) d2 d3 d4 s h
    · have h := it_neg h p4
      refine r_iload_n hX (p2 := 178) rfl rfl rfl ?_
      refine r_aload_n hX (p2 := 179) rfl rfl rfl ⟨_, Or.inl rfl⟩ ?_
      refine r_gf hX (p2 := 182) (v := vI (sI s 624 0)) rfl rfl (hc6 0 (by decide)) rfl rfl rfl ?_
      refine r_icmp hX (p2 := 198) (p3 := 185) (P := x1 = (sI s 624 0)) rfl (by decide) rfl rfl (fun p3 => ?_) (fun p3 => ?_)
      · have h := it_pos h p3
        exact t_X6_places_198 xs e q X hX _ _ ih hK296 x1 d2 d3 d4 s h
      · have h := it_neg h p3
        refine r_aload_n hX (p2 := 186) rfl rfl rfl ⟨_, Or.inl rfl⟩ ?_
        refine r_gf hX (p2 := 189) (v := vR (ca 604 0)) rfl rfl (hc6 0 (by decide)) rfl rfl rfl ?_
        refine r_iload_n hX (p2 := 190) rfl rfl rfl ?_
        obtain ⟨c1, h⟩ := ck_some h
        refine r_iaload hX (p2 := 191) (j := x1.toNat) rfl rfl (ha604 0 (by decide)) rfl rfl c1 rfl ?_
        refine r_aload_n hX (p2 := 192) rfl rfl rfl ⟨_, Or.inl rfl⟩ ?_
        refine r_gf hX (p2 := 195) (v := vI (sI s 640 0)) rfl rfl (hc6 0 (by decide)) rfl rfl rfl ?_
        refine r_icmp hX (p2 := 207) (p3 := 198) (P := (sA s 604 0 x1.toNat) ≤ (sI s 640 0)) rfl (by decide) rfl rfl (fun p2 => ?_) (fun p2 => ?_)
        · have h := it_pos h p2
          refine r_aload_n hX (p2 := 208) rfl rfl rfl ⟨_, Or.inl rfl⟩ ?_
          refine r_gf hX (p2 := 211) (v := vI (sI s 640 0)) rfl rfl (hc6 0 (by decide)) rfl rfl rfl ?_
          exact t_X6_places_211 xs e q X hX _ _ ih hK296 x1 (sI s 640 0) d2 d3 d4 s h
        · have h := it_neg h p2
          exact t_X6_places_198 xs e q X hX _ _ ih hK296 x1 d2 d3 d4 s h
noncomputable def f_X6_places (s : pS) : Option (pS) := (f_X6_counts s).bind (fun q1 => f_X6_places_6 (fun s2 => f_X6_places_28 (fun s3 => bs (wI s3 641 0 1) (fun s4 => bs (wI s4 642 0 1) (fun s5 => f_X6_places_59 (fun s6 => f_X6_places_106 (fun s7 => f_X6_places_143 (fun s8 => f_X6_places_172 (fun s9 => some s9) 400 0 s8) 400 0 s7) 400 0 s6) 400 0 s5))) 400 0 s2) 400 0 q1)
set_option maxRecDepth 10000 in
theorem c_X6_places (xs : Nat → Int) (e : Nat) (s : pS) (q : pS) (h : f_X6_places s = some q) : pCall pm_tx 1001 xs pm_P (e + 2 + 1) 137 [vR (cc 6 0)] (pW s) (.inl none) (pW q) := by
  refine pCall_of mX6_places rfl rfl (fun X hX => ?_)
  show X [some (vR (cc 6 0)), none, none, none, none] [] 0 (pW s)
  replace hX : pm_clo 1001 xs (pCall pm_tx 1001 xs pm_P (e + 2)) (e + 2) mX6_places (eU q) X := hX
  unfold f_X6_places at h
  refine r_aload_n hX (p2 := 1) rfl rfl rfl ⟨_, Or.inl rfl⟩ ?_
  obtain ⟨q1, hq1, h⟩ := bd_some h
  refine r_callv hX (p2 := 4) (v := none) (as := []) (r := []) (st2 := []) rfl rfl rfl rfl rfl (hc6 0 (by decide)) rfl rfl (c_X6_counts xs (e + 1) s q1 hq1) ?_
  refine r_iconst hX (p2 := 5) rfl rfl rfl ?_
  refine r_istore_n hX (p2 := 6) (ls2 := [some (vR (cc 6 0)), some (vI 0), none, none, none]) rfl rfl rfl rfl ?_
  refine t_X6_places_6 xs e q X hX _ (fun d1 d2 d3 d4 s2 h => ?_) 400 0 none none none q1 h
  refine r_iconst hX (p2 := 27) rfl rfl rfl ?_
  refine r_istore_n hX (p2 := 28) (ls2 := [some (vR (cc 6 0)), some (vI 0), d2, d3, d4]) rfl rfl rfl rfl ?_
  refine t_X6_places_28 xs e q X hX _ (fun d1 d2 d3 d4 s3 h => ?_) 400 0 d2 d3 d4 s2 h
  refine r_aload_n hX (p2 := 48) rfl rfl rfl ⟨_, Or.inl rfl⟩ ?_
  refine r_iconst hX (p2 := 49) rfl rfl rfl ?_
  obtain ⟨s4, hs4, h⟩ := bs_some h
  refine r_pfI hX (p2 := 52) rfl rfl (hc6 0 (by decide)) rfl rfl rfl rfl rfl rfl hs4 ?_
  refine r_aload_n hX (p2 := 53) rfl rfl rfl ⟨_, Or.inl rfl⟩ ?_
  refine r_iconst hX (p2 := 54) rfl rfl rfl ?_
  obtain ⟨s5, hs5, h⟩ := bs_some h
  refine r_pfI hX (p2 := 57) rfl rfl (hc6 0 (by decide)) rfl rfl rfl rfl rfl rfl hs5 ?_
  refine r_iconst hX (p2 := 58) rfl rfl rfl ?_
  refine r_istore_n hX (p2 := 59) (ls2 := [some (vR (cc 6 0)), some (vI 0), d2, d3, d4]) rfl rfl rfl rfl ?_
  refine t_X6_places_59 xs e q X hX _ (fun d1 d2 d3 d4 s6 h => ?_) 400 0 d2 d3 d4 s5 h
  refine r_iconst hX (p2 := 105) rfl rfl rfl ?_
  refine r_istore_n hX (p2 := 106) (ls2 := [some (vR (cc 6 0)), some (vI 0), d2, d3, d4]) rfl rfl rfl rfl ?_
  refine t_X6_places_106 xs e q X hX _ (fun d1 d2 d3 d4 s7 h => ?_) 400 0 d2 d3 d4 s6 h
  refine r_iconst hX (p2 := 142) rfl rfl rfl ?_
  refine r_istore_n hX (p2 := 143) (ls2 := [some (vR (cc 6 0)), some (vI 0), d2, d3, d4]) rfl rfl rfl rfl ?_
  refine t_X6_places_143 xs e q X hX _ (fun d1 d2 d3 d4 s8 h => ?_) 400 0 d2 d3 d4 s7 h
  refine r_iconst hX (p2 := 171) rfl rfl rfl ?_
  refine r_istore_n hX (p2 := 172) (ls2 := [some (vR (cc 6 0)), some (vI 0), d2, d3, d4]) rfl rfl rfl rfl ?_
  refine t_X6_places_172 xs e q X hX _ (fun d0 d1 d2 d3 d4 s9 h => ?_) 400 0 d2 d3 d4 s8 h
  exact r_return hX rfl rfl (eU_ok h)
noncomputable def f_X6_highOf_25 (y0 : Int) (s : pS) : Option (Int × pS) := some (y0, s)
set_option maxRecDepth 10000 in
theorem t_X6_highOf_25 (xs : Nat → Int) (e : Nat) (q : Int × pS) (X : List (Option pV) → List pV → Nat → pH → Prop) (hX : pm_clo 1001 xs (pCall pm_tx 1001 xs pm_P e) e mX6_highOf (eI q) X) : ∀  (y0 : Int) (d0 : Option pV) (d1 : Option pV) (d2 : Option pV) (s : pS), f_X6_highOf_25 y0 s = some q → X [d0, d1, d2] [vI y0] 25 (pW s) := by
  intro y0 d0 d1 d2 s h
  unfold f_X6_highOf_25 at h
  exact r_iretI hX rfl rfl (eI_ok h)
noncomputable def f_X6_highOf (a1 : Int) (a2 : Int) (s : pS) : Option (Int × pS) := ck (0 ≤ a1 ∧ a1 < 2) ((if (sA s 604 0 a1.toNat) ≤ a2 then f_X6_highOf_25 3 s else ck (inR (12 * a1)) (ck (inR ((12 * a1) + a2)) (ck (0 ≤ ((12 * a1) + a2) ∧ ((12 * a1) + a2) < 48) (f_X6_highOf_25 (sA s 606 0 ((12 * a1) + a2).toNat) s)))))
set_option maxRecDepth 10000 in
theorem c_X6_highOf (xs : Nat → Int) (e : Nat) (a1 : Int) (a2 : Int) (s : pS) (q : Int × pS) (h : f_X6_highOf a1 a2 s = some q) : pCall pm_tx 1001 xs pm_P (e + 1) 139 [vR (cc 6 0), vI a1, vI a2] (pW s) (.inl (some (vI q.1))) (pW q.2) := by
  refine pCall_of mX6_highOf rfl rfl (fun X hX => ?_)
  show X [some (vR (cc 6 0)), some (vI a1), some (vI a2)] [] 0 (pW s)
  replace hX : pm_clo 1001 xs (pCall pm_tx 1001 xs pm_P e) e mX6_highOf (eI q) X := hX
  unfold f_X6_highOf at h
  refine r_iload_n hX (p2 := 1) rfl rfl rfl ?_
  refine r_aload_n hX (p2 := 2) rfl rfl rfl ⟨_, Or.inl rfl⟩ ?_
  refine r_gf hX (p2 := 5) (v := vR (ca 604 0)) rfl rfl (hc6 0 (by decide)) rfl rfl rfl ?_
  refine r_iload_n hX (p2 := 6) rfl rfl rfl ?_
  obtain ⟨c1, h⟩ := ck_some h
  refine r_iaload hX (p2 := 7) (j := a1.toNat) rfl rfl (ha604 0 (by decide)) rfl rfl c1 rfl ?_
  refine r_icmp hX (p2 := 24) (p3 := 10) (P := (sA s 604 0 a1.toNat) ≤ a2) rfl (by decide) rfl rfl (fun p5 => ?_) (fun p5 => ?_)
  · have h := it_pos h p5
    refine r_iconst hX (p2 := 25) rfl rfl rfl ?_
    exact t_X6_highOf_25 xs e q X hX 3 (some (vR (cc 6 0))) (some (vI a1)) (some (vI a2)) s h
  · have h := it_neg h p5
    refine r_aload_n hX (p2 := 11) rfl rfl rfl ⟨_, Or.inl rfl⟩ ?_
    refine r_gf hX (p2 := 14) (v := vR (ca 606 0)) rfl rfl (hc6 0 (by decide)) rfl rfl rfl ?_
    refine r_bipush hX (p2 := 16) rfl rfl rfl ?_
    refine r_iload_n hX (p2 := 17) rfl rfl rfl ?_
    obtain ⟨c2, h⟩ := ck_some h
    refine r_imul hX (p2 := 18) rfl rfl c2 ?_
    refine r_iload_n hX (p2 := 19) rfl rfl rfl ?_
    obtain ⟨c3, h⟩ := ck_some h
    refine r_iadd hX (p2 := 20) rfl rfl c3 ?_
    obtain ⟨c4, h⟩ := ck_some h
    refine r_iaload hX (p2 := 21) (j := ((12 * a1) + a2).toNat) rfl rfl (ha606 0 (by decide)) rfl rfl c4 rfl ?_
    refine r_goto hX (p2 := 25) rfl (by decide) ?_
    exact t_X6_highOf_25 xs e q X hX (sA s 606 0 ((12 * a1) + a2).toNat) (some (vR (cc 6 0))) (some (vI a1)) (some (vI a2)) s h
noncomputable def f_X6_lowOf_25 (y0 : Int) (s : pS) : Option (Int × pS) := some (y0, s)
set_option maxRecDepth 10000 in
theorem t_X6_lowOf_25 (xs : Nat → Int) (e : Nat) (q : Int × pS) (X : List (Option pV) → List pV → Nat → pH → Prop) (hX : pm_clo 1001 xs (pCall pm_tx 1001 xs pm_P e) e mX6_lowOf (eI q) X) : ∀  (y0 : Int) (d0 : Option pV) (d1 : Option pV) (d2 : Option pV) (s : pS), f_X6_lowOf_25 y0 s = some q → X [d0, d1, d2] [vI y0] 25 (pW s) := by
  intro y0 d0 d1 d2 s h
  unfold f_X6_lowOf_25 at h
  exact r_iretI hX rfl rfl (eI_ok h)
noncomputable def f_X6_lowOf (a1 : Int) (a2 : Int) (s : pS) : Option (Int × pS) := ck (0 ≤ a1 ∧ a1 < 2) ((if (sA s 604 0 a1.toNat) ≤ a2 then f_X6_lowOf_25 3 s else ck (inR (12 * a1)) (ck (inR ((12 * a1) + a2)) (ck (0 ≤ ((12 * a1) + a2) ∧ ((12 * a1) + a2) < 48) (f_X6_lowOf_25 (sA s 605 0 ((12 * a1) + a2).toNat) s)))))
set_option maxRecDepth 10000 in
theorem c_X6_lowOf (xs : Nat → Int) (e : Nat) (a1 : Int) (a2 : Int) (s : pS) (q : Int × pS) (h : f_X6_lowOf a1 a2 s = some q) : pCall pm_tx 1001 xs pm_P (e + 1) 138 [vR (cc 6 0), vI a1, vI a2] (pW s) (.inl (some (vI q.1))) (pW q.2) := by
  refine pCall_of mX6_lowOf rfl rfl (fun X hX => ?_)
  show X [some (vR (cc 6 0)), some (vI a1), some (vI a2)] [] 0 (pW s)
  replace hX : pm_clo 1001 xs (pCall pm_tx 1001 xs pm_P e) e mX6_lowOf (eI q) X := hX
  unfold f_X6_lowOf at h
  refine r_iload_n hX (p2 := 1) rfl rfl rfl ?_
  refine r_aload_n hX (p2 := 2) rfl rfl rfl ⟨_, Or.inl rfl⟩ ?_
  refine r_gf hX (p2 := 5) (v := vR (ca 604 0)) rfl rfl (hc6 0 (by decide)) rfl rfl rfl ?_
  refine r_iload_n hX (p2 := 6) rfl rfl rfl ?_
  obtain ⟨c1, h⟩ := ck_some h
  refine r_iaload hX (p2 := 7) (j := a1.toNat) rfl rfl (ha604 0 (by decide)) rfl rfl c1 rfl ?_
  refine r_icmp hX (p2 := 24) (p3 := 10) (P := (sA s 604 0 a1.toNat) ≤ a2) rfl (by decide) rfl rfl (fun p5 => ?_) (fun p5 => ?_)
  · have h := it_pos h p5
    refine r_iconst hX (p2 := 25) rfl rfl rfl ?_
    exact t_X6_lowOf_25 xs e q X hX 3 (some (vR (cc 6 0))) (some (vI a1)) (some (vI a2)) s h
  · have h := it_neg h p5
    refine r_aload_n hX (p2 := 11) rfl rfl rfl ⟨_, Or.inl rfl⟩ ?_
    refine r_gf hX (p2 := 14) (v := vR (ca 605 0)) rfl rfl (hc6 0 (by decide)) rfl rfl rfl ?_
    refine r_bipush hX (p2 := 16) rfl rfl rfl ?_
    refine r_iload_n hX (p2 := 17) rfl rfl rfl ?_
    obtain ⟨c2, h⟩ := ck_some h
    refine r_imul hX (p2 := 18) rfl rfl c2 ?_
    refine r_iload_n hX (p2 := 19) rfl rfl rfl ?_
    obtain ⟨c3, h⟩ := ck_some h
    refine r_iadd hX (p2 := 20) rfl rfl c3 ?_
    obtain ⟨c4, h⟩ := ck_some h
    refine r_iaload hX (p2 := 21) (j := ((12 * a1) + a2).toNat) rfl rfl (ha605 0 (by decide)) rfl rfl c4 rfl ?_
    refine r_goto hX (p2 := 25) rfl (by decide) ?_
    exact t_X6_lowOf_25 xs e q X hX (sA s 605 0 ((12 * a1) + a2).toNat) (some (vR (cc 6 0))) (some (vI a1)) (some (vI a2)) s h
noncomputable def f_X6_raise_37 (s : pS) : Option (pS) := some s
set_option maxRecDepth 10000 in
theorem t_X6_raise_37 (xs : Nat → Int) (e : Nat) (q : pS) (X : List (Option pV) → List pV → Nat → pH → Prop) (hX : pm_clo 1001 xs (pCall pm_tx 1001 xs pm_P e) e mX6_raise (eU q) X) : ∀  (d0 : Option pV) (d1 : Option pV) (s : pS), f_X6_raise_37 s = some q → X [d0, d1] [] 37 (pW s) := by
  intro d0 d1 s h
  unfold f_X6_raise_37 at h
  exact r_return hX rfl rfl (eU_ok h)
noncomputable def f_X6_raise (a1 : Int) (s : pS) : Option (pS) := ck (0 ≤ a1 ∧ a1 < 24) ((if (sA s 636 0 a1.toNat) ≠ 0 then f_X6_raise_37 s else ck (0 ≤ a1 ∧ a1 < 24) (ck (0 ≤ a1 ∧ a1 < 24) ((if 0 ≤ (pm_fc .g (sB s 635 0 a1.toNat) (sB s 634 0 a1.toNat)) then f_X6_raise_37 s else ck (0 ≤ a1 ∧ a1 < 24) (ck (0 ≤ a1 ∧ a1 < 24) (bs (wB s 635 0 (pm_up (sB s 635 0) a1.toNat (sB s 634 0 a1.toNat))) (fun s6 => f_X6_raise_37 s6))))))))
set_option maxRecDepth 10000 in
theorem c_X6_raise (xs : Nat → Int) (e : Nat) (a1 : Int) (s : pS) (q : pS) (h : f_X6_raise a1 s = some q) : pCall pm_tx 1001 xs pm_P (e + 1) 140 [vR (cc 6 0), vI a1] (pW s) (.inl none) (pW q) := by
  refine pCall_of mX6_raise rfl rfl (fun X hX => ?_)
  show X [some (vR (cc 6 0)), some (vI a1)] [] 0 (pW s)
  replace hX : pm_clo 1001 xs (pCall pm_tx 1001 xs pm_P e) e mX6_raise (eU q) X := hX
  unfold f_X6_raise at h
  refine r_aload_n hX (p2 := 1) rfl rfl rfl ⟨_, Or.inl rfl⟩ ?_
  refine r_gf hX (p2 := 4) (v := vR (ca 636 0)) rfl rfl (hc6 0 (by decide)) rfl rfl rfl ?_
  refine r_iload_n hX (p2 := 5) rfl rfl rfl ?_
  obtain ⟨c1, h⟩ := ck_some h
  refine r_baload hX (p2 := 6) (j := a1.toNat) rfl rfl (ha636 0 (by decide)) rfl rfl c1 rfl ?_
  refine r_if hX (p2 := 37) (p3 := 9) (P := (sA s 636 0 a1.toNat) ≠ 0) rfl (by decide) rfl rfl (fun p8 => ?_) (fun p8 => ?_)
  · have h := it_pos h p8
    exact t_X6_raise_37 xs e q X hX (some (vR (cc 6 0))) (some (vI a1)) s h
  · have h := it_neg h p8
    refine r_aload_n hX (p2 := 10) rfl rfl rfl ⟨_, Or.inl rfl⟩ ?_
    refine r_gf hX (p2 := 13) (v := vR (ca 635 0)) rfl rfl (hc6 0 (by decide)) rfl rfl rfl ?_
    refine r_iload_n hX (p2 := 14) rfl rfl rfl ?_
    obtain ⟨c2, h⟩ := ck_some h
    refine r_faload hX (p2 := 15) (j := a1.toNat) rfl rfl (ha635 0 (by decide)) rfl rfl c2 rfl ?_
    refine r_aload_n hX (p2 := 16) rfl rfl rfl ⟨_, Or.inl rfl⟩ ?_
    refine r_gf hX (p2 := 19) (v := vR (ca 634 0)) rfl rfl (hc6 0 (by decide)) rfl rfl rfl ?_
    refine r_iload_n hX (p2 := 20) rfl rfl rfl ?_
    obtain ⟨c3, h⟩ := ck_some h
    refine r_faload hX (p2 := 21) (j := a1.toNat) rfl rfl (ha634 0 (by decide)) rfl rfl c3 rfl ?_
    refine r_fcmp hX (p2 := 22) rfl rfl ?_
    refine r_if hX (p2 := 37) (p3 := 25) (P := 0 ≤ (pm_fc .g (sB s 635 0 a1.toNat) (sB s 634 0 a1.toNat))) rfl (by decide) rfl rfl (fun p7 => ?_) (fun p7 => ?_)
    · have h := it_pos h p7
      exact t_X6_raise_37 xs e q X hX (some (vR (cc 6 0))) (some (vI a1)) s h
    · have h := it_neg h p7
      refine r_aload_n hX (p2 := 26) rfl rfl rfl ⟨_, Or.inl rfl⟩ ?_
      refine r_gf hX (p2 := 29) (v := vR (ca 635 0)) rfl rfl (hc6 0 (by decide)) rfl rfl rfl ?_
      refine r_iload_n hX (p2 := 30) rfl rfl rfl ?_
      refine r_aload_n hX (p2 := 31) rfl rfl rfl ⟨_, Or.inl rfl⟩ ?_
      refine r_gf hX (p2 := 34) (v := vR (ca 634 0)) rfl rfl (hc6 0 (by decide)) rfl rfl rfl ?_
      refine r_iload_n hX (p2 := 35) rfl rfl rfl ?_
      obtain ⟨c4, h⟩ := ck_some h
      refine r_faload hX (p2 := 36) (j := a1.toNat) rfl rfl (ha634 0 (by decide)) rfl rfl c4 rfl ?_
      obtain ⟨c5, h⟩ := ck_some h
      obtain ⟨s6, hs6, h⟩ := bs_some h
      refine r_fastore hX (p2 := 37) (j := a1.toNat) rfl rfl (ha635 0 (by decide)) rfl rfl c5 rfl hs6 ?_
      exact t_X6_raise_37 xs e q X hX (some (vR (cc 6 0))) (some (vI a1)) s6 h
noncomputable def f_X6_begin_109 (K2 : Int → Int → pS → Option (pS)) (K121 : pS → Option (pS)) (x1 : Int) (x2 : Int) (x3 : Int) (y1 : Int) (y2 : UInt32) (s : pS) : Option (pS) := ck (0 ≤ y1 ∧ y1 < 24) (bs (wB s 635 0 (pm_up (sB s 635 0) y1.toNat y2)) (fun s2 => (f_X6_raise x3 s2).bind (fun q3 => ck (inR (x2 + 1)) (K2 x1 (x2 + 1) q3))))
set_option maxRecDepth 10000 in
theorem t_X6_begin_109 (xs : Nat → Int) (e : Nat) (q : pS) (X : List (Option pV) → List pV → Nat → pH → Prop) (hX : pm_clo 1001 xs (pCall pm_tx 1001 xs pm_P (e + 1)) (e + 1) mX6_begin (eU q) X) (K2 : Int → Int → pS → Option (pS)) (K121 : pS → Option (pS)) (hK2 : ∀ (x1 : Int) (x2 : Int) (d3 : Option pV) (d4 : Option pV) (s : pS), K2 x1 x2 s = some q → X [some (vR (cc 6 0)), some (vI x1), some (vI x2), d3, d4] [] 2 (pW s)) (hK121 : ∀ (d0 : Option pV) (d1 : Option pV) (d2 : Option pV) (d3 : Option pV) (d4 : Option pV) (s : pS), K121 s = some q → X [d0, d1, d2, d3, d4] [] 121 (pW s)) : ∀  (x1 : Int) (x2 : Int) (x3 : Int) (y1 : Int) (y2 : UInt32) (d4 : Option pV) (s : pS), f_X6_begin_109 K2 K121 x1 x2 x3 y1 y2 s = some q → X [some (vR (cc 6 0)), some (vI x1), some (vI x2), some (vI x3), d4] [vF y2, vI y1, vR (ca 635 0)] 109 (pW s) := by
  intro x1 x2 x3 y1 y2 d4 s h
  unfold f_X6_begin_109 at h
  obtain ⟨c1, h⟩ := ck_some h
  obtain ⟨s2, hs2, h⟩ := bs_some h
  refine r_fastore hX (p2 := 110) (j := y1.toNat) rfl rfl (ha635 0 (by decide)) rfl rfl c1 rfl hs2 ?_
  refine r_aload_n hX (p2 := 111) rfl rfl rfl ⟨_, Or.inl rfl⟩ ?_
  refine r_iload_n hX (p2 := 112) rfl rfl rfl ?_
  obtain ⟨q3, hq3, h⟩ := bd_some h
  refine r_callv hX (p2 := 115) (v := none) (as := [vI x3]) (r := []) (st2 := []) rfl rfl rfl rfl rfl (hc6 0 (by decide)) rfl rfl (c_X6_raise xs e x3 s2 q3 hq3) ?_
  obtain ⟨c4, h⟩ := ck_some h
  refine r_iinc hX (p2 := 118) (ls2 := [some (vR (cc 6 0)), some (vI x1), some (vI (x2 + 1)), some (vI x3), d4]) rfl rfl rfl rfl c4 rfl ?_
  refine r_goto hX (p2 := 2) rfl (by decide) ?_
  exact hK2 x1 (x2 + 1) (some (vI x3)) d4 q3 h
noncomputable def f_X6_begin_73 (K2 : Int → Int → pS → Option (pS)) (K121 : pS → Option (pS)) (x1 : Int) (x2 : Int) (x3 : Int) (x4 : Int) (y1 : Int) (y2 : Int) (s : pS) : Option (pS) := ck (0 ≤ y1 ∧ y1 < 24) (ck (y2 = 0 ∨ y2 = 1) (bs (wA s 636 0 (pm_up (sA s 636 0) y1.toNat y2)) (fun s3 => (if x4 ≠ 0 then (if x4 ≠ 4 then f_X6_begin_109 K2 K121 x1 x2 x3 x3 FP.fconst0 s3 else ck (0 ≤ x3 ∧ x3 < 24) (f_X6_begin_109 K2 K121 x1 x2 x3 x3 (sB s3 634 0 x3.toNat) s3)) else ck (0 ≤ x3 ∧ x3 < 48) (f_X6_begin_109 K2 K121 x1 x2 x3 x3 (sB s3 608 0 x3.toNat) s3)))))
set_option maxRecDepth 10000 in
theorem t_X6_begin_73 (xs : Nat → Int) (e : Nat) (q : pS) (X : List (Option pV) → List pV → Nat → pH → Prop) (hX : pm_clo 1001 xs (pCall pm_tx 1001 xs pm_P (e + 1)) (e + 1) mX6_begin (eU q) X) (K2 : Int → Int → pS → Option (pS)) (K121 : pS → Option (pS)) (hK2 : ∀ (x1 : Int) (x2 : Int) (d3 : Option pV) (d4 : Option pV) (s : pS), K2 x1 x2 s = some q → X [some (vR (cc 6 0)), some (vI x1), some (vI x2), d3, d4] [] 2 (pW s)) (hK121 : ∀ (d0 : Option pV) (d1 : Option pV) (d2 : Option pV) (d3 : Option pV) (d4 : Option pV) (s : pS), K121 s = some q → X [d0, d1, d2, d3, d4] [] 121 (pW s)) : ∀  (x1 : Int) (x2 : Int) (x3 : Int) (x4 : Int) (y1 : Int) (y2 : Int) (s : pS), f_X6_begin_73 K2 K121 x1 x2 x3 x4 y1 y2 s = some q → X [some (vR (cc 6 0)), some (vI x1), some (vI x2), some (vI x3), some (vI x4)] [vI y2, vI y1, vR (ca 636 0)] 73 (pW s) := by
  intro x1 x2 x3 x4 y1 y2 s h
  unfold f_X6_begin_73 at h
  obtain ⟨c1, h⟩ := ck_some h
  obtain ⟨c2, h⟩ := ck_some h
  obtain ⟨s3, hs3, h⟩ := bs_some h
  refine r_bastore hX (p2 := 74) (j := y1.toNat) rfl rfl (ha636 0 (by decide)) rfl rfl c1 rfl c2 hs3 ?_
  refine r_aload_n hX (p2 := 75) rfl rfl rfl ⟨_, Or.inl rfl⟩ ?_
  refine r_gf hX (p2 := 78) (v := vR (ca 635 0)) rfl rfl (hc6 0 (by decide)) rfl rfl rfl ?_
  refine r_iload_n hX (p2 := 79) rfl rfl rfl ?_
  refine r_iload hX (p2 := 81) rfl rfl rfl ?_
  refine r_if hX (p2 := 93) (p3 := 84) (P := x4 ≠ 0) rfl (by decide) rfl rfl (fun p7 => ?_) (fun p7 => ?_)
  · have h := it_pos h p7
    refine r_iload hX (p2 := 95) rfl rfl rfl ?_
    refine r_iconst hX (p2 := 96) rfl rfl rfl ?_
    refine r_icmp hX (p2 := 108) (p3 := 99) (P := x4 ≠ 4) rfl (by decide) rfl rfl (fun p5 => ?_) (fun p5 => ?_)
    · have h := it_pos h p5
      refine r_fconst0 hX (p2 := 109) rfl rfl ?_
      exact t_X6_begin_109 xs e q X hX _ _ hK2 hK121 x1 x2 x3 x3 FP.fconst0 (some (vI x4)) s3 h
    · have h := it_neg h p5
      refine r_aload_n hX (p2 := 100) rfl rfl rfl ⟨_, Or.inl rfl⟩ ?_
      refine r_gf hX (p2 := 103) (v := vR (ca 634 0)) rfl rfl (hc6 0 (by decide)) rfl rfl rfl ?_
      refine r_iload_n hX (p2 := 104) rfl rfl rfl ?_
      obtain ⟨c4, h⟩ := ck_some h
      refine r_faload hX (p2 := 105) (j := x3.toNat) rfl rfl (ha634 0 (by decide)) rfl rfl c4 rfl ?_
      refine r_goto hX (p2 := 109) rfl (by decide) ?_
      exact t_X6_begin_109 xs e q X hX _ _ hK2 hK121 x1 x2 x3 x3 (sB s3 634 0 x3.toNat) (some (vI x4)) s3 h
  · have h := it_neg h p7
    refine r_aload_n hX (p2 := 85) rfl rfl rfl ⟨_, Or.inl rfl⟩ ?_
    refine r_gf hX (p2 := 88) (v := vR (ca 608 0)) rfl rfl (hc6 0 (by decide)) rfl rfl rfl ?_
    refine r_iload_n hX (p2 := 89) rfl rfl rfl ?_
    obtain ⟨c6, h⟩ := ck_some h
    refine r_faload hX (p2 := 90) (j := x3.toNat) rfl rfl (ha608 0 (by decide)) rfl rfl c6 rfl ?_
    refine r_goto hX (p2 := 109) rfl (by decide) ?_
    exact t_X6_begin_109 xs e q X hX _ _ hK2 hK121 x1 x2 x3 x3 (sB s3 608 0 x3.toNat) (some (vI x4)) s3 h
noncomputable def f_X6_begin_72 (K2 : Int → Int → pS → Option (pS)) (K121 : pS → Option (pS)) (x1 : Int) (x2 : Int) (x3 : Int) (x4 : Int) (y1 : Int) (s : pS) : Option (pS) := f_X6_begin_73 K2 K121 x1 x2 x3 x4 y1 0 s
set_option maxRecDepth 10000 in
theorem t_X6_begin_72 (xs : Nat → Int) (e : Nat) (q : pS) (X : List (Option pV) → List pV → Nat → pH → Prop) (hX : pm_clo 1001 xs (pCall pm_tx 1001 xs pm_P (e + 1)) (e + 1) mX6_begin (eU q) X) (K2 : Int → Int → pS → Option (pS)) (K121 : pS → Option (pS)) (hK2 : ∀ (x1 : Int) (x2 : Int) (d3 : Option pV) (d4 : Option pV) (s : pS), K2 x1 x2 s = some q → X [some (vR (cc 6 0)), some (vI x1), some (vI x2), d3, d4] [] 2 (pW s)) (hK121 : ∀ (d0 : Option pV) (d1 : Option pV) (d2 : Option pV) (d3 : Option pV) (d4 : Option pV) (s : pS), K121 s = some q → X [d0, d1, d2, d3, d4] [] 121 (pW s)) : ∀  (x1 : Int) (x2 : Int) (x3 : Int) (x4 : Int) (y1 : Int) (s : pS), f_X6_begin_72 K2 K121 x1 x2 x3 x4 y1 s = some q → X [some (vR (cc 6 0)), some (vI x1), some (vI x2), some (vI x3), some (vI x4)] [vI y1, vR (ca 636 0)] 72 (pW s) := by
  intro x1 x2 x3 x4 y1 s h
  unfold f_X6_begin_72 at h
  refine r_iconst hX (p2 := 73) rfl rfl rfl ?_
  exact t_X6_begin_73 xs e q X hX _ _ hK2 hK121 x1 x2 x3 x4 y1 0 s h
noncomputable def f_X6_begin_51 (K2 : Int → Int → pS → Option (pS)) (K121 : pS → Option (pS)) (x1 : Int) (x2 : Int) (x3 : Int) (x4 : Int) (y1 : Int) (y2 : UInt32) (s : pS) : Option (pS) := ck (0 ≤ y1 ∧ y1 < 24) (bs (wB s 634 0 (pm_up (sB s 634 0) y1.toNat y2)) (fun s2 => (if x4 = 0 then f_X6_begin_72 K2 K121 x1 x2 x3 x4 x3 s2 else (if x4 = 4 then f_X6_begin_72 K2 K121 x1 x2 x3 x4 x3 s2 else f_X6_begin_73 K2 K121 x1 x2 x3 x4 x3 1 s2))))
set_option maxRecDepth 10000 in
theorem t_X6_begin_51 (xs : Nat → Int) (e : Nat) (q : pS) (X : List (Option pV) → List pV → Nat → pH → Prop) (hX : pm_clo 1001 xs (pCall pm_tx 1001 xs pm_P (e + 1)) (e + 1) mX6_begin (eU q) X) (K2 : Int → Int → pS → Option (pS)) (K121 : pS → Option (pS)) (hK2 : ∀ (x1 : Int) (x2 : Int) (d3 : Option pV) (d4 : Option pV) (s : pS), K2 x1 x2 s = some q → X [some (vR (cc 6 0)), some (vI x1), some (vI x2), d3, d4] [] 2 (pW s)) (hK121 : ∀ (d0 : Option pV) (d1 : Option pV) (d2 : Option pV) (d3 : Option pV) (d4 : Option pV) (s : pS), K121 s = some q → X [d0, d1, d2, d3, d4] [] 121 (pW s)) : ∀  (x1 : Int) (x2 : Int) (x3 : Int) (x4 : Int) (y1 : Int) (y2 : UInt32) (s : pS), f_X6_begin_51 K2 K121 x1 x2 x3 x4 y1 y2 s = some q → X [some (vR (cc 6 0)), some (vI x1), some (vI x2), some (vI x3), some (vI x4)] [vF y2, vI y1, vR (ca 634 0)] 51 (pW s) := by
  intro x1 x2 x3 x4 y1 y2 s h
  unfold f_X6_begin_51 at h
  obtain ⟨c1, h⟩ := ck_some h
  obtain ⟨s2, hs2, h⟩ := bs_some h
  refine r_fastore hX (p2 := 52) (j := y1.toNat) rfl rfl (ha634 0 (by decide)) rfl rfl c1 rfl hs2 ?_
  refine r_aload_n hX (p2 := 53) rfl rfl rfl ⟨_, Or.inl rfl⟩ ?_
  refine r_gf hX (p2 := 56) (v := vR (ca 636 0)) rfl rfl (hc6 0 (by decide)) rfl rfl rfl ?_
  refine r_iload_n hX (p2 := 57) rfl rfl rfl ?_
  refine r_iload hX (p2 := 59) rfl rfl rfl ?_
  refine r_if hX (p2 := 72) (p3 := 62) (P := x4 = 0) rfl (by decide) rfl rfl (fun p4 => ?_) (fun p4 => ?_)
  · have h := it_pos h p4
    exact t_X6_begin_72 xs e q X hX _ _ hK2 hK121 x1 x2 x3 x4 x3 s2 h
  · have h := it_neg h p4
    refine r_iload hX (p2 := 64) rfl rfl rfl ?_
    refine r_iconst hX (p2 := 65) rfl rfl rfl ?_
    refine r_icmp hX (p2 := 72) (p3 := 68) (P := x4 = 4) rfl (by decide) rfl rfl (fun p3 => ?_) (fun p3 => ?_)
    · have h := it_pos h p3
      exact t_X6_begin_72 xs e q X hX _ _ hK2 hK121 x1 x2 x3 x4 x3 s2 h
    · have h := it_neg h p3
      refine r_iconst hX (p2 := 69) rfl rfl rfl ?_
      refine r_goto hX (p2 := 73) rfl (by decide) ?_
      exact t_X6_begin_73 xs e q X hX _ _ hK2 hK121 x1 x2 x3 x4 x3 1 s2 h
noncomputable def f_X6_begin_2 (K121 : pS → Option (pS)) : Nat → Int → Int → pS → Option (pS)
  | 0, _, _, _ => none
  | n + 1, x1, x2, s => ck (0 ≤ x1 ∧ x1 < 2) ((if (sA s 633 0 x1.toNat) ≤ x2 then K121 s else ck (inR (12 * x1)) (ck (inR ((12 * x1) + x2)) (bs (((12 * x1) + x2)) (fun v4 => (f_X6_highOf x1 x2 s).bind (fun q5 => (f_X6_lowOf x1 x2 q5.2).bind (fun q6 => (if q6.1 ≠ 0 then f_X6_begin_51 (f_X6_begin_2 K121 n) K121 x1 x2 v4 q5.1 v4 FP.fconst0 q6.2 else ck (0 ≤ v4 ∧ v4 < 48) (f_X6_begin_51 (f_X6_begin_2 K121 n) K121 x1 x2 v4 q5.1 v4 (sB q6.2 607 0 v4.toNat) q6.2)))))))))
set_option maxRecDepth 10000 in
theorem t_X6_begin_2 (xs : Nat → Int) (e : Nat) (q : pS) (X : List (Option pV) → List pV → Nat → pH → Prop) (hX : pm_clo 1001 xs (pCall pm_tx 1001 xs pm_P (e + 1)) (e + 1) mX6_begin (eU q) X) (K121 : pS → Option (pS)) (hK121 : ∀ (d0 : Option pV) (d1 : Option pV) (d2 : Option pV) (d3 : Option pV) (d4 : Option pV) (s : pS), K121 s = some q → X [d0, d1, d2, d3, d4] [] 121 (pW s)) : ∀ (n : Nat) (x1 : Int) (x2 : Int) (d3 : Option pV) (d4 : Option pV) (s : pS), f_X6_begin_2 K121 n x1 x2 s = some q → X [some (vR (cc 6 0)), some (vI x1), some (vI x2), d3, d4] [] 2 (pW s) := by
  intro n
  induction n with
  | zero =>
    intro x1 x2 d3 d4 s h
    rw [f_X6_begin_2] at h
    cases h
  | succ n ih =>
    intro x1 x2 d3 d4 s h
    rw [f_X6_begin_2] at h
    refine r_iload_n hX (p2 := 3) rfl rfl rfl ?_
    refine r_aload_n hX (p2 := 4) rfl rfl rfl ⟨_, Or.inl rfl⟩ ?_
    refine r_gf hX (p2 := 7) (v := vR (ca 633 0)) rfl rfl (hc6 0 (by decide)) rfl rfl rfl ?_
    refine r_iload_n hX (p2 := 8) rfl rfl rfl ?_
    obtain ⟨c1, h⟩ := ck_some h
    refine r_iaload hX (p2 := 9) (j := x1.toNat) rfl rfl (ha633 0 (by decide)) rfl rfl c1 rfl ?_
    refine r_icmp hX (p2 := 121) (p3 := 12) (P := (sA s 633 0 x1.toNat) ≤ x2) rfl (by decide) rfl rfl (fun p9 => ?_) (fun p9 => ?_)
    · have h := it_pos h p9
      exact hK121 (some (vR (cc 6 0))) (some (vI x1)) (some (vI x2)) d3 d4 s h
    · have h := it_neg h p9
      refine r_bipush hX (p2 := 14) rfl rfl rfl ?_
      refine r_iload_n hX (p2 := 15) rfl rfl rfl ?_
      obtain ⟨c2, h⟩ := ck_some h
      refine r_imul hX (p2 := 16) rfl rfl c2 ?_
      refine r_iload_n hX (p2 := 17) rfl rfl rfl ?_
      obtain ⟨c3, h⟩ := ck_some h
      refine r_iadd hX (p2 := 18) rfl rfl c3 ?_
      obtain ⟨v4, hv4, h⟩ := bs_some h
      refine r_istoreE_n hX (p2 := 19) (ls2 := [some (vR (cc 6 0)), some (vI x1), some (vI x2), some (vI v4), d4]) rfl rfl hv4 rfl rfl ?_
      refine r_aload_n hX (p2 := 20) rfl rfl rfl ⟨_, Or.inl rfl⟩ ?_
      refine r_iload_n hX (p2 := 21) rfl rfl rfl ?_
      refine r_iload_n hX (p2 := 22) rfl rfl rfl ?_
      obtain ⟨q5, hq5, h⟩ := bd_some h
      refine r_callv hX (p2 := 25) (v := some (vI q5.1)) (as := [vI x1, vI x2]) (r := []) (st2 := [vI q5.1]) rfl rfl rfl rfl rfl (hc6 0 (by decide)) rfl rfl (c_X6_highOf xs e x1 x2 s q5 hq5) ?_
      refine r_istore hX (p2 := 27) (ls2 := [some (vR (cc 6 0)), some (vI x1), some (vI x2), some (vI v4), some (vI q5.1)]) rfl rfl rfl rfl ?_
      refine r_aload_n hX (p2 := 28) rfl rfl rfl ⟨_, Or.inl rfl⟩ ?_
      refine r_gf hX (p2 := 31) (v := vR (ca 634 0)) rfl rfl (hc6 0 (by decide)) rfl rfl rfl ?_
      refine r_iload_n hX (p2 := 32) rfl rfl rfl ?_
      refine r_aload_n hX (p2 := 33) rfl rfl rfl ⟨_, Or.inl rfl⟩ ?_
      refine r_iload_n hX (p2 := 34) rfl rfl rfl ?_
      refine r_iload_n hX (p2 := 35) rfl rfl rfl ?_
      obtain ⟨q6, hq6, h⟩ := bd_some h
      refine r_callv hX (p2 := 38) (v := some (vI q6.1)) (as := [vI x1, vI x2]) (r := [vI v4, vR (ca 634 0)]) (st2 := [vI q6.1, vI v4, vR (ca 634 0)]) rfl rfl rfl rfl rfl (hc6 0 (by decide)) rfl rfl (c_X6_lowOf xs e x1 x2 q5.2 q6 hq6) ?_
      refine r_if hX (p2 := 50) (p3 := 41) (P := q6.1 ≠ 0) rfl (by decide) rfl rfl (fun p8 => ?_) (fun p8 => ?_)
      · have h := it_pos h p8
        refine r_fconst0 hX (p2 := 51) rfl rfl ?_
        exact t_X6_begin_51 xs e q X hX _ _ ih hK121 x1 x2 v4 q5.1 v4 FP.fconst0 q6.2 h
      · have h := it_neg h p8
        refine r_aload_n hX (p2 := 42) rfl rfl rfl ⟨_, Or.inl rfl⟩ ?_
        refine r_gf hX (p2 := 45) (v := vR (ca 607 0)) rfl rfl (hc6 0 (by decide)) rfl rfl rfl ?_
        refine r_iload_n hX (p2 := 46) rfl rfl rfl ?_
        obtain ⟨c7, h⟩ := ck_some h
        refine r_faload hX (p2 := 47) (j := v4.toNat) rfl rfl (ha607 0 (by decide)) rfl rfl c7 rfl ?_
        refine r_goto hX (p2 := 51) rfl (by decide) ?_
        exact t_X6_begin_51 xs e q X hX _ _ ih hK121 x1 x2 v4 q5.1 v4 (sB q6.2 607 0 v4.toNat) q6.2 h
noncomputable def f_X6_begin (a1 : Int) (s : pS) : Option (pS) := f_X6_begin_2 (fun s1 => some s1) 400 a1 0 s
set_option maxRecDepth 10000 in
theorem c_X6_begin (xs : Nat → Int) (e : Nat) (a1 : Int) (s : pS) (q : pS) (h : f_X6_begin a1 s = some q) : pCall pm_tx 1001 xs pm_P (e + 1 + 1) 141 [vR (cc 6 0), vI a1] (pW s) (.inl none) (pW q) := by
  refine pCall_of mX6_begin rfl rfl (fun X hX => ?_)
  show X [some (vR (cc 6 0)), some (vI a1), none, none, none] [] 0 (pW s)
  replace hX : pm_clo 1001 xs (pCall pm_tx 1001 xs pm_P (e + 1)) (e + 1) mX6_begin (eU q) X := hX
  unfold f_X6_begin at h
  refine r_iconst hX (p2 := 1) rfl rfl rfl ?_
  refine r_istore_n hX (p2 := 2) (ls2 := [some (vR (cc 6 0)), some (vI a1), some (vI 0), none, none]) rfl rfl rfl rfl ?_
  refine t_X6_begin_2 xs e q X hX _ (fun d0 d1 d2 d3 d4 s1 h => ?_) 400 a1 0 none none s h
  exact r_return hX rfl rfl (eU_ok h)
noncomputable def f_X6_left_9 (K39 : Int → UInt32 → pS → Option (UInt32 × pS)) : Nat → Int → UInt32 → Int → pS → Option (UInt32 × pS)
  | 0, _, _, _, _ => none
  | n + 1, x1, x2, x3, s => ck (0 ≤ x1 ∧ x1 < 2) ((if (sA s 633 0 x1.toNat) ≤ x3 then K39 x1 x2 s else ck (inR (12 * x1)) (ck (inR ((12 * x1) + x3)) (ck (0 ≤ ((12 * x1) + x3) ∧ ((12 * x1) + x3) < 24) (ck (vf_n32 (FP.fsub x2 (sB s 634 0 ((12 * x1) + x3).toNat))) (bs ((FP.fsub x2 (sB s 634 0 ((12 * x1) + x3).toNat))) (fun v6 => ck (inR (x3 + 1)) (f_X6_left_9 K39 n x1 v6 (x3 + 1) s))))))))
set_option maxRecDepth 10000 in
theorem t_X6_left_9 (xs : Nat → Int) (e : Nat) (q : UInt32 × pS) (X : List (Option pV) → List pV → Nat → pH → Prop) (hX : pm_clo 1001 xs (pCall pm_tx 1001 xs pm_P e) e mX6_left (eF q) X) (K39 : Int → UInt32 → pS → Option (UInt32 × pS)) (hK39 : ∀ (x1 : Int) (x2 : UInt32) (d3 : Option pV) (s : pS), K39 x1 x2 s = some q → X [some (vR (cc 6 0)), some (vI x1), some (vF x2), d3] [] 39 (pW s)) : ∀ (n : Nat) (x1 : Int) (x2 : UInt32) (x3 : Int) (s : pS), f_X6_left_9 K39 n x1 x2 x3 s = some q → X [some (vR (cc 6 0)), some (vI x1), some (vF x2), some (vI x3)] [] 9 (pW s) := by
  intro n
  induction n with
  | zero =>
    intro x1 x2 x3 s h
    rw [f_X6_left_9] at h
    cases h
  | succ n ih =>
    intro x1 x2 x3 s h
    rw [f_X6_left_9] at h
    refine r_iload_n hX (p2 := 10) rfl rfl rfl ?_
    refine r_aload_n hX (p2 := 11) rfl rfl rfl ⟨_, Or.inl rfl⟩ ?_
    refine r_gf hX (p2 := 14) (v := vR (ca 633 0)) rfl rfl (hc6 0 (by decide)) rfl rfl rfl ?_
    refine r_iload_n hX (p2 := 15) rfl rfl rfl ?_
    obtain ⟨c1, h⟩ := ck_some h
    refine r_iaload hX (p2 := 16) (j := x1.toNat) rfl rfl (ha633 0 (by decide)) rfl rfl c1 rfl ?_
    refine r_icmp hX (p2 := 39) (p3 := 19) (P := (sA s 633 0 x1.toNat) ≤ x3) rfl (by decide) rfl rfl (fun p8 => ?_) (fun p8 => ?_)
    · have h := it_pos h p8
      exact hK39 x1 x2 (some (vI x3)) s h
    · have h := it_neg h p8
      refine r_fload_n hX (p2 := 20) rfl rfl rfl ?_
      refine r_aload_n hX (p2 := 21) rfl rfl rfl ⟨_, Or.inl rfl⟩ ?_
      refine r_gf hX (p2 := 24) (v := vR (ca 634 0)) rfl rfl (hc6 0 (by decide)) rfl rfl rfl ?_
      refine r_bipush hX (p2 := 26) rfl rfl rfl ?_
      refine r_iload_n hX (p2 := 27) rfl rfl rfl ?_
      obtain ⟨c2, h⟩ := ck_some h
      refine r_imul hX (p2 := 28) rfl rfl c2 ?_
      refine r_iload_n hX (p2 := 29) rfl rfl rfl ?_
      obtain ⟨c3, h⟩ := ck_some h
      refine r_iadd hX (p2 := 30) rfl rfl c3 ?_
      obtain ⟨c4, h⟩ := ck_some h
      refine r_faload hX (p2 := 31) (j := ((12 * x1) + x3).toNat) rfl rfl (ha634 0 (by decide)) rfl rfl c4 rfl ?_
      obtain ⟨c5, h⟩ := ck_some h
      refine r_fsub hX (p2 := 32) rfl rfl c5 ?_
      obtain ⟨v6, hv6, h⟩ := bs_some h
      refine r_fstoreE_n hX (p2 := 33) (ls2 := [some (vR (cc 6 0)), some (vI x1), some (vF v6), some (vI x3)]) rfl rfl hv6 rfl rfl ?_
      obtain ⟨c7, h⟩ := ck_some h
      refine r_iinc hX (p2 := 36) (ls2 := [some (vR (cc 6 0)), some (vI x1), some (vF v6), some (vI (x3 + 1))]) rfl rfl rfl rfl c7 rfl ?_
      refine r_goto hX (p2 := 9) rfl (by decide) ?_
      exact ih x1 v6 (x3 + 1) s h
noncomputable def f_X6_left_41 (K66 : UInt32 → pS → Option (UInt32 × pS)) : Nat → Int → UInt32 → Int → pS → Option (UInt32 × pS)
  | 0, _, _, _, _ => none
  | n + 1, x1, x2, x3, s => ck (0 ≤ x1 ∧ x1 < 2) ((if (sA s 633 0 x1.toNat) ≤ x3 then K66 x2 s else ck (0 ≤ x1 ∧ x1 < 2) (ck (vf_n32 (FP.fsub x2 (sB s 627 0 x1.toNat))) (bs ((FP.fsub x2 (sB s 627 0 x1.toNat))) (fun v4 => ck (inR (x3 + 1)) (f_X6_left_41 K66 n x1 v4 (x3 + 1) s))))))
set_option maxRecDepth 10000 in
theorem t_X6_left_41 (xs : Nat → Int) (e : Nat) (q : UInt32 × pS) (X : List (Option pV) → List pV → Nat → pH → Prop) (hX : pm_clo 1001 xs (pCall pm_tx 1001 xs pm_P e) e mX6_left (eF q) X) (K66 : UInt32 → pS → Option (UInt32 × pS)) (hK66 : ∀ (x2 : UInt32) (d0 : Option pV) (d1 : Option pV) (d3 : Option pV) (s : pS), K66 x2 s = some q → X [d0, d1, some (vF x2), d3] [] 66 (pW s)) : ∀ (n : Nat) (x1 : Int) (x2 : UInt32) (x3 : Int) (s : pS), f_X6_left_41 K66 n x1 x2 x3 s = some q → X [some (vR (cc 6 0)), some (vI x1), some (vF x2), some (vI x3)] [] 41 (pW s) := by
  intro n
  induction n with
  | zero =>
    intro x1 x2 x3 s h
    rw [f_X6_left_41] at h
    cases h
  | succ n ih =>
    intro x1 x2 x3 s h
    rw [f_X6_left_41] at h
    refine r_iload_n hX (p2 := 42) rfl rfl rfl ?_
    refine r_aload_n hX (p2 := 43) rfl rfl rfl ⟨_, Or.inl rfl⟩ ?_
    refine r_gf hX (p2 := 46) (v := vR (ca 633 0)) rfl rfl (hc6 0 (by decide)) rfl rfl rfl ?_
    refine r_iload_n hX (p2 := 47) rfl rfl rfl ?_
    obtain ⟨c1, h⟩ := ck_some h
    refine r_iaload hX (p2 := 48) (j := x1.toNat) rfl rfl (ha633 0 (by decide)) rfl rfl c1 rfl ?_
    refine r_icmp hX (p2 := 66) (p3 := 51) (P := (sA s 633 0 x1.toNat) ≤ x3) rfl (by decide) rfl rfl (fun p6 => ?_) (fun p6 => ?_)
    · have h := it_pos h p6
      exact hK66 x2 (some (vR (cc 6 0))) (some (vI x1)) (some (vI x3)) s h
    · have h := it_neg h p6
      refine r_fload_n hX (p2 := 52) rfl rfl rfl ?_
      refine r_aload_n hX (p2 := 53) rfl rfl rfl ⟨_, Or.inl rfl⟩ ?_
      refine r_gf hX (p2 := 56) (v := vR (ca 627 0)) rfl rfl (hc6 0 (by decide)) rfl rfl rfl ?_
      refine r_iload_n hX (p2 := 57) rfl rfl rfl ?_
      obtain ⟨c2, h⟩ := ck_some h
      refine r_faload hX (p2 := 58) (j := x1.toNat) rfl rfl (ha627 0 (by decide)) rfl rfl c2 rfl ?_
      obtain ⟨c3, h⟩ := ck_some h
      refine r_fsub hX (p2 := 59) rfl rfl c3 ?_
      obtain ⟨v4, hv4, h⟩ := bs_some h
      refine r_fstoreE_n hX (p2 := 60) (ls2 := [some (vR (cc 6 0)), some (vI x1), some (vF v4), some (vI x3)]) rfl rfl hv4 rfl rfl ?_
      obtain ⟨c5, h⟩ := ck_some h
      refine r_iinc hX (p2 := 63) (ls2 := [some (vR (cc 6 0)), some (vI x1), some (vF v4), some (vI (x3 + 1))]) rfl rfl rfl rfl c5 rfl ?_
      refine r_goto hX (p2 := 41) rfl (by decide) ?_
      exact ih x1 v4 (x3 + 1) s h
noncomputable def f_X6_left (a1 : Int) (s : pS) : Option (UInt32 × pS) := ck (0 ≤ a1 ∧ a1 < 2) (bs ((sB s 626 0 a1.toNat)) (fun v2 => f_X6_left_9 (fun x1 x2 s3 => f_X6_left_41 (fun x2 s4 => some (x2, s4)) 400 x1 x2 1 s3) 400 a1 v2 0 s))
set_option maxRecDepth 10000 in
theorem c_X6_left (xs : Nat → Int) (e : Nat) (a1 : Int) (s : pS) (q : UInt32 × pS) (h : f_X6_left a1 s = some q) : pCall pm_tx 1001 xs pm_P (e + 1) 148 [vR (cc 6 0), vI a1] (pW s) (.inl (some (vF q.1))) (pW q.2) := by
  refine pCall_of mX6_left rfl rfl (fun X hX => ?_)
  show X [some (vR (cc 6 0)), some (vI a1), none, none] [] 0 (pW s)
  replace hX : pm_clo 1001 xs (pCall pm_tx 1001 xs pm_P e) e mX6_left (eF q) X := hX
  unfold f_X6_left at h
  refine r_aload_n hX (p2 := 1) rfl rfl rfl ⟨_, Or.inl rfl⟩ ?_
  refine r_gf hX (p2 := 4) (v := vR (ca 626 0)) rfl rfl (hc6 0 (by decide)) rfl rfl rfl ?_
  refine r_iload_n hX (p2 := 5) rfl rfl rfl ?_
  obtain ⟨c1, h⟩ := ck_some h
  refine r_faload hX (p2 := 6) (j := a1.toNat) rfl rfl (ha626 0 (by decide)) rfl rfl c1 rfl ?_
  obtain ⟨v2, hv2, h⟩ := bs_some h
  refine r_fstoreE_n hX (p2 := 7) (ls2 := [some (vR (cc 6 0)), some (vI a1), some (vF v2), none]) rfl rfl hv2 rfl rfl ?_
  refine r_iconst hX (p2 := 8) rfl rfl rfl ?_
  refine r_istore_n hX (p2 := 9) (ls2 := [some (vR (cc 6 0)), some (vI a1), some (vF v2), some (vI 0)]) rfl rfl rfl rfl ?_
  refine t_X6_left_9 xs e q X hX _ (fun x1 x2 d3 s3 h => ?_) 400 a1 v2 0 s h
  refine r_iconst hX (p2 := 40) rfl rfl rfl ?_
  refine r_istore_n hX (p2 := 41) (ls2 := [some (vR (cc 6 0)), some (vI x1), some (vF x2), some (vI 1)]) rfl rfl rfl rfl ?_
  refine t_X6_left_41 xs e q X hX _ (fun x2 d0 d1 d3 s4 h => ?_) 400 x1 x2 1 s3 h
  refine r_fload_n hX (p2 := 67) rfl rfl rfl ?_
  exact r_freturn hX rfl rfl (eF_ok h)
noncomputable def f_X6_grows_21 (y0 : Int) (s : pS) : Option (Int × pS) := ck (y0 = 0 ∨ y0 = 1) (some (y0, s))
set_option maxRecDepth 10000 in
theorem t_X6_grows_21 (xs : Nat → Int) (e : Nat) (q : Int × pS) (X : List (Option pV) → List pV → Nat → pH → Prop) (hX : pm_clo 1001 xs (pCall pm_tx 1001 xs pm_P e) e mX6_grows (eI q) X) : ∀  (y0 : Int) (d0 : Option pV) (d1 : Option pV) (s : pS), f_X6_grows_21 y0 s = some q → X [d0, d1] [vI y0] 21 (pW s) := by
  intro y0 d0 d1 s h
  unfold f_X6_grows_21 at h
  obtain ⟨c1, h⟩ := ck_some h
  exact r_iretZ hX rfl rfl c1 (eI_ok h)
noncomputable def f_X6_grows (a1 : Int) (s : pS) : Option (Int × pS) := ck (0 ≤ a1 ∧ a1 < 24) (ck (0 ≤ a1 ∧ a1 < 24) ((if 0 ≤ (pm_fc .g (sB s 634 0 a1.toNat) (sB s 635 0 a1.toNat)) then f_X6_grows_21 0 s else f_X6_grows_21 1 s)))
set_option maxRecDepth 10000 in
theorem c_X6_grows (xs : Nat → Int) (e : Nat) (a1 : Int) (s : pS) (q : Int × pS) (h : f_X6_grows a1 s = some q) : pCall pm_tx 1001 xs pm_P (e + 1) 149 [vR (cc 6 0), vI a1] (pW s) (.inl (some (vI q.1))) (pW q.2) := by
  refine pCall_of mX6_grows rfl rfl (fun X hX => ?_)
  show X [some (vR (cc 6 0)), some (vI a1)] [] 0 (pW s)
  replace hX : pm_clo 1001 xs (pCall pm_tx 1001 xs pm_P e) e mX6_grows (eI q) X := hX
  unfold f_X6_grows at h
  refine r_aload_n hX (p2 := 1) rfl rfl rfl ⟨_, Or.inl rfl⟩ ?_
  refine r_gf hX (p2 := 4) (v := vR (ca 634 0)) rfl rfl (hc6 0 (by decide)) rfl rfl rfl ?_
  refine r_iload_n hX (p2 := 5) rfl rfl rfl ?_
  obtain ⟨c1, h⟩ := ck_some h
  refine r_faload hX (p2 := 6) (j := a1.toNat) rfl rfl (ha634 0 (by decide)) rfl rfl c1 rfl ?_
  refine r_aload_n hX (p2 := 7) rfl rfl rfl ⟨_, Or.inl rfl⟩ ?_
  refine r_gf hX (p2 := 10) (v := vR (ca 635 0)) rfl rfl (hc6 0 (by decide)) rfl rfl rfl ?_
  refine r_iload_n hX (p2 := 11) rfl rfl rfl ?_
  obtain ⟨c2, h⟩ := ck_some h
  refine r_faload hX (p2 := 12) (j := a1.toNat) rfl rfl (ha635 0 (by decide)) rfl rfl c2 rfl ?_
  refine r_fcmp hX (p2 := 13) rfl rfl ?_
  refine r_if hX (p2 := 20) (p3 := 16) (P := 0 ≤ (pm_fc .g (sB s 634 0 a1.toNat) (sB s 635 0 a1.toNat))) rfl (by decide) rfl rfl (fun p3 => ?_) (fun p3 => ?_)
  · have h := it_pos h p3
    refine r_iconst hX (p2 := 21) rfl rfl rfl ?_
    exact t_X6_grows_21 xs e q X hX 0 (some (vR (cc 6 0))) (some (vI a1)) s h
  · have h := it_neg h p3
    refine r_iconst hX (p2 := 17) rfl rfl rfl ?_
    refine r_goto hX (p2 := 21) rfl (by decide) ?_
    exact t_X6_grows_21 xs e q X hX 1 (some (vR (cc 6 0))) (some (vI a1)) s h
noncomputable def f_X6_fill_66 (K34 : Int → UInt32 → Int → Int → Int → pS → Option (pS)) (K75 : Int → UInt32 → Int → Int → pS → Option (pS)) (x1 : Int) (x2 : UInt32) (x4 : Int) (x6 : Int) (y0 : Int) (y1 : Int) (s : pS) : Option (pS) := ck (inR (y0 + y1)) (bs ((y0 + y1)) (fun v2 => ck (inR (x6 + 1)) (K34 x1 x2 x4 v2 (x6 + 1) s)))
set_option maxRecDepth 10000 in
theorem t_X6_fill_66 (xs : Nat → Int) (e : Nat) (q : pS) (X : List (Option pV) → List pV → Nat → pH → Prop) (hX : pm_clo 1001 xs (pCall pm_tx 1001 xs pm_P (e + 1)) (e + 1) mX6_fill (eU q) X) (K34 : Int → UInt32 → Int → Int → Int → pS → Option (pS)) (K75 : Int → UInt32 → Int → Int → pS → Option (pS)) (hK34 : ∀ (x1 : Int) (x2 : UInt32) (x4 : Int) (x5 : Int) (x6 : Int) (d3 : Option pV) (d7 : Option pV) (d8 : Option pV) (d9 : Option pV) (d10 : Option pV) (s : pS), K34 x1 x2 x4 x5 x6 s = some q → X [some (vR (cc 6 0)), some (vI x1), some (vF x2), d3, some (vI x4), some (vI x5), some (vI x6), d7, d8, d9, d10] [] 34 (pW s)) (hK75 : ∀ (x1 : Int) (x2 : UInt32) (x4 : Int) (x5 : Int) (d3 : Option pV) (d6 : Option pV) (d7 : Option pV) (d8 : Option pV) (d9 : Option pV) (d10 : Option pV) (s : pS), K75 x1 x2 x4 x5 s = some q → X [some (vR (cc 6 0)), some (vI x1), some (vF x2), d3, some (vI x4), some (vI x5), d6, d7, d8, d9, d10] [] 75 (pW s)) : ∀  (x1 : Int) (x2 : UInt32) (x4 : Int) (x6 : Int) (y0 : Int) (y1 : Int) (d3 : Option pV) (d5 : Option pV) (d7 : Option pV) (d8 : Option pV) (d9 : Option pV) (d10 : Option pV) (s : pS), f_X6_fill_66 K34 K75 x1 x2 x4 x6 y0 y1 s = some q → X [some (vR (cc 6 0)), some (vI x1), some (vF x2), d3, some (vI x4), d5, some (vI x6), d7, d8, d9, d10] [vI y1, vI y0] 66 (pW s) := by
  intro x1 x2 x4 x6 y0 y1 d3 d5 d7 d8 d9 d10 s h
  unfold f_X6_fill_66 at h
  obtain ⟨c1, h⟩ := ck_some h
  refine r_iadd hX (p2 := 67) rfl rfl c1 ?_
  obtain ⟨v2, hv2, h⟩ := bs_some h
  refine r_istoreE hX (p2 := 69) (ls2 := [some (vR (cc 6 0)), some (vI x1), some (vF x2), d3, some (vI x4), some (vI v2), some (vI x6), d7, d8, d9, d10]) rfl rfl hv2 rfl rfl ?_
  obtain ⟨c3, h⟩ := ck_some h
  refine r_iinc hX (p2 := 72) (ls2 := [some (vR (cc 6 0)), some (vI x1), some (vF x2), d3, some (vI x4), some (vI v2), some (vI (x6 + 1)), d7, d8, d9, d10]) rfl rfl rfl rfl c3 rfl ?_
  refine r_goto hX (p2 := 34) rfl (by decide) ?_
  exact hK34 x1 x2 x4 v2 (x6 + 1) d3 d7 d8 d9 d10 s h
noncomputable def f_X6_fill_34 (K75 : Int → UInt32 → Int → Int → pS → Option (pS)) : Nat → Int → UInt32 → Int → Int → Int → pS → Option (pS)
  | 0, _, _, _, _, _, _ => none
  | n + 1, x1, x2, x4, x5, x6, s => ck (0 ≤ x1 ∧ x1 < 2) ((if (sA s 633 0 x1.toNat) ≤ x6 then K75 x1 x2 x4 x5 s else ck (inR (12 * x1)) (ck (inR ((12 * x1) + x6)) ((f_X6_grows ((12 * x1) + x6) s).bind (fun q4 => (if q4.1 = 0 then f_X6_fill_66 (f_X6_fill_34 K75 n) K75 x1 x2 x4 x6 x5 0 q4.2 else f_X6_fill_66 (f_X6_fill_34 K75 n) K75 x1 x2 x4 x6 x5 1 q4.2))))))
set_option maxRecDepth 10000 in
theorem t_X6_fill_34 (xs : Nat → Int) (e : Nat) (q : pS) (X : List (Option pV) → List pV → Nat → pH → Prop) (hX : pm_clo 1001 xs (pCall pm_tx 1001 xs pm_P (e + 1)) (e + 1) mX6_fill (eU q) X) (K75 : Int → UInt32 → Int → Int → pS → Option (pS)) (hK75 : ∀ (x1 : Int) (x2 : UInt32) (x4 : Int) (x5 : Int) (d3 : Option pV) (d6 : Option pV) (d7 : Option pV) (d8 : Option pV) (d9 : Option pV) (d10 : Option pV) (s : pS), K75 x1 x2 x4 x5 s = some q → X [some (vR (cc 6 0)), some (vI x1), some (vF x2), d3, some (vI x4), some (vI x5), d6, d7, d8, d9, d10] [] 75 (pW s)) : ∀ (n : Nat) (x1 : Int) (x2 : UInt32) (x4 : Int) (x5 : Int) (x6 : Int) (d3 : Option pV) (d7 : Option pV) (d8 : Option pV) (d9 : Option pV) (d10 : Option pV) (s : pS), f_X6_fill_34 K75 n x1 x2 x4 x5 x6 s = some q → X [some (vR (cc 6 0)), some (vI x1), some (vF x2), d3, some (vI x4), some (vI x5), some (vI x6), d7, d8, d9, d10] [] 34 (pW s) := by
  intro n
  induction n with
  | zero =>
    intro x1 x2 x4 x5 x6 d3 d7 d8 d9 d10 s h
    rw [f_X6_fill_34] at h
    cases h
  | succ n ih =>
    intro x1 x2 x4 x5 x6 d3 d7 d8 d9 d10 s h
    rw [f_X6_fill_34] at h
    refine r_iload hX (p2 := 36) rfl rfl rfl ?_
    refine r_aload_n hX (p2 := 37) rfl rfl rfl ⟨_, Or.inl rfl⟩ ?_
    refine r_gf hX (p2 := 40) (v := vR (ca 633 0)) rfl rfl (hc6 0 (by decide)) rfl rfl rfl ?_
    refine r_iload_n hX (p2 := 41) rfl rfl rfl ?_
    obtain ⟨c1, h⟩ := ck_some h
    refine r_iaload hX (p2 := 42) (j := x1.toNat) rfl rfl (ha633 0 (by decide)) rfl rfl c1 rfl ?_
    refine r_icmp hX (p2 := 75) (p3 := 45) (P := (sA s 633 0 x1.toNat) ≤ x6) rfl (by decide) rfl rfl (fun p6 => ?_) (fun p6 => ?_)
    · have h := it_pos h p6
      exact hK75 x1 x2 x4 x5 d3 (some (vI x6)) d7 d8 d9 d10 s h
    · have h := it_neg h p6
      refine r_iload hX (p2 := 47) rfl rfl rfl ?_
      refine r_aload_n hX (p2 := 48) rfl rfl rfl ⟨_, Or.inl rfl⟩ ?_
      refine r_bipush hX (p2 := 50) rfl rfl rfl ?_
      refine r_iload_n hX (p2 := 51) rfl rfl rfl ?_
      obtain ⟨c2, h⟩ := ck_some h
      refine r_imul hX (p2 := 52) rfl rfl c2 ?_
      refine r_iload hX (p2 := 54) rfl rfl rfl ?_
      obtain ⟨c3, h⟩ := ck_some h
      refine r_iadd hX (p2 := 55) rfl rfl c3 ?_
      obtain ⟨q4, hq4, h⟩ := bd_some h
      refine r_callv hX (p2 := 58) (v := some (vI q4.1)) (as := [vI ((12 * x1) + x6)]) (r := [vI x5]) (st2 := [vI q4.1, vI x5]) rfl rfl rfl rfl rfl (hc6 0 (by decide)) rfl rfl (c_X6_grows xs e ((12 * x1) + x6) s q4 hq4) ?_
      refine r_if hX (p2 := 65) (p3 := 61) (P := q4.1 = 0) rfl (by decide) rfl rfl (fun p5 => ?_) (fun p5 => ?_)
      · have h := it_pos h p5
        refine r_iconst hX (p2 := 66) rfl rfl rfl ?_
        exact t_X6_fill_66 xs e q X hX _ _ ih hK75 x1 x2 x4 x6 x5 0 d3 (some (vI x5)) d7 d8 d9 d10 q4.2 h
      · have h := it_neg h p5
        refine r_iconst hX (p2 := 62) rfl rfl rfl ?_
        refine r_goto hX (p2 := 66) rfl (by decide) ?_
        exact t_X6_fill_66 xs e q X hX _ _ ih hK75 x1 x2 x4 x6 x5 1 d3 (some (vI x5)) d7 d8 d9 d10 q4.2 h
noncomputable def f_X6_fill_212 (K104 : Int → UInt32 → Int → Int → UInt32 → Int → pS → Option (pS)) (K218 : Int → UInt32 → Int → Int → pS → Option (pS)) (x1 : Int) (x2 : UInt32) (x3 : Int) (x4 : Int) (x6 : UInt32) (x7 : Int) (s : pS) : Option (pS) := ck (inR (x7 + 1)) (K104 x1 x2 x3 x4 x6 (x7 + 1) s)
set_option maxRecDepth 10000 in
theorem t_X6_fill_212 (xs : Nat → Int) (e : Nat) (q : pS) (X : List (Option pV) → List pV → Nat → pH → Prop) (hX : pm_clo 1001 xs (pCall pm_tx 1001 xs pm_P (e + 1)) (e + 1) mX6_fill (eU q) X) (K104 : Int → UInt32 → Int → Int → UInt32 → Int → pS → Option (pS)) (K218 : Int → UInt32 → Int → Int → pS → Option (pS)) (hK104 : ∀ (x1 : Int) (x2 : UInt32) (x3 : Int) (x4 : Int) (x6 : UInt32) (x7 : Int) (d5 : Option pV) (d8 : Option pV) (d9 : Option pV) (d10 : Option pV) (s : pS), K104 x1 x2 x3 x4 x6 x7 s = some q → X [some (vR (cc 6 0)), some (vI x1), some (vF x2), some (vI x3), some (vI x4), d5, some (vF x6), some (vI x7), d8, d9, d10] [] 104 (pW s)) (hK218 : ∀ (x1 : Int) (x2 : UInt32) (x3 : Int) (x4 : Int) (d5 : Option pV) (d6 : Option pV) (d7 : Option pV) (d8 : Option pV) (d9 : Option pV) (d10 : Option pV) (s : pS), K218 x1 x2 x3 x4 s = some q → X [some (vR (cc 6 0)), some (vI x1), some (vF x2), some (vI x3), some (vI x4), d5, d6, d7, d8, d9, d10] [] 218 (pW s)) : ∀  (x1 : Int) (x2 : UInt32) (x3 : Int) (x4 : Int) (x6 : UInt32) (x7 : Int) (d5 : Option pV) (d8 : Option pV) (d9 : Option pV) (d10 : Option pV) (s : pS), f_X6_fill_212 K104 K218 x1 x2 x3 x4 x6 x7 s = some q → X [some (vR (cc 6 0)), some (vI x1), some (vF x2), some (vI x3), some (vI x4), d5, some (vF x6), some (vI x7), d8, d9, d10] [] 212 (pW s) := by
  intro x1 x2 x3 x4 x6 x7 d5 d8 d9 d10 s h
  unfold f_X6_fill_212 at h
  obtain ⟨c1, h⟩ := ck_some h
  refine r_iinc hX (p2 := 215) (ls2 := [some (vR (cc 6 0)), some (vI x1), some (vF x2), some (vI x3), some (vI x4), d5, some (vF x6), some (vI (x7 + 1)), d8, d9, d10]) rfl rfl rfl rfl c1 rfl ?_
  refine r_goto hX (p2 := 104) rfl (by decide) ?_
  exact hK104 x1 x2 x3 x4 x6 (x7 + 1) d5 d8 d9 d10 s h
noncomputable def f_X6_fill_211 (K104 : Int → UInt32 → Int → Int → UInt32 → Int → pS → Option (pS)) (K218 : Int → UInt32 → Int → Int → pS → Option (pS)) (x1 : Int) (x2 : UInt32) (x3 : Int) (x4 : Int) (x6 : UInt32) (x7 : Int) (y1 : Int) (y2 : UInt32) (s : pS) : Option (pS) := ck (0 ≤ y1 ∧ y1 < 24) (bs (wB s 634 0 (pm_up (sB s 634 0) y1.toNat y2)) (fun s2 => f_X6_fill_212 K104 K218 x1 x2 x3 x4 x6 x7 s2))
set_option maxRecDepth 10000 in
theorem t_X6_fill_211 (xs : Nat → Int) (e : Nat) (q : pS) (X : List (Option pV) → List pV → Nat → pH → Prop) (hX : pm_clo 1001 xs (pCall pm_tx 1001 xs pm_P (e + 1)) (e + 1) mX6_fill (eU q) X) (K104 : Int → UInt32 → Int → Int → UInt32 → Int → pS → Option (pS)) (K218 : Int → UInt32 → Int → Int → pS → Option (pS)) (hK104 : ∀ (x1 : Int) (x2 : UInt32) (x3 : Int) (x4 : Int) (x6 : UInt32) (x7 : Int) (d5 : Option pV) (d8 : Option pV) (d9 : Option pV) (d10 : Option pV) (s : pS), K104 x1 x2 x3 x4 x6 x7 s = some q → X [some (vR (cc 6 0)), some (vI x1), some (vF x2), some (vI x3), some (vI x4), d5, some (vF x6), some (vI x7), d8, d9, d10] [] 104 (pW s)) (hK218 : ∀ (x1 : Int) (x2 : UInt32) (x3 : Int) (x4 : Int) (d5 : Option pV) (d6 : Option pV) (d7 : Option pV) (d8 : Option pV) (d9 : Option pV) (d10 : Option pV) (s : pS), K218 x1 x2 x3 x4 s = some q → X [some (vR (cc 6 0)), some (vI x1), some (vF x2), some (vI x3), some (vI x4), d5, d6, d7, d8, d9, d10] [] 218 (pW s)) : ∀  (x1 : Int) (x2 : UInt32) (x3 : Int) (x4 : Int) (x6 : UInt32) (x7 : Int) (y1 : Int) (y2 : UInt32) (d5 : Option pV) (d8 : Option pV) (d9 : Option pV) (d10 : Option pV) (s : pS), f_X6_fill_211 K104 K218 x1 x2 x3 x4 x6 x7 y1 y2 s = some q → X [some (vR (cc 6 0)), some (vI x1), some (vF x2), some (vI x3), some (vI x4), d5, some (vF x6), some (vI x7), d8, d9, d10] [vF y2, vI y1, vR (ca 634 0)] 211 (pW s) := by
  intro x1 x2 x3 x4 x6 x7 y1 y2 d5 d8 d9 d10 s h
  unfold f_X6_fill_211 at h
  obtain ⟨c1, h⟩ := ck_some h
  obtain ⟨s2, hs2, h⟩ := bs_some h
  refine r_fastore hX (p2 := 212) (j := y1.toNat) rfl rfl (ha634 0 (by decide)) rfl rfl c1 rfl hs2 ?_
  exact t_X6_fill_212 xs e q X hX _ _ hK104 hK218 x1 x2 x3 x4 x6 x7 d5 d8 d9 d10 s2 h
noncomputable def f_X6_fill_178 (K104 : Int → UInt32 → Int → Int → UInt32 → Int → pS → Option (pS)) (K218 : Int → UInt32 → Int → Int → pS → Option (pS)) (x1 : Int) (x3 : Int) (x4 : Int) (x6 : UInt32) (x7 : Int) (x8 : Int) (x10 : Int) (y0 : UInt32) (y1 : UInt32) (s : pS) : Option (pS) := ck (vf_n32 (FP.fsub y0 y1)) (bs ((FP.fsub y0 y1)) (fun v2 => (if x10 = 0 then ck (0 ≤ x8 ∧ x8 < 24) (ck (vf_n32 (FP.fadd (sB s 634 0 x8.toNat) x6)) (f_X6_fill_211 K104 K218 x1 v2 x3 x4 x6 x7 x8 (FP.fadd (sB s 634 0 x8.toNat) x6) s)) else ck (0 ≤ x8 ∧ x8 < 24) (f_X6_fill_211 K104 K218 x1 v2 x3 x4 x6 x7 x8 (sB s 635 0 x8.toNat) s))))
set_option maxRecDepth 10000 in
theorem t_X6_fill_178 (xs : Nat → Int) (e : Nat) (q : pS) (X : List (Option pV) → List pV → Nat → pH → Prop) (hX : pm_clo 1001 xs (pCall pm_tx 1001 xs pm_P (e + 1)) (e + 1) mX6_fill (eU q) X) (K104 : Int → UInt32 → Int → Int → UInt32 → Int → pS → Option (pS)) (K218 : Int → UInt32 → Int → Int → pS → Option (pS)) (hK104 : ∀ (x1 : Int) (x2 : UInt32) (x3 : Int) (x4 : Int) (x6 : UInt32) (x7 : Int) (d5 : Option pV) (d8 : Option pV) (d9 : Option pV) (d10 : Option pV) (s : pS), K104 x1 x2 x3 x4 x6 x7 s = some q → X [some (vR (cc 6 0)), some (vI x1), some (vF x2), some (vI x3), some (vI x4), d5, some (vF x6), some (vI x7), d8, d9, d10] [] 104 (pW s)) (hK218 : ∀ (x1 : Int) (x2 : UInt32) (x3 : Int) (x4 : Int) (d5 : Option pV) (d6 : Option pV) (d7 : Option pV) (d8 : Option pV) (d9 : Option pV) (d10 : Option pV) (s : pS), K218 x1 x2 x3 x4 s = some q → X [some (vR (cc 6 0)), some (vI x1), some (vF x2), some (vI x3), some (vI x4), d5, d6, d7, d8, d9, d10] [] 218 (pW s)) : ∀  (x1 : Int) (x3 : Int) (x4 : Int) (x6 : UInt32) (x7 : Int) (x8 : Int) (x10 : Int) (y0 : UInt32) (y1 : UInt32) (d2 : Option pV) (d5 : Option pV) (d9 : Option pV) (s : pS), f_X6_fill_178 K104 K218 x1 x3 x4 x6 x7 x8 x10 y0 y1 s = some q → X [some (vR (cc 6 0)), some (vI x1), d2, some (vI x3), some (vI x4), d5, some (vF x6), some (vI x7), some (vI x8), d9, some (vI x10)] [vF y1, vF y0] 178 (pW s) := by
  intro x1 x3 x4 x6 x7 x8 x10 y0 y1 d2 d5 d9 s h
  unfold f_X6_fill_178 at h
  obtain ⟨c1, h⟩ := ck_some h
  refine r_fsub hX (p2 := 179) rfl rfl c1 ?_
  obtain ⟨v2, hv2, h⟩ := bs_some h
  refine r_fstoreE_n hX (p2 := 180) (ls2 := [some (vR (cc 6 0)), some (vI x1), some (vF v2), some (vI x3), some (vI x4), d5, some (vF x6), some (vI x7), some (vI x8), d9, some (vI x10)]) rfl rfl hv2 rfl rfl ?_
  refine r_aload_n hX (p2 := 181) rfl rfl rfl ⟨_, Or.inl rfl⟩ ?_
  refine r_gf hX (p2 := 184) (v := vR (ca 634 0)) rfl rfl (hc6 0 (by decide)) rfl rfl rfl ?_
  refine r_iload hX (p2 := 186) rfl rfl rfl ?_
  refine r_iload hX (p2 := 188) rfl rfl rfl ?_
  refine r_if hX (p2 := 201) (p3 := 191) (P := x10 = 0) rfl (by decide) rfl rfl (fun p6 => ?_) (fun p6 => ?_)
  · have h := it_pos h p6
    refine r_aload_n hX (p2 := 202) rfl rfl rfl ⟨_, Or.inl rfl⟩ ?_
    refine r_gf hX (p2 := 205) (v := vR (ca 634 0)) rfl rfl (hc6 0 (by decide)) rfl rfl rfl ?_
    refine r_iload hX (p2 := 207) rfl rfl rfl ?_
    obtain ⟨c3, h⟩ := ck_some h
    refine r_faload hX (p2 := 208) (j := x8.toNat) rfl rfl (ha634 0 (by decide)) rfl rfl c3 rfl ?_
    refine r_fload hX (p2 := 210) rfl rfl rfl ?_
    obtain ⟨c4, h⟩ := ck_some h
    refine r_fadd hX (p2 := 211) rfl rfl c4 ?_
    exact t_X6_fill_211 xs e q X hX _ _ hK104 hK218 x1 v2 x3 x4 x6 x7 x8 (FP.fadd (sB s 634 0 x8.toNat) x6) d5 (some (vI x8)) d9 (some (vI x10)) s h
  · have h := it_neg h p6
    refine r_aload_n hX (p2 := 192) rfl rfl rfl ⟨_, Or.inl rfl⟩ ?_
    refine r_gf hX (p2 := 195) (v := vR (ca 635 0)) rfl rfl (hc6 0 (by decide)) rfl rfl rfl ?_
    refine r_iload hX (p2 := 197) rfl rfl rfl ?_
    obtain ⟨c5, h⟩ := ck_some h
    refine r_faload hX (p2 := 198) (j := x8.toNat) rfl rfl (ha635 0 (by decide)) rfl rfl c5 rfl ?_
    refine r_goto hX (p2 := 211) rfl (by decide) ?_
    exact t_X6_fill_211 xs e q X hX _ _ hK104 hK218 x1 v2 x3 x4 x6 x7 x8 (sB s 635 0 x8.toNat) d5 (some (vI x8)) d9 (some (vI x10)) s h
noncomputable def f_X6_fill_163 (K104 : Int → UInt32 → Int → Int → UInt32 → Int → pS → Option (pS)) (K218 : Int → UInt32 → Int → Int → pS → Option (pS)) (x1 : Int) (x2 : UInt32) (x3 : Int) (x4 : Int) (x6 : UInt32) (x7 : Int) (x8 : Int) (x9 : UInt32) (y0 : Int) (s : pS) : Option (pS) := (if y0 = 0 then f_X6_fill_178 K104 K218 x1 x3 x4 x6 x7 x8 y0 x2 x6 s else f_X6_fill_178 K104 K218 x1 x3 x4 x6 x7 x8 y0 x2 x9 s)
set_option maxRecDepth 10000 in
theorem t_X6_fill_163 (xs : Nat → Int) (e : Nat) (q : pS) (X : List (Option pV) → List pV → Nat → pH → Prop) (hX : pm_clo 1001 xs (pCall pm_tx 1001 xs pm_P (e + 1)) (e + 1) mX6_fill (eU q) X) (K104 : Int → UInt32 → Int → Int → UInt32 → Int → pS → Option (pS)) (K218 : Int → UInt32 → Int → Int → pS → Option (pS)) (hK104 : ∀ (x1 : Int) (x2 : UInt32) (x3 : Int) (x4 : Int) (x6 : UInt32) (x7 : Int) (d5 : Option pV) (d8 : Option pV) (d9 : Option pV) (d10 : Option pV) (s : pS), K104 x1 x2 x3 x4 x6 x7 s = some q → X [some (vR (cc 6 0)), some (vI x1), some (vF x2), some (vI x3), some (vI x4), d5, some (vF x6), some (vI x7), d8, d9, d10] [] 104 (pW s)) (hK218 : ∀ (x1 : Int) (x2 : UInt32) (x3 : Int) (x4 : Int) (d5 : Option pV) (d6 : Option pV) (d7 : Option pV) (d8 : Option pV) (d9 : Option pV) (d10 : Option pV) (s : pS), K218 x1 x2 x3 x4 s = some q → X [some (vR (cc 6 0)), some (vI x1), some (vF x2), some (vI x3), some (vI x4), d5, d6, d7, d8, d9, d10] [] 218 (pW s)) : ∀  (x1 : Int) (x2 : UInt32) (x3 : Int) (x4 : Int) (x6 : UInt32) (x7 : Int) (x8 : Int) (x9 : UInt32) (y0 : Int) (d5 : Option pV) (d10 : Option pV) (s : pS), f_X6_fill_163 K104 K218 x1 x2 x3 x4 x6 x7 x8 x9 y0 s = some q → X [some (vR (cc 6 0)), some (vI x1), some (vF x2), some (vI x3), some (vI x4), d5, some (vF x6), some (vI x7), some (vI x8), some (vF x9), d10] [vI y0] 163 (pW s) := by
  intro x1 x2 x3 x4 x6 x7 x8 x9 y0 d5 d10 s h
  unfold f_X6_fill_163 at h
  refine r_istore hX (p2 := 165) (ls2 := [some (vR (cc 6 0)), some (vI x1), some (vF x2), some (vI x3), some (vI x4), d5, some (vF x6), some (vI x7), some (vI x8), some (vF x9), some (vI y0)]) rfl rfl rfl rfl ?_
  refine r_fload_n hX (p2 := 166) rfl rfl rfl ?_
  refine r_iload hX (p2 := 168) rfl rfl rfl ?_
  refine r_if hX (p2 := 176) (p3 := 171) (P := y0 = 0) rfl (by decide) rfl rfl (fun p1 => ?_) (fun p1 => ?_)
  · have h := it_pos h p1
    refine r_fload hX (p2 := 178) rfl rfl rfl ?_
    exact t_X6_fill_178 xs e q X hX _ _ hK104 hK218 x1 x3 x4 x6 x7 x8 y0 x2 x6 (some (vF x2)) d5 (some (vF x9)) s h
  · have h := it_neg h p1
    refine r_fload hX (p2 := 173) rfl rfl rfl ?_
    refine r_goto hX (p2 := 178) rfl (by decide) ?_
    exact t_X6_fill_178 xs e q X hX _ _ hK104 hK218 x1 x3 x4 x6 x7 x8 y0 x2 x9 (some (vF x2)) d5 (some (vF x9)) s h
noncomputable def f_X6_fill_104 (K218 : Int → UInt32 → Int → Int → pS → Option (pS)) : Nat → Int → UInt32 → Int → Int → UInt32 → Int → pS → Option (pS)
  | 0, _, _, _, _, _, _, _ => none
  | n + 1, x1, x2, x3, x4, x6, x7, s => ck (0 ≤ x1 ∧ x1 < 2) ((if (sA s 633 0 x1.toNat) ≤ x7 then K218 x1 x2 x3 x4 s else ck (inR (12 * x1)) (ck (inR ((12 * x1) + x7)) (bs (((12 * x1) + x7)) (fun v4 => (f_X6_grows v4 s).bind (fun q5 => (if q5.1 = 0 then f_X6_fill_212 (f_X6_fill_104 K218 n) K218 x1 x2 x3 x4 x6 x7 q5.2 else ck (0 ≤ v4 ∧ v4 < 24) (ck (0 ≤ v4 ∧ v4 < 24) (ck (vf_n32 (FP.fsub (sB q5.2 635 0 v4.toNat) (sB q5.2 634 0 v4.toNat))) (bs ((FP.fsub (sB q5.2 635 0 v4.toNat) (sB q5.2 634 0 v4.toNat))) (fun v9 => (if (pm_fc .g x6 v9) < 0 then f_X6_fill_163 (f_X6_fill_104 K218 n) K218 x1 x2 x3 x4 x6 x7 v4 v9 0 q5.2 else f_X6_fill_163 (f_X6_fill_104 K218 n) K218 x1 x2 x3 x4 x6 x7 v4 v9 1 q5.2))))))))))))
set_option maxRecDepth 10000 in
theorem t_X6_fill_104 (xs : Nat → Int) (e : Nat) (q : pS) (X : List (Option pV) → List pV → Nat → pH → Prop) (hX : pm_clo 1001 xs (pCall pm_tx 1001 xs pm_P (e + 1)) (e + 1) mX6_fill (eU q) X) (K218 : Int → UInt32 → Int → Int → pS → Option (pS)) (hK218 : ∀ (x1 : Int) (x2 : UInt32) (x3 : Int) (x4 : Int) (d5 : Option pV) (d6 : Option pV) (d7 : Option pV) (d8 : Option pV) (d9 : Option pV) (d10 : Option pV) (s : pS), K218 x1 x2 x3 x4 s = some q → X [some (vR (cc 6 0)), some (vI x1), some (vF x2), some (vI x3), some (vI x4), d5, d6, d7, d8, d9, d10] [] 218 (pW s)) : ∀ (n : Nat) (x1 : Int) (x2 : UInt32) (x3 : Int) (x4 : Int) (x6 : UInt32) (x7 : Int) (d5 : Option pV) (d8 : Option pV) (d9 : Option pV) (d10 : Option pV) (s : pS), f_X6_fill_104 K218 n x1 x2 x3 x4 x6 x7 s = some q → X [some (vR (cc 6 0)), some (vI x1), some (vF x2), some (vI x3), some (vI x4), d5, some (vF x6), some (vI x7), d8, d9, d10] [] 104 (pW s) := by
  intro n
  induction n with
  | zero =>
    intro x1 x2 x3 x4 x6 x7 d5 d8 d9 d10 s h
    rw [f_X6_fill_104] at h
    cases h
  | succ n ih =>
    intro x1 x2 x3 x4 x6 x7 d5 d8 d9 d10 s h
    rw [f_X6_fill_104] at h
    refine r_iload hX (p2 := 106) rfl rfl rfl ?_
    refine r_aload_n hX (p2 := 107) rfl rfl rfl ⟨_, Or.inl rfl⟩ ?_
    refine r_gf hX (p2 := 110) (v := vR (ca 633 0)) rfl rfl (hc6 0 (by decide)) rfl rfl rfl ?_
    refine r_iload_n hX (p2 := 111) rfl rfl rfl ?_
    obtain ⟨c1, h⟩ := ck_some h
    refine r_iaload hX (p2 := 112) (j := x1.toNat) rfl rfl (ha633 0 (by decide)) rfl rfl c1 rfl ?_
    refine r_icmp hX (p2 := 218) (p3 := 115) (P := (sA s 633 0 x1.toNat) ≤ x7) rfl (by decide) rfl rfl (fun p12 => ?_) (fun p12 => ?_)
    · have h := it_pos h p12
      exact hK218 x1 x2 x3 x4 d5 (some (vF x6)) (some (vI x7)) d8 d9 d10 s h
    · have h := it_neg h p12
      refine r_bipush hX (p2 := 117) rfl rfl rfl ?_
      refine r_iload_n hX (p2 := 118) rfl rfl rfl ?_
      obtain ⟨c2, h⟩ := ck_some h
      refine r_imul hX (p2 := 119) rfl rfl c2 ?_
      refine r_iload hX (p2 := 121) rfl rfl rfl ?_
      obtain ⟨c3, h⟩ := ck_some h
      refine r_iadd hX (p2 := 122) rfl rfl c3 ?_
      obtain ⟨v4, hv4, h⟩ := bs_some h
      refine r_istoreE hX (p2 := 124) (ls2 := [some (vR (cc 6 0)), some (vI x1), some (vF x2), some (vI x3), some (vI x4), d5, some (vF x6), some (vI x7), some (vI v4), d9, d10]) rfl rfl hv4 rfl rfl ?_
      refine r_aload_n hX (p2 := 125) rfl rfl rfl ⟨_, Or.inl rfl⟩ ?_
      refine r_iload hX (p2 := 127) rfl rfl rfl ?_
      obtain ⟨q5, hq5, h⟩ := bd_some h
      refine r_callv hX (p2 := 130) (v := some (vI q5.1)) (as := [vI v4]) (r := []) (st2 := [vI q5.1]) rfl rfl rfl rfl rfl (hc6 0 (by decide)) rfl rfl (c_X6_grows xs e v4 s q5 hq5) ?_
      refine r_if hX (p2 := 212) (p3 := 133) (P := q5.1 = 0) rfl (by decide) rfl rfl (fun p11 => ?_) (fun p11 => ?_)
      · have h := it_pos h p11
        exact t_X6_fill_212 xs e q X hX _ _ ih hK218 x1 x2 x3 x4 x6 x7 d5 (some (vI v4)) d9 d10 q5.2 h
      · have h := it_neg h p11
        refine r_aload_n hX (p2 := 134) rfl rfl rfl ⟨_, Or.inl rfl⟩ ?_
        refine r_gf hX (p2 := 137) (v := vR (ca 635 0)) rfl rfl (hc6 0 (by decide)) rfl rfl rfl ?_
        refine r_iload hX (p2 := 139) rfl rfl rfl ?_
        obtain ⟨c6, h⟩ := ck_some h
        refine r_faload hX (p2 := 140) (j := v4.toNat) rfl rfl (ha635 0 (by decide)) rfl rfl c6 rfl ?_
        refine r_aload_n hX (p2 := 141) rfl rfl rfl ⟨_, Or.inl rfl⟩ ?_
        refine r_gf hX (p2 := 144) (v := vR (ca 634 0)) rfl rfl (hc6 0 (by decide)) rfl rfl rfl ?_
        refine r_iload hX (p2 := 146) rfl rfl rfl ?_
        obtain ⟨c7, h⟩ := ck_some h
        refine r_faload hX (p2 := 147) (j := v4.toNat) rfl rfl (ha634 0 (by decide)) rfl rfl c7 rfl ?_
        obtain ⟨c8, h⟩ := ck_some h
        refine r_fsub hX (p2 := 148) rfl rfl c8 ?_
        obtain ⟨v9, hv9, h⟩ := bs_some h
        refine r_fstoreE hX (p2 := 150) (ls2 := [some (vR (cc 6 0)), some (vI x1), some (vF x2), some (vI x3), some (vI x4), d5, some (vF x6), some (vI x7), some (vI v4), some (vF v9), d10]) rfl rfl hv9 rfl rfl ?_
        refine r_fload hX (p2 := 152) rfl rfl rfl ?_
        refine r_fload hX (p2 := 154) rfl rfl rfl ?_
        refine r_fcmp hX (p2 := 155) rfl rfl ?_
        refine r_if hX (p2 := 162) (p3 := 158) (P := (pm_fc .g x6 v9) < 0) rfl (by decide) rfl rfl (fun p10 => ?_) (fun p10 => ?_)
        · have h := it_pos h p10
          refine r_iconst hX (p2 := 163) rfl rfl rfl ?_
          exact t_X6_fill_163 xs e q X hX _ _ ih hK218 x1 x2 x3 x4 x6 x7 v4 v9 0 d5 d10 q5.2 h
        · have h := it_neg h p10
          refine r_iconst hX (p2 := 159) rfl rfl rfl ?_
          refine r_goto hX (p2 := 163) rfl (by decide) ?_
          exact t_X6_fill_163 xs e q X hX _ _ ih hK218 x1 x2 x3 x4 x6 x7 v4 v9 1 d5 d10 q5.2 h
noncomputable def f_X6_fill_99 (K11 : Int → UInt32 → Int → Int → pS → Option (pS)) (K224 : pS → Option (pS)) (x1 : Int) (x2 : UInt32) (x3 : Int) (x4 : Int) (y0 : UInt32) (s : pS) : Option (pS) := f_X6_fill_104 (fun x1 x2 x3 x4 s1 => ck (inR (x4 + 1)) (K11 x1 x2 x3 (x4 + 1) s1)) 400 x1 x2 x3 x4 y0 0 s
set_option maxRecDepth 10000 in
theorem t_X6_fill_99 (xs : Nat → Int) (e : Nat) (q : pS) (X : List (Option pV) → List pV → Nat → pH → Prop) (hX : pm_clo 1001 xs (pCall pm_tx 1001 xs pm_P (e + 1)) (e + 1) mX6_fill (eU q) X) (K11 : Int → UInt32 → Int → Int → pS → Option (pS)) (K224 : pS → Option (pS)) (hK11 : ∀ (x1 : Int) (x2 : UInt32) (x3 : Int) (x4 : Int) (d5 : Option pV) (d6 : Option pV) (d7 : Option pV) (d8 : Option pV) (d9 : Option pV) (d10 : Option pV) (s : pS), K11 x1 x2 x3 x4 s = some q → X [some (vR (cc 6 0)), some (vI x1), some (vF x2), some (vI x3), some (vI x4), d5, d6, d7, d8, d9, d10] [] 11 (pW s)) (hK224 : ∀ (d0 : Option pV) (d1 : Option pV) (d2 : Option pV) (d3 : Option pV) (d4 : Option pV) (d5 : Option pV) (d6 : Option pV) (d7 : Option pV) (d8 : Option pV) (d9 : Option pV) (d10 : Option pV) (s : pS), K224 s = some q → X [d0, d1, d2, d3, d4, d5, d6, d7, d8, d9, d10] [] 224 (pW s)) : ∀  (x1 : Int) (x2 : UInt32) (x3 : Int) (x4 : Int) (y0 : UInt32) (d5 : Option pV) (d6 : Option pV) (d7 : Option pV) (d8 : Option pV) (d9 : Option pV) (d10 : Option pV) (hd5 : pm_nc d5) (s : pS), f_X6_fill_99 K11 K224 x1 x2 x3 x4 y0 s = some q → X [some (vR (cc 6 0)), some (vI x1), some (vF x2), some (vI x3), some (vI x4), d5, d6, d7, d8, d9, d10] [vF y0] 99 (pW s) := by
  intro x1 x2 x3 x4 y0 d5 d6 d7 d8 d9 d10 hd5 s h
  unfold f_X6_fill_99 at h
  refine r_fstore hX (p2 := 101) (ls2 := [some (vR (cc 6 0)), some (vI x1), some (vF x2), some (vI x3), some (vI x4), d5, some (vF y0), d7, d8, d9, d10]) rfl rfl rfl (st1_nc rfl hd5 rfl) ?_
  refine r_iconst hX (p2 := 102) rfl rfl rfl ?_
  refine r_istore hX (p2 := 104) (ls2 := [some (vR (cc 6 0)), some (vI x1), some (vF x2), some (vI x3), some (vI x4), d5, some (vF y0), some (vI 0), d8, d9, d10]) rfl rfl rfl rfl ?_
  refine t_X6_fill_104 xs e q X hX _ (fun x1 x2 x3 x4 d5 d6 d7 d8 d9 d10 s1 h => ?_) 400 x1 x2 x3 x4 y0 0 d5 d8 d9 d10 s h
  obtain ⟨c2, h⟩ := ck_some h
  refine r_iinc hX (p2 := 221) (ls2 := [some (vR (cc 6 0)), some (vI x1), some (vF x2), some (vI x3), some (vI (x4 + 1)), d5, d6, d7, d8, d9, d10]) rfl rfl rfl rfl c2 rfl ?_
  refine r_goto hX (p2 := 11) rfl (by decide) ?_
  exact hK11 x1 x2 x3 (x4 + 1) d5 d6 d7 d8 d9 d10 s1 h
noncomputable def f_X6_fill_85 (K11 : Int → UInt32 → Int → Int → pS → Option (pS)) (K224 : pS → Option (pS)) (x1 : Int) (x2 : UInt32) (x4 : Int) (x5 : Int) (y0 : Int) (s : pS) : Option (pS) := (if y0 = 0 then f_X6_fill_99 K11 K224 x1 x2 y0 x4 FP.fconst0 s else ck (vf_n32 (FP.fdiv x2 (FP.i2f (Int32.ofInt x5)))) (f_X6_fill_99 K11 K224 x1 x2 y0 x4 (FP.fdiv x2 (FP.i2f (Int32.ofInt x5))) s))
set_option maxRecDepth 10000 in
theorem t_X6_fill_85 (xs : Nat → Int) (e : Nat) (q : pS) (X : List (Option pV) → List pV → Nat → pH → Prop) (hX : pm_clo 1001 xs (pCall pm_tx 1001 xs pm_P (e + 1)) (e + 1) mX6_fill (eU q) X) (K11 : Int → UInt32 → Int → Int → pS → Option (pS)) (K224 : pS → Option (pS)) (hK11 : ∀ (x1 : Int) (x2 : UInt32) (x3 : Int) (x4 : Int) (d5 : Option pV) (d6 : Option pV) (d7 : Option pV) (d8 : Option pV) (d9 : Option pV) (d10 : Option pV) (s : pS), K11 x1 x2 x3 x4 s = some q → X [some (vR (cc 6 0)), some (vI x1), some (vF x2), some (vI x3), some (vI x4), d5, d6, d7, d8, d9, d10] [] 11 (pW s)) (hK224 : ∀ (d0 : Option pV) (d1 : Option pV) (d2 : Option pV) (d3 : Option pV) (d4 : Option pV) (d5 : Option pV) (d6 : Option pV) (d7 : Option pV) (d8 : Option pV) (d9 : Option pV) (d10 : Option pV) (s : pS), K224 s = some q → X [d0, d1, d2, d3, d4, d5, d6, d7, d8, d9, d10] [] 224 (pW s)) : ∀  (x1 : Int) (x2 : UInt32) (x4 : Int) (x5 : Int) (y0 : Int) (d3 : Option pV) (d6 : Option pV) (d7 : Option pV) (d8 : Option pV) (d9 : Option pV) (d10 : Option pV) (s : pS), f_X6_fill_85 K11 K224 x1 x2 x4 x5 y0 s = some q → X [some (vR (cc 6 0)), some (vI x1), some (vF x2), d3, some (vI x4), some (vI x5), d6, d7, d8, d9, d10] [vI y0] 85 (pW s) := by
  intro x1 x2 x4 x5 y0 d3 d6 d7 d8 d9 d10 s h
  unfold f_X6_fill_85 at h
  refine r_istore_n hX (p2 := 86) (ls2 := [some (vR (cc 6 0)), some (vI x1), some (vF x2), some (vI y0), some (vI x4), some (vI x5), d6, d7, d8, d9, d10]) rfl rfl rfl rfl ?_
  refine r_iload_n hX (p2 := 87) rfl rfl rfl ?_
  refine r_if hX (p2 := 98) (p3 := 90) (P := y0 = 0) rfl (by decide) rfl rfl (fun p2 => ?_) (fun p2 => ?_)
  · have h := it_pos h p2
    refine r_fconst0 hX (p2 := 99) rfl rfl ?_
    exact t_X6_fill_99 xs e q X hX _ _ hK11 hK224 x1 x2 y0 x4 FP.fconst0 (some (vI x5)) d6 d7 d8 d9 d10 rfl s h
  · have h := it_neg h p2
    refine r_fload_n hX (p2 := 91) rfl rfl rfl ?_
    refine r_iload hX (p2 := 93) rfl rfl rfl ?_
    refine r_i2f hX (p2 := 94) rfl rfl ?_
    obtain ⟨c1, h⟩ := ck_some h
    refine r_fdiv hX (p2 := 95) rfl rfl c1 ?_
    refine r_goto hX (p2 := 99) rfl (by decide) ?_
    exact t_X6_fill_99 xs e q X hX _ _ hK11 hK224 x1 x2 y0 x4 (FP.fdiv x2 (FP.i2f (Int32.ofInt x5))) (some (vI x5)) d6 d7 d8 d9 d10 rfl s h
noncomputable def f_X6_fill_11 (K224 : pS → Option (pS)) : Nat → Int → UInt32 → Int → Int → pS → Option (pS)
  | 0, _, _, _, _, _ => none
  | n + 1, x1, x2, x3, x4, s => (if 16 ≤ x4 then K224 s else (if x3 = 0 then K224 s else (if (pm_fc .l x2 FP.fconst0) ≤ 0 then K224 s else f_X6_fill_34 (fun x1 x2 x4 x5 s1 => (if x5 ≤ 0 then f_X6_fill_85 (f_X6_fill_11 K224 n) K224 x1 x2 x4 x5 0 s1 else f_X6_fill_85 (f_X6_fill_11 K224 n) K224 x1 x2 x4 x5 1 s1)) 400 x1 x2 x4 0 0 s)))
set_option maxRecDepth 10000 in
theorem t_X6_fill_11 (xs : Nat → Int) (e : Nat) (q : pS) (X : List (Option pV) → List pV → Nat → pH → Prop) (hX : pm_clo 1001 xs (pCall pm_tx 1001 xs pm_P (e + 1)) (e + 1) mX6_fill (eU q) X) (K224 : pS → Option (pS)) (hK224 : ∀ (d0 : Option pV) (d1 : Option pV) (d2 : Option pV) (d3 : Option pV) (d4 : Option pV) (d5 : Option pV) (d6 : Option pV) (d7 : Option pV) (d8 : Option pV) (d9 : Option pV) (d10 : Option pV) (s : pS), K224 s = some q → X [d0, d1, d2, d3, d4, d5, d6, d7, d8, d9, d10] [] 224 (pW s)) : ∀ (n : Nat) (x1 : Int) (x2 : UInt32) (x3 : Int) (x4 : Int) (d5 : Option pV) (d6 : Option pV) (d7 : Option pV) (d8 : Option pV) (d9 : Option pV) (d10 : Option pV) (s : pS), f_X6_fill_11 K224 n x1 x2 x3 x4 s = some q → X [some (vR (cc 6 0)), some (vI x1), some (vF x2), some (vI x3), some (vI x4), d5, d6, d7, d8, d9, d10] [] 11 (pW s) := by
  intro n
  induction n with
  | zero =>
    intro x1 x2 x3 x4 d5 d6 d7 d8 d9 d10 s h
    rw [f_X6_fill_11] at h
    cases h
  | succ n ih =>
    intro x1 x2 x3 x4 d5 d6 d7 d8 d9 d10 s h
    rw [f_X6_fill_11] at h
    refine r_iload hX (p2 := 13) rfl rfl rfl ?_
    refine r_bipush hX (p2 := 15) rfl rfl rfl ?_
    refine r_icmp hX (p2 := 224) (p3 := 18) (P := 16 ≤ x4) rfl (by decide) rfl rfl (fun p5 => ?_) (fun p5 => ?_)
    · have h := it_pos h p5
      exact hK224 (some (vR (cc 6 0))) (some (vI x1)) (some (vF x2)) (some (vI x3)) (some (vI x4)) d5 d6 d7 d8 d9 d10 s h
    · have h := it_neg h p5
      refine r_iload_n hX (p2 := 19) rfl rfl rfl ?_
      refine r_if hX (p2 := 224) (p3 := 22) (P := x3 = 0) rfl (by decide) rfl rfl (fun p4 => ?_) (fun p4 => ?_)
      · have h := it_pos h p4
        exact hK224 (some (vR (cc 6 0))) (some (vI x1)) (some (vF x2)) (some (vI x3)) (some (vI x4)) d5 d6 d7 d8 d9 d10 s h
      · have h := it_neg h p4
        refine r_fload_n hX (p2 := 23) rfl rfl rfl ?_
        refine r_fconst0 hX (p2 := 24) rfl rfl ?_
        refine r_fcmp hX (p2 := 25) rfl rfl ?_
        refine r_if hX (p2 := 224) (p3 := 28) (P := (pm_fc .l x2 FP.fconst0) ≤ 0) rfl (by decide) rfl rfl (fun p3 => ?_) (fun p3 => ?_)
        · have h := it_pos h p3
          exact hK224 (some (vR (cc 6 0))) (some (vI x1)) (some (vF x2)) (some (vI x3)) (some (vI x4)) d5 d6 d7 d8 d9 d10 s h
        · have h := it_neg h p3
          refine r_iconst hX (p2 := 29) rfl rfl rfl ?_
          refine r_istore hX (p2 := 31) (ls2 := [some (vR (cc 6 0)), some (vI x1), some (vF x2), some (vI x3), some (vI x4), some (vI 0), d6, d7, d8, d9, d10]) rfl rfl rfl rfl ?_
          refine r_iconst hX (p2 := 32) rfl rfl rfl ?_
          refine r_istore hX (p2 := 34) (ls2 := [some (vR (cc 6 0)), some (vI x1), some (vF x2), some (vI x3), some (vI x4), some (vI 0), some (vI 0), d7, d8, d9, d10]) rfl rfl rfl rfl ?_
          refine t_X6_fill_34 xs e q X hX _ (fun x1 x2 x4 x5 d3 d6 d7 d8 d9 d10 s1 h => ?_) 400 x1 x2 x4 0 0 (some (vI x3)) d7 d8 d9 d10 s h
          refine r_iload hX (p2 := 77) rfl rfl rfl ?_
          refine r_if hX (p2 := 84) (p3 := 80) (P := x5 ≤ 0) rfl (by decide) rfl rfl (fun p2 => ?_) (fun p2 => ?_)
          · have h := it_pos h p2
            refine r_iconst hX (p2 := 85) rfl rfl rfl ?_
            exact t_X6_fill_85 xs e q X hX _ _ ih hK224 x1 x2 x4 x5 0 d3 d6 d7 d8 d9 d10 s1 h
          · have h := it_neg h p2
            refine r_iconst hX (p2 := 81) rfl rfl rfl ?_
            refine r_goto hX (p2 := 85) rfl (by decide) ?_
            exact t_X6_fill_85 xs e q X hX _ _ ih hK224 x1 x2 x4 x5 1 d3 d6 d7 d8 d9 d10 s1 h
noncomputable def f_X6_fill_224 (s : pS) : Option (pS) := some s
set_option maxRecDepth 10000 in
theorem t_X6_fill_224 (xs : Nat → Int) (e : Nat) (q : pS) (X : List (Option pV) → List pV → Nat → pH → Prop) (hX : pm_clo 1001 xs (pCall pm_tx 1001 xs pm_P (e + 1)) (e + 1) mX6_fill (eU q) X) : ∀  (d0 : Option pV) (d1 : Option pV) (d2 : Option pV) (d3 : Option pV) (d4 : Option pV) (d5 : Option pV) (d6 : Option pV) (d7 : Option pV) (d8 : Option pV) (d9 : Option pV) (d10 : Option pV) (s : pS), f_X6_fill_224 s = some q → X [d0, d1, d2, d3, d4, d5, d6, d7, d8, d9, d10] [] 224 (pW s) := by
  intro d0 d1 d2 d3 d4 d5 d6 d7 d8 d9 d10 s h
  unfold f_X6_fill_224 at h
  exact r_return hX rfl rfl (eU_ok h)
noncomputable def f_X6_fill (a1 : Int) (s : pS) : Option (pS) := (f_X6_left a1 s).bind (fun q1 => f_X6_fill_11 (fun s2 => f_X6_fill_224 s2) 400 a1 q1.1 1 0 q1.2)
set_option maxRecDepth 10000 in
theorem c_X6_fill (xs : Nat → Int) (e : Nat) (a1 : Int) (s : pS) (q : pS) (h : f_X6_fill a1 s = some q) : pCall pm_tx 1001 xs pm_P (e + 1 + 1) 150 [vR (cc 6 0), vI a1] (pW s) (.inl none) (pW q) := by
  refine pCall_of mX6_fill rfl rfl (fun X hX => ?_)
  show X [some (vR (cc 6 0)), some (vI a1), none, none, none, none, none, none, none, none, none] [] 0 (pW s)
  replace hX : pm_clo 1001 xs (pCall pm_tx 1001 xs pm_P (e + 1)) (e + 1) mX6_fill (eU q) X := hX
  unfold f_X6_fill at h
  refine r_aload_n hX (p2 := 1) rfl rfl rfl ⟨_, Or.inl rfl⟩ ?_
  refine r_iload_n hX (p2 := 2) rfl rfl rfl ?_
  obtain ⟨q1, hq1, h⟩ := bd_some h
  refine r_callv hX (p2 := 5) (v := some (vF q1.1)) (as := [vI a1]) (r := []) (st2 := [vF q1.1]) rfl rfl rfl rfl rfl (hc6 0 (by decide)) rfl rfl (c_X6_left xs e a1 s q1 hq1) ?_
  refine r_fstore_n hX (p2 := 6) (ls2 := [some (vR (cc 6 0)), some (vI a1), some (vF q1.1), none, none, none, none, none, none, none, none]) rfl rfl rfl rfl ?_
  refine r_iconst hX (p2 := 7) rfl rfl rfl ?_
  refine r_istore_n hX (p2 := 8) (ls2 := [some (vR (cc 6 0)), some (vI a1), some (vF q1.1), some (vI 1), none, none, none, none, none, none, none]) rfl rfl rfl rfl ?_
  refine r_iconst hX (p2 := 9) rfl rfl rfl ?_
  refine r_istore hX (p2 := 11) (ls2 := [some (vR (cc 6 0)), some (vI a1), some (vF q1.1), some (vI 1), some (vI 0), none, none, none, none, none, none]) rfl rfl rfl rfl ?_
  refine t_X6_fill_11 xs e q X hX _ (fun d0 d1 d2 d3 d4 d5 d6 d7 d8 d9 d10 s2 h => ?_) 400 a1 q1.1 1 0 none none none none none none q1.2 h
  exact t_X6_fill_224 xs e q X hX d0 d1 d2 d3 d4 d5 d6 d7 d8 d9 d10 s2 h
noncomputable def f_X6_together_47 (K4 : Int → UInt32 → Int → pS → Option (UInt32 × pS)) (K53 : UInt32 → pS → Option (UInt32 × pS)) (x1 : Int) (x2 : UInt32) (x3 : Int) (s : pS) : Option (UInt32 × pS) := ck (inR (x3 + 1)) (K4 x1 x2 (x3 + 1) s)
set_option maxRecDepth 10000 in
theorem t_X6_together_47 (xs : Nat → Int) (e : Nat) (q : UInt32 × pS) (X : List (Option pV) → List pV → Nat → pH → Prop) (hX : pm_clo 1001 xs (pCall pm_tx 1001 xs pm_P (e + 1)) (e + 1) mX6_together (eF q) X) (K4 : Int → UInt32 → Int → pS → Option (UInt32 × pS)) (K53 : UInt32 → pS → Option (UInt32 × pS)) (hK4 : ∀ (x1 : Int) (x2 : UInt32) (x3 : Int) (s : pS), K4 x1 x2 x3 s = some q → X [some (vR (cc 6 0)), some (vI x1), some (vF x2), some (vI x3)] [] 4 (pW s)) (hK53 : ∀ (x2 : UInt32) (d0 : Option pV) (d1 : Option pV) (d3 : Option pV) (s : pS), K53 x2 s = some q → X [d0, d1, some (vF x2), d3] [] 53 (pW s)) : ∀  (x1 : Int) (x2 : UInt32) (x3 : Int) (s : pS), f_X6_together_47 K4 K53 x1 x2 x3 s = some q → X [some (vR (cc 6 0)), some (vI x1), some (vF x2), some (vI x3)] [] 47 (pW s) := by
  intro x1 x2 x3 s h
  unfold f_X6_together_47 at h
  obtain ⟨c1, h⟩ := ck_some h
  refine r_iinc hX (p2 := 50) (ls2 := [some (vR (cc 6 0)), some (vI x1), some (vF x2), some (vI (x3 + 1))]) rfl rfl rfl rfl c1 rfl ?_
  refine r_goto hX (p2 := 4) rfl (by decide) ?_
  exact hK4 x1 x2 (x3 + 1) s h
noncomputable def f_X6_together_4 (K53 : UInt32 → pS → Option (UInt32 × pS)) : Nat → Int → UInt32 → Int → pS → Option (UInt32 × pS)
  | 0, _, _, _, _ => none
  | n + 1, x1, x2, x3, s => ck (0 ≤ x1 ∧ x1 < 2) ((if (sA s 633 0 x1.toNat) ≤ x3 then K53 x2 s else (f_X6_highOf x1 x3 s).bind (fun q2 => (if q2.1 ≠ 4 then f_X6_together_47 (f_X6_together_4 K53 n) K53 x1 x2 x3 q2.2 else ck (0 ≤ x3 ∧ x3 < 12) ((if (sA q2.2 644 0 x3.toNat) ≠ 0 then f_X6_together_47 (f_X6_together_4 K53 n) K53 x1 x2 x3 q2.2 else ck (inR (12 * x1)) (ck (inR ((12 * x1) + x3)) (ck (0 ≤ ((12 * x1) + x3) ∧ ((12 * x1) + x3) < 48) (ck (vf_n32 (FP.fadd x2 (sB q2.2 608 0 ((12 * x1) + x3).toNat))) (bs ((FP.fadd x2 (sB q2.2 608 0 ((12 * x1) + x3).toNat))) (fun v8 => f_X6_together_47 (f_X6_together_4 K53 n) K53 x1 v8 x3 q2.2)))))))))))
set_option maxRecDepth 10000 in
theorem t_X6_together_4 (xs : Nat → Int) (e : Nat) (q : UInt32 × pS) (X : List (Option pV) → List pV → Nat → pH → Prop) (hX : pm_clo 1001 xs (pCall pm_tx 1001 xs pm_P (e + 1)) (e + 1) mX6_together (eF q) X) (K53 : UInt32 → pS → Option (UInt32 × pS)) (hK53 : ∀ (x2 : UInt32) (d0 : Option pV) (d1 : Option pV) (d3 : Option pV) (s : pS), K53 x2 s = some q → X [d0, d1, some (vF x2), d3] [] 53 (pW s)) : ∀ (n : Nat) (x1 : Int) (x2 : UInt32) (x3 : Int) (s : pS), f_X6_together_4 K53 n x1 x2 x3 s = some q → X [some (vR (cc 6 0)), some (vI x1), some (vF x2), some (vI x3)] [] 4 (pW s) := by
  intro n
  induction n with
  | zero =>
    intro x1 x2 x3 s h
    rw [f_X6_together_4] at h
    cases h
  | succ n ih =>
    intro x1 x2 x3 s h
    rw [f_X6_together_4] at h
    refine r_iload_n hX (p2 := 5) rfl rfl rfl ?_
    refine r_aload_n hX (p2 := 6) rfl rfl rfl ⟨_, Or.inl rfl⟩ ?_
    refine r_gf hX (p2 := 9) (v := vR (ca 633 0)) rfl rfl (hc6 0 (by decide)) rfl rfl rfl ?_
    refine r_iload_n hX (p2 := 10) rfl rfl rfl ?_
    obtain ⟨c1, h⟩ := ck_some h
    refine r_iaload hX (p2 := 11) (j := x1.toNat) rfl rfl (ha633 0 (by decide)) rfl rfl c1 rfl ?_
    refine r_icmp hX (p2 := 53) (p3 := 14) (P := (sA s 633 0 x1.toNat) ≤ x3) rfl (by decide) rfl rfl (fun p11 => ?_) (fun p11 => ?_)
    · have h := it_pos h p11
      exact hK53 x2 (some (vR (cc 6 0))) (some (vI x1)) (some (vI x3)) s h
    · have h := it_neg h p11
      refine r_aload_n hX (p2 := 15) rfl rfl rfl ⟨_, Or.inl rfl⟩ ?_
      refine r_iload_n hX (p2 := 16) rfl rfl rfl ?_
      refine r_iload_n hX (p2 := 17) rfl rfl rfl ?_
      obtain ⟨q2, hq2, h⟩ := bd_some h
      refine r_callv hX (p2 := 20) (v := some (vI q2.1)) (as := [vI x1, vI x3]) (r := []) (st2 := [vI q2.1]) rfl rfl rfl rfl rfl (hc6 0 (by decide)) rfl rfl (c_X6_highOf xs e x1 x3 s q2 hq2) ?_
      refine r_iconst hX (p2 := 21) rfl rfl rfl ?_
      refine r_icmp hX (p2 := 47) (p3 := 24) (P := q2.1 ≠ 4) rfl (by decide) rfl rfl (fun p10 => ?_) (fun p10 => ?_)
      · have h := it_pos h p10
        exact t_X6_together_47 xs e q X hX _ _ ih hK53 x1 x2 x3 q2.2 h
      · have h := it_neg h p10
        refine r_aload_n hX (p2 := 25) rfl rfl rfl ⟨_, Or.inl rfl⟩ ?_
        refine r_gf hX (p2 := 28) (v := vR (ca 644 0)) rfl rfl (hc6 0 (by decide)) rfl rfl rfl ?_
        refine r_iload_n hX (p2 := 29) rfl rfl rfl ?_
        obtain ⟨c3, h⟩ := ck_some h
        refine r_baload hX (p2 := 30) (j := x3.toNat) rfl rfl (ha644 0 (by decide)) rfl rfl c3 rfl ?_
        refine r_if hX (p2 := 47) (p3 := 33) (P := (sA q2.2 644 0 x3.toNat) ≠ 0) rfl (by decide) rfl rfl (fun p9 => ?_) (fun p9 => ?_)
        · have h := it_pos h p9
          exact t_X6_together_47 xs e q X hX _ _ ih hK53 x1 x2 x3 q2.2 h
        · have h := it_neg h p9
          refine r_fload_n hX (p2 := 34) rfl rfl rfl ?_
          refine r_aload_n hX (p2 := 35) rfl rfl rfl ⟨_, Or.inl rfl⟩ ?_
          refine r_gf hX (p2 := 38) (v := vR (ca 608 0)) rfl rfl (hc6 0 (by decide)) rfl rfl rfl ?_
          refine r_bipush hX (p2 := 40) rfl rfl rfl ?_
          refine r_iload_n hX (p2 := 41) rfl rfl rfl ?_
          obtain ⟨c4, h⟩ := ck_some h
          refine r_imul hX (p2 := 42) rfl rfl c4 ?_
          refine r_iload_n hX (p2 := 43) rfl rfl rfl ?_
          obtain ⟨c5, h⟩ := ck_some h
          refine r_iadd hX (p2 := 44) rfl rfl c5 ?_
          obtain ⟨c6, h⟩ := ck_some h
          refine r_faload hX (p2 := 45) (j := ((12 * x1) + x3).toNat) rfl rfl (ha608 0 (by decide)) rfl rfl c6 rfl ?_
          obtain ⟨c7, h⟩ := ck_some h
          refine r_fadd hX (p2 := 46) rfl rfl c7 ?_
          obtain ⟨v8, hv8, h⟩ := bs_some h
          refine r_fstoreE_n hX (p2 := 47) (ls2 := [some (vR (cc 6 0)), some (vI x1), some (vF v8), some (vI x3)]) rfl rfl hv8 rfl rfl ?_
          exact t_X6_together_47 xs e q X hX _ _ ih hK53 x1 v8 x3 q2.2 h
noncomputable def f_X6_together_64 (y0 : UInt32) (s : pS) : Option (UInt32 × pS) := some (y0, s)
set_option maxRecDepth 10000 in
theorem t_X6_together_64 (xs : Nat → Int) (e : Nat) (q : UInt32 × pS) (X : List (Option pV) → List pV → Nat → pH → Prop) (hX : pm_clo 1001 xs (pCall pm_tx 1001 xs pm_P (e + 1)) (e + 1) mX6_together (eF q) X) : ∀  (y0 : UInt32) (d0 : Option pV) (d1 : Option pV) (d2 : Option pV) (d3 : Option pV) (s : pS), f_X6_together_64 y0 s = some q → X [d0, d1, d2, d3] [vF y0] 64 (pW s) := by
  intro y0 d0 d1 d2 d3 s h
  unfold f_X6_together_64 at h
  exact r_freturn hX rfl rfl (eF_ok h)
noncomputable def f_X6_together (a1 : Int) (s : pS) : Option (UInt32 × pS) := f_X6_together_4 (fun x2 s1 => (if 0 ≤ (pm_fc .g x2 FP.fconst1) then f_X6_together_64 x2 s1 else f_X6_together_64 FP.fconst1 s1)) 400 a1 FP.fconst0 0 s
set_option maxRecDepth 10000 in
theorem c_X6_together (xs : Nat → Int) (e : Nat) (a1 : Int) (s : pS) (q : UInt32 × pS) (h : f_X6_together a1 s = some q) : pCall pm_tx 1001 xs pm_P (e + 1 + 1) 151 [vR (cc 6 0), vI a1] (pW s) (.inl (some (vF q.1))) (pW q.2) := by
  refine pCall_of mX6_together rfl rfl (fun X hX => ?_)
  show X [some (vR (cc 6 0)), some (vI a1), none, none] [] 0 (pW s)
  replace hX : pm_clo 1001 xs (pCall pm_tx 1001 xs pm_P (e + 1)) (e + 1) mX6_together (eF q) X := hX
  unfold f_X6_together at h
  refine r_fconst0 hX (p2 := 1) rfl rfl ?_
  refine r_fstore_n hX (p2 := 2) (ls2 := [some (vR (cc 6 0)), some (vI a1), some (vF FP.fconst0), none]) rfl rfl rfl rfl ?_
  refine r_iconst hX (p2 := 3) rfl rfl rfl ?_
  refine r_istore_n hX (p2 := 4) (ls2 := [some (vR (cc 6 0)), some (vI a1), some (vF FP.fconst0), some (vI 0)]) rfl rfl rfl rfl ?_
  refine t_X6_together_4 xs e q X hX _ (fun x2 d0 d1 d3 s1 h => ?_) 400 a1 FP.fconst0 0 s h
  refine r_fload_n hX (p2 := 54) rfl rfl rfl ?_
  refine r_fconst1 hX (p2 := 55) rfl rfl ?_
  refine r_fcmp hX (p2 := 56) rfl rfl ?_
  refine r_if hX (p2 := 63) (p3 := 59) (P := 0 ≤ (pm_fc .g x2 FP.fconst1)) rfl (by decide) rfl rfl (fun p2 => ?_) (fun p2 => ?_)
  · have h := it_pos h p2
    refine r_fload_n hX (p2 := 64) rfl rfl rfl ?_
    exact t_X6_together_64 xs e q X hX x2 d0 d1 (some (vF x2)) d3 s1 h
  · have h := it_neg h p2
    refine r_fconst1 hX (p2 := 60) rfl rfl ?_
    refine r_goto hX (p2 := 64) rfl (by decide) ?_
    exact t_X6_together_64 xs e q X hX FP.fconst1 d0 d1 (some (vF x2)) d3 s1 h
noncomputable def f_X6_shares_12 (K38 : Int → Int → UInt32 → pS → Option (pS)) : Nat → Int → Int → UInt32 → Int → pS → Option (pS)
  | 0, _, _, _, _, _ => none
  | n + 1, x1, x2, x3, x4, s => ck (0 ≤ x1 ∧ x1 < 2) ((if (sA s 633 0 x1.toNat) ≤ x4 then K38 x1 x2 x3 s else ck (0 ≤ x1 ∧ x1 < 2) (ck (vf_n32 (FP.fsub x3 (sB s 627 0 x1.toNat))) (bs ((FP.fsub x3 (sB s 627 0 x1.toNat))) (fun v4 => ck (inR (x4 + 1)) (f_X6_shares_12 K38 n x1 x2 v4 (x4 + 1) s))))))
set_option maxRecDepth 10000 in
theorem t_X6_shares_12 (xs : Nat → Int) (e : Nat) (q : pS) (X : List (Option pV) → List pV → Nat → pH → Prop) (hX : pm_clo 1001 xs (pCall pm_tx 1001 xs pm_P (e + 2)) (e + 2) mX6_shares (eU q) X) (K38 : Int → Int → UInt32 → pS → Option (pS)) (hK38 : ∀ (x1 : Int) (x2 : Int) (x3 : UInt32) (d4 : Option pV) (d5 : Option pV) (d6 : Option pV) (s : pS), K38 x1 x2 x3 s = some q → X [some (vR (cc 6 0)), some (vI x1), some (vI x2), some (vF x3), d4, d5, d6] [] 38 (pW s)) : ∀ (n : Nat) (x1 : Int) (x2 : Int) (x3 : UInt32) (x4 : Int) (d5 : Option pV) (d6 : Option pV) (s : pS), f_X6_shares_12 K38 n x1 x2 x3 x4 s = some q → X [some (vR (cc 6 0)), some (vI x1), some (vI x2), some (vF x3), some (vI x4), d5, d6] [] 12 (pW s) := by
  intro n
  induction n with
  | zero =>
    intro x1 x2 x3 x4 d5 d6 s h
    rw [f_X6_shares_12] at h
    cases h
  | succ n ih =>
    intro x1 x2 x3 x4 d5 d6 s h
    rw [f_X6_shares_12] at h
    refine r_iload hX (p2 := 14) rfl rfl rfl ?_
    refine r_aload_n hX (p2 := 15) rfl rfl rfl ⟨_, Or.inl rfl⟩ ?_
    refine r_gf hX (p2 := 18) (v := vR (ca 633 0)) rfl rfl (hc6 0 (by decide)) rfl rfl rfl ?_
    refine r_iload_n hX (p2 := 19) rfl rfl rfl ?_
    obtain ⟨c1, h⟩ := ck_some h
    refine r_iaload hX (p2 := 20) (j := x1.toNat) rfl rfl (ha633 0 (by decide)) rfl rfl c1 rfl ?_
    refine r_icmp hX (p2 := 38) (p3 := 23) (P := (sA s 633 0 x1.toNat) ≤ x4) rfl (by decide) rfl rfl (fun p6 => ?_) (fun p6 => ?_)
    · have h := it_pos h p6
      exact hK38 x1 x2 x3 (some (vI x4)) d5 d6 s h
    · have h := it_neg h p6
      refine r_fload_n hX (p2 := 24) rfl rfl rfl ?_
      refine r_aload_n hX (p2 := 25) rfl rfl rfl ⟨_, Or.inl rfl⟩ ?_
      refine r_gf hX (p2 := 28) (v := vR (ca 627 0)) rfl rfl (hc6 0 (by decide)) rfl rfl rfl ?_
      refine r_iload_n hX (p2 := 29) rfl rfl rfl ?_
      obtain ⟨c2, h⟩ := ck_some h
      refine r_faload hX (p2 := 30) (j := x1.toNat) rfl rfl (ha627 0 (by decide)) rfl rfl c2 rfl ?_
      obtain ⟨c3, h⟩ := ck_some h
      refine r_fsub hX (p2 := 31) rfl rfl c3 ?_
      obtain ⟨v4, hv4, h⟩ := bs_some h
      refine r_fstoreE_n hX (p2 := 32) (ls2 := [some (vR (cc 6 0)), some (vI x1), some (vI x2), some (vF v4), some (vI x4), d5, d6]) rfl rfl hv4 rfl rfl ?_
      obtain ⟨c5, h⟩ := ck_some h
      refine r_iinc hX (p2 := 35) (ls2 := [some (vR (cc 6 0)), some (vI x1), some (vI x2), some (vF v4), some (vI (x4 + 1)), d5, d6]) rfl rfl rfl rfl c5 rfl ?_
      refine r_goto hX (p2 := 12) rfl (by decide) ?_
      exact ih x1 x2 v4 (x4 + 1) d5 d6 s h
noncomputable def f_X6_shares_113 (K41 : Int → Int → UInt32 → Int → pS → Option (pS)) (K119 : Int → Int → UInt32 → pS → Option (pS)) (x1 : Int) (x2 : Int) (x3 : UInt32) (x4 : Int) (s : pS) : Option (pS) := ck (inR (x4 + 1)) (K41 x1 x2 x3 (x4 + 1) s)
set_option maxRecDepth 10000 in
theorem t_X6_shares_113 (xs : Nat → Int) (e : Nat) (q : pS) (X : List (Option pV) → List pV → Nat → pH → Prop) (hX : pm_clo 1001 xs (pCall pm_tx 1001 xs pm_P (e + 2)) (e + 2) mX6_shares (eU q) X) (K41 : Int → Int → UInt32 → Int → pS → Option (pS)) (K119 : Int → Int → UInt32 → pS → Option (pS)) (hK41 : ∀ (x1 : Int) (x2 : Int) (x3 : UInt32) (x4 : Int) (d5 : Option pV) (d6 : Option pV) (s : pS), K41 x1 x2 x3 x4 s = some q → X [some (vR (cc 6 0)), some (vI x1), some (vI x2), some (vF x3), some (vI x4), d5, d6] [] 41 (pW s)) (hK119 : ∀ (x1 : Int) (x2 : Int) (x3 : UInt32) (d4 : Option pV) (d5 : Option pV) (d6 : Option pV) (s : pS), K119 x1 x2 x3 s = some q → X [some (vR (cc 6 0)), some (vI x1), some (vI x2), some (vF x3), d4, d5, d6] [] 119 (pW s)) : ∀  (x1 : Int) (x2 : Int) (x3 : UInt32) (x4 : Int) (d5 : Option pV) (d6 : Option pV) (s : pS), f_X6_shares_113 K41 K119 x1 x2 x3 x4 s = some q → X [some (vR (cc 6 0)), some (vI x1), some (vI x2), some (vF x3), some (vI x4), d5, d6] [] 113 (pW s) := by
  intro x1 x2 x3 x4 d5 d6 s h
  unfold f_X6_shares_113 at h
  obtain ⟨c1, h⟩ := ck_some h
  refine r_iinc hX (p2 := 116) (ls2 := [some (vR (cc 6 0)), some (vI x1), some (vI x2), some (vF x3), some (vI (x4 + 1)), d5, d6]) rfl rfl rfl rfl c1 rfl ?_
  refine r_goto hX (p2 := 41) rfl (by decide) ?_
  exact hK41 x1 x2 x3 (x4 + 1) d5 d6 s h
noncomputable def f_X6_shares_92 (K41 : Int → Int → UInt32 → Int → pS → Option (pS)) (K119 : Int → Int → UInt32 → pS → Option (pS)) (x1 : Int) (x3 : UInt32) (x4 : Int) (x5 : Int) (y0 : Int) (s : pS) : Option (pS) := (if x5 ≠ 0 then f_X6_shares_113 K41 K119 x1 y0 x3 x4 s else ck (inR (12 * x1)) (ck (inR ((12 * x1) + x4)) (ck (0 ≤ ((12 * x1) + x4) ∧ ((12 * x1) + x4) < 24) (ck (vf_n32 (FP.fsub x3 (sB s 634 0 ((12 * x1) + x4).toNat))) (bs ((FP.fsub x3 (sB s 634 0 ((12 * x1) + x4).toNat))) (fun v5 => f_X6_shares_113 K41 K119 x1 y0 v5 x4 s))))))
set_option maxRecDepth 10000 in
theorem t_X6_shares_92 (xs : Nat → Int) (e : Nat) (q : pS) (X : List (Option pV) → List pV → Nat → pH → Prop) (hX : pm_clo 1001 xs (pCall pm_tx 1001 xs pm_P (e + 2)) (e + 2) mX6_shares (eU q) X) (K41 : Int → Int → UInt32 → Int → pS → Option (pS)) (K119 : Int → Int → UInt32 → pS → Option (pS)) (hK41 : ∀ (x1 : Int) (x2 : Int) (x3 : UInt32) (x4 : Int) (d5 : Option pV) (d6 : Option pV) (s : pS), K41 x1 x2 x3 x4 s = some q → X [some (vR (cc 6 0)), some (vI x1), some (vI x2), some (vF x3), some (vI x4), d5, d6] [] 41 (pW s)) (hK119 : ∀ (x1 : Int) (x2 : Int) (x3 : UInt32) (d4 : Option pV) (d5 : Option pV) (d6 : Option pV) (s : pS), K119 x1 x2 x3 s = some q → X [some (vR (cc 6 0)), some (vI x1), some (vI x2), some (vF x3), d4, d5, d6] [] 119 (pW s)) : ∀  (x1 : Int) (x3 : UInt32) (x4 : Int) (x5 : Int) (y0 : Int) (d2 : Option pV) (d6 : Option pV) (s : pS), f_X6_shares_92 K41 K119 x1 x3 x4 x5 y0 s = some q → X [some (vR (cc 6 0)), some (vI x1), d2, some (vF x3), some (vI x4), some (vI x5), d6] [vI y0] 92 (pW s) := by
  intro x1 x3 x4 x5 y0 d2 d6 s h
  unfold f_X6_shares_92 at h
  refine r_istore_n hX (p2 := 93) (ls2 := [some (vR (cc 6 0)), some (vI x1), some (vI y0), some (vF x3), some (vI x4), some (vI x5), d6]) rfl rfl rfl rfl ?_
  refine r_iload hX (p2 := 95) rfl rfl rfl ?_
  refine r_if hX (p2 := 113) (p3 := 98) (P := x5 ≠ 0) rfl (by decide) rfl rfl (fun p6 => ?_) (fun p6 => ?_)
  · have h := it_pos h p6
    exact t_X6_shares_113 xs e q X hX _ _ hK41 hK119 x1 y0 x3 x4 (some (vI x5)) d6 s h
  · have h := it_neg h p6
    refine r_fload_n hX (p2 := 99) rfl rfl rfl ?_
    refine r_aload_n hX (p2 := 100) rfl rfl rfl ⟨_, Or.inl rfl⟩ ?_
    refine r_gf hX (p2 := 103) (v := vR (ca 634 0)) rfl rfl (hc6 0 (by decide)) rfl rfl rfl ?_
    refine r_bipush hX (p2 := 105) rfl rfl rfl ?_
    refine r_iload_n hX (p2 := 106) rfl rfl rfl ?_
    obtain ⟨c1, h⟩ := ck_some h
    refine r_imul hX (p2 := 107) rfl rfl c1 ?_
    refine r_iload hX (p2 := 109) rfl rfl rfl ?_
    obtain ⟨c2, h⟩ := ck_some h
    refine r_iadd hX (p2 := 110) rfl rfl c2 ?_
    obtain ⟨c3, h⟩ := ck_some h
    refine r_faload hX (p2 := 111) (j := ((12 * x1) + x4).toNat) rfl rfl (ha634 0 (by decide)) rfl rfl c3 rfl ?_
    obtain ⟨c4, h⟩ := ck_some h
    refine r_fsub hX (p2 := 112) rfl rfl c4 ?_
    obtain ⟨v5, hv5, h⟩ := bs_some h
    refine r_fstoreE_n hX (p2 := 113) (ls2 := [some (vR (cc 6 0)), some (vI x1), some (vI y0), some (vF v5), some (vI x4), some (vI x5), d6]) rfl rfl hv5 rfl rfl ?_
    exact t_X6_shares_113 xs e q X hX _ _ hK41 hK119 x1 y0 v5 x4 (some (vI x5)) d6 s h
noncomputable def f_X6_shares_87 (K41 : Int → Int → UInt32 → Int → pS → Option (pS)) (K119 : Int → Int → UInt32 → pS → Option (pS)) (x1 : Int) (x3 : UInt32) (x4 : Int) (x5 : Int) (s : pS) : Option (pS) := f_X6_shares_92 K41 K119 x1 x3 x4 x5 1 s
set_option maxRecDepth 10000 in
theorem t_X6_shares_87 (xs : Nat → Int) (e : Nat) (q : pS) (X : List (Option pV) → List pV → Nat → pH → Prop) (hX : pm_clo 1001 xs (pCall pm_tx 1001 xs pm_P (e + 2)) (e + 2) mX6_shares (eU q) X) (K41 : Int → Int → UInt32 → Int → pS → Option (pS)) (K119 : Int → Int → UInt32 → pS → Option (pS)) (hK41 : ∀ (x1 : Int) (x2 : Int) (x3 : UInt32) (x4 : Int) (d5 : Option pV) (d6 : Option pV) (s : pS), K41 x1 x2 x3 x4 s = some q → X [some (vR (cc 6 0)), some (vI x1), some (vI x2), some (vF x3), some (vI x4), d5, d6] [] 41 (pW s)) (hK119 : ∀ (x1 : Int) (x2 : Int) (x3 : UInt32) (d4 : Option pV) (d5 : Option pV) (d6 : Option pV) (s : pS), K119 x1 x2 x3 s = some q → X [some (vR (cc 6 0)), some (vI x1), some (vI x2), some (vF x3), d4, d5, d6] [] 119 (pW s)) : ∀  (x1 : Int) (x3 : UInt32) (x4 : Int) (x5 : Int) (d2 : Option pV) (d6 : Option pV) (s : pS), f_X6_shares_87 K41 K119 x1 x3 x4 x5 s = some q → X [some (vR (cc 6 0)), some (vI x1), d2, some (vF x3), some (vI x4), some (vI x5), d6] [] 87 (pW s) := by
  intro x1 x3 x4 x5 d2 d6 s h
  unfold f_X6_shares_87 at h
  refine r_iconst hX (p2 := 88) rfl rfl rfl ?_
  refine r_goto hX (p2 := 92) rfl (by decide) ?_
  exact t_X6_shares_92 xs e q X hX _ _ hK41 hK119 x1 x3 x4 x5 1 d2 d6 s h
noncomputable def f_X6_shares_76 (K41 : Int → Int → UInt32 → Int → pS → Option (pS)) (K119 : Int → Int → UInt32 → pS → Option (pS)) (x1 : Int) (x2 : Int) (x3 : UInt32) (x4 : Int) (y0 : Int) (s : pS) : Option (pS) := (if x2 ≠ 0 then f_X6_shares_87 K41 K119 x1 x3 x4 y0 s else (if y0 = 0 then f_X6_shares_92 K41 K119 x1 x3 x4 y0 0 s else f_X6_shares_87 K41 K119 x1 x3 x4 y0 s))
set_option maxRecDepth 10000 in
theorem t_X6_shares_76 (xs : Nat → Int) (e : Nat) (q : pS) (X : List (Option pV) → List pV → Nat → pH → Prop) (hX : pm_clo 1001 xs (pCall pm_tx 1001 xs pm_P (e + 2)) (e + 2) mX6_shares (eU q) X) (K41 : Int → Int → UInt32 → Int → pS → Option (pS)) (K119 : Int → Int → UInt32 → pS → Option (pS)) (hK41 : ∀ (x1 : Int) (x2 : Int) (x3 : UInt32) (x4 : Int) (d5 : Option pV) (d6 : Option pV) (s : pS), K41 x1 x2 x3 x4 s = some q → X [some (vR (cc 6 0)), some (vI x1), some (vI x2), some (vF x3), some (vI x4), d5, d6] [] 41 (pW s)) (hK119 : ∀ (x1 : Int) (x2 : Int) (x3 : UInt32) (d4 : Option pV) (d5 : Option pV) (d6 : Option pV) (s : pS), K119 x1 x2 x3 s = some q → X [some (vR (cc 6 0)), some (vI x1), some (vI x2), some (vF x3), d4, d5, d6] [] 119 (pW s)) : ∀  (x1 : Int) (x2 : Int) (x3 : UInt32) (x4 : Int) (y0 : Int) (d5 : Option pV) (d6 : Option pV) (s : pS), f_X6_shares_76 K41 K119 x1 x2 x3 x4 y0 s = some q → X [some (vR (cc 6 0)), some (vI x1), some (vI x2), some (vF x3), some (vI x4), d5, d6] [vI y0] 76 (pW s) := by
  intro x1 x2 x3 x4 y0 d5 d6 s h
  unfold f_X6_shares_76 at h
  refine r_istore hX (p2 := 78) (ls2 := [some (vR (cc 6 0)), some (vI x1), some (vI x2), some (vF x3), some (vI x4), some (vI y0), d6]) rfl rfl rfl rfl ?_
  refine r_iload_n hX (p2 := 79) rfl rfl rfl ?_
  refine r_if hX (p2 := 87) (p3 := 82) (P := x2 ≠ 0) rfl (by decide) rfl rfl (fun p2 => ?_) (fun p2 => ?_)
  · have h := it_pos h p2
    exact t_X6_shares_87 xs e q X hX _ _ hK41 hK119 x1 x3 x4 y0 (some (vI x2)) d6 s h
  · have h := it_neg h p2
    refine r_iload hX (p2 := 84) rfl rfl rfl ?_
    refine r_if hX (p2 := 91) (p3 := 87) (P := y0 = 0) rfl (by decide) rfl rfl (fun p1 => ?_) (fun p1 => ?_)
    · have h := it_pos h p1
      refine r_iconst hX (p2 := 92) rfl rfl rfl ?_
      exact t_X6_shares_92 xs e q X hX _ _ hK41 hK119 x1 x3 x4 y0 0 (some (vI x2)) d6 s h
    · have h := it_neg h p1
      exact t_X6_shares_87 xs e q X hX _ _ hK41 hK119 x1 x3 x4 y0 (some (vI x2)) d6 s h
noncomputable def f_X6_shares_41 (K119 : Int → Int → UInt32 → pS → Option (pS)) : Nat → Int → Int → UInt32 → Int → pS → Option (pS)
  | 0, _, _, _, _, _ => none
  | n + 1, x1, x2, x3, x4, s => ck (0 ≤ x1 ∧ x1 < 2) ((if (sA s 633 0 x1.toNat) ≤ x4 then K119 x1 x2 x3 s else ck (0 ≤ x4 ∧ x4 < 12) (bs (wA s 644 0 (pm_up (sA s 644 0) x4.toNat 0)) (fun s3 => (f_X6_highOf x1 x4 s3).bind (fun q4 => (if q4.1 ≠ 4 then f_X6_shares_76 (f_X6_shares_41 K119 n) K119 x1 x2 x3 x4 0 q4.2 else f_X6_shares_76 (f_X6_shares_41 K119 n) K119 x1 x2 x3 x4 1 q4.2))))))
set_option maxRecDepth 10000 in
theorem t_X6_shares_41 (xs : Nat → Int) (e : Nat) (q : pS) (X : List (Option pV) → List pV → Nat → pH → Prop) (hX : pm_clo 1001 xs (pCall pm_tx 1001 xs pm_P (e + 2)) (e + 2) mX6_shares (eU q) X) (K119 : Int → Int → UInt32 → pS → Option (pS)) (hK119 : ∀ (x1 : Int) (x2 : Int) (x3 : UInt32) (d4 : Option pV) (d5 : Option pV) (d6 : Option pV) (s : pS), K119 x1 x2 x3 s = some q → X [some (vR (cc 6 0)), some (vI x1), some (vI x2), some (vF x3), d4, d5, d6] [] 119 (pW s)) : ∀ (n : Nat) (x1 : Int) (x2 : Int) (x3 : UInt32) (x4 : Int) (d5 : Option pV) (d6 : Option pV) (s : pS), f_X6_shares_41 K119 n x1 x2 x3 x4 s = some q → X [some (vR (cc 6 0)), some (vI x1), some (vI x2), some (vF x3), some (vI x4), d5, d6] [] 41 (pW s) := by
  intro n
  induction n with
  | zero =>
    intro x1 x2 x3 x4 d5 d6 s h
    rw [f_X6_shares_41] at h
    cases h
  | succ n ih =>
    intro x1 x2 x3 x4 d5 d6 s h
    rw [f_X6_shares_41] at h
    refine r_iload hX (p2 := 43) rfl rfl rfl ?_
    refine r_aload_n hX (p2 := 44) rfl rfl rfl ⟨_, Or.inl rfl⟩ ?_
    refine r_gf hX (p2 := 47) (v := vR (ca 633 0)) rfl rfl (hc6 0 (by decide)) rfl rfl rfl ?_
    refine r_iload_n hX (p2 := 48) rfl rfl rfl ?_
    obtain ⟨c1, h⟩ := ck_some h
    refine r_iaload hX (p2 := 49) (j := x1.toNat) rfl rfl (ha633 0 (by decide)) rfl rfl c1 rfl ?_
    refine r_icmp hX (p2 := 119) (p3 := 52) (P := (sA s 633 0 x1.toNat) ≤ x4) rfl (by decide) rfl rfl (fun p6 => ?_) (fun p6 => ?_)
    · have h := it_pos h p6
      exact hK119 x1 x2 x3 (some (vI x4)) d5 d6 s h
    · have h := it_neg h p6
      refine r_aload_n hX (p2 := 53) rfl rfl rfl ⟨_, Or.inl rfl⟩ ?_
      refine r_gf hX (p2 := 56) (v := vR (ca 644 0)) rfl rfl (hc6 0 (by decide)) rfl rfl rfl ?_
      refine r_iload hX (p2 := 58) rfl rfl rfl ?_
      refine r_iconst hX (p2 := 59) rfl rfl rfl ?_
      obtain ⟨c2, h⟩ := ck_some h
      obtain ⟨s3, hs3, h⟩ := bs_some h
      refine r_bastore hX (p2 := 60) (j := x4.toNat) rfl rfl (ha644 0 (by decide)) rfl rfl c2 rfl (Or.inl rfl) hs3 ?_
      refine r_aload_n hX (p2 := 61) rfl rfl rfl ⟨_, Or.inl rfl⟩ ?_
      refine r_iload_n hX (p2 := 62) rfl rfl rfl ?_
      refine r_iload hX (p2 := 64) rfl rfl rfl ?_
      obtain ⟨q4, hq4, h⟩ := bd_some h
      refine r_callv hX (p2 := 67) (v := some (vI q4.1)) (as := [vI x1, vI x4]) (r := []) (st2 := [vI q4.1]) rfl rfl rfl rfl rfl (hc6 0 (by decide)) rfl rfl (c_X6_highOf xs (e + 1) x1 x4 s3 q4 hq4) ?_
      refine r_iconst hX (p2 := 68) rfl rfl rfl ?_
      refine r_icmp hX (p2 := 75) (p3 := 71) (P := q4.1 ≠ 4) rfl (by decide) rfl rfl (fun p5 => ?_) (fun p5 => ?_)
      · have h := it_pos h p5
        refine r_iconst hX (p2 := 76) rfl rfl rfl ?_
        exact t_X6_shares_76 xs e q X hX _ _ ih hK119 x1 x2 x3 x4 0 d5 d6 q4.2 h
      · have h := it_neg h p5
        refine r_iconst hX (p2 := 72) rfl rfl rfl ?_
        refine r_goto hX (p2 := 76) rfl (by decide) ?_
        exact t_X6_shares_76 xs e q X hX _ _ ih hK119 x1 x2 x3 x4 1 d5 d6 q4.2 h
noncomputable def f_X6_shares_252 (K157 : Int → UInt32 → UInt32 → Int → Int → pS → Option (pS)) (K260 : Int → UInt32 → UInt32 → Int → pS → Option (pS)) (x1 : Int) (x3 : UInt32) (x4 : UInt32) (x6 : Int) (y0 : Int) (s : pS) : Option (pS) := ck (inR (x6 + 1)) (K157 x1 x3 x4 y0 (x6 + 1) s)
set_option maxRecDepth 10000 in
theorem t_X6_shares_252 (xs : Nat → Int) (e : Nat) (q : pS) (X : List (Option pV) → List pV → Nat → pH → Prop) (hX : pm_clo 1001 xs (pCall pm_tx 1001 xs pm_P (e + 2)) (e + 2) mX6_shares (eU q) X) (K157 : Int → UInt32 → UInt32 → Int → Int → pS → Option (pS)) (K260 : Int → UInt32 → UInt32 → Int → pS → Option (pS)) (hK157 : ∀ (x1 : Int) (x3 : UInt32) (x4 : UInt32) (x5 : Int) (x6 : Int) (d2 : Option pV) (hd2 : pm_nc d2) (s : pS), K157 x1 x3 x4 x5 x6 s = some q → X [some (vR (cc 6 0)), some (vI x1), d2, some (vF x3), some (vF x4), some (vI x5), some (vI x6)] [] 157 (pW s)) (hK260 : ∀ (x1 : Int) (x3 : UInt32) (x4 : UInt32) (x5 : Int) (d2 : Option pV) (d6 : Option pV) (hd2 : pm_nc d2) (s : pS), K260 x1 x3 x4 x5 s = some q → X [some (vR (cc 6 0)), some (vI x1), d2, some (vF x3), some (vF x4), some (vI x5), d6] [] 260 (pW s)) : ∀  (x1 : Int) (x3 : UInt32) (x4 : UInt32) (x6 : Int) (y0 : Int) (d2 : Option pV) (d5 : Option pV) (hd2 : pm_nc d2) (s : pS), f_X6_shares_252 K157 K260 x1 x3 x4 x6 y0 s = some q → X [some (vR (cc 6 0)), some (vI x1), d2, some (vF x3), some (vF x4), d5, some (vI x6)] [vI y0] 252 (pW s) := by
  intro x1 x3 x4 x6 y0 d2 d5 hd2 s h
  unfold f_X6_shares_252 at h
  refine r_istore hX (p2 := 254) (ls2 := [some (vR (cc 6 0)), some (vI x1), d2, some (vF x3), some (vF x4), some (vI y0), some (vI x6)]) rfl rfl rfl rfl ?_
  obtain ⟨c1, h⟩ := ck_some h
  refine r_iinc hX (p2 := 257) (ls2 := [some (vR (cc 6 0)), some (vI x1), d2, some (vF x3), some (vF x4), some (vI y0), some (vI (x6 + 1))]) rfl rfl rfl rfl c1 rfl ?_
  refine r_goto hX (p2 := 157) rfl (by decide) ?_
  exact hK157 x1 x3 x4 y0 (x6 + 1) d2 hd2 s h
noncomputable def f_X6_shares_247 (K157 : Int → UInt32 → UInt32 → Int → Int → pS → Option (pS)) (K260 : Int → UInt32 → UInt32 → Int → pS → Option (pS)) (x1 : Int) (x3 : UInt32) (x4 : UInt32) (x6 : Int) (s : pS) : Option (pS) := f_X6_shares_252 K157 K260 x1 x3 x4 x6 1 s
set_option maxRecDepth 10000 in
theorem t_X6_shares_247 (xs : Nat → Int) (e : Nat) (q : pS) (X : List (Option pV) → List pV → Nat → pH → Prop) (hX : pm_clo 1001 xs (pCall pm_tx 1001 xs pm_P (e + 2)) (e + 2) mX6_shares (eU q) X) (K157 : Int → UInt32 → UInt32 → Int → Int → pS → Option (pS)) (K260 : Int → UInt32 → UInt32 → Int → pS → Option (pS)) (hK157 : ∀ (x1 : Int) (x3 : UInt32) (x4 : UInt32) (x5 : Int) (x6 : Int) (d2 : Option pV) (hd2 : pm_nc d2) (s : pS), K157 x1 x3 x4 x5 x6 s = some q → X [some (vR (cc 6 0)), some (vI x1), d2, some (vF x3), some (vF x4), some (vI x5), some (vI x6)] [] 157 (pW s)) (hK260 : ∀ (x1 : Int) (x3 : UInt32) (x4 : UInt32) (x5 : Int) (d2 : Option pV) (d6 : Option pV) (hd2 : pm_nc d2) (s : pS), K260 x1 x3 x4 x5 s = some q → X [some (vR (cc 6 0)), some (vI x1), d2, some (vF x3), some (vF x4), some (vI x5), d6] [] 260 (pW s)) : ∀  (x1 : Int) (x3 : UInt32) (x4 : UInt32) (x6 : Int) (d2 : Option pV) (d5 : Option pV) (hd2 : pm_nc d2) (s : pS), f_X6_shares_247 K157 K260 x1 x3 x4 x6 s = some q → X [some (vR (cc 6 0)), some (vI x1), d2, some (vF x3), some (vF x4), d5, some (vI x6)] [] 247 (pW s) := by
  intro x1 x3 x4 x6 d2 d5 hd2 s h
  unfold f_X6_shares_247 at h
  refine r_iconst hX (p2 := 248) rfl rfl rfl ?_
  refine r_goto hX (p2 := 252) rfl (by decide) ?_
  exact t_X6_shares_252 xs e q X hX _ _ hK157 hK260 x1 x3 x4 x6 1 d2 d5 hd2 s h
noncomputable def f_X6_shares_231 (K157 : Int → UInt32 → UInt32 → Int → Int → pS → Option (pS)) (K260 : Int → UInt32 → UInt32 → Int → pS → Option (pS)) (x1 : Int) (x3 : UInt32) (x4 : UInt32) (x5 : Int) (x6 : Int) (y1 : Int) (y2 : Int) (s : pS) : Option (pS) := ck (0 ≤ y1 ∧ y1 < 12) (ck (y2 = 0 ∨ y2 = 1) (bs (wA s 643 0 (pm_up (sA s 643 0) y1.toNat y2)) (fun s3 => (if x5 ≠ 0 then f_X6_shares_247 K157 K260 x1 x3 x4 x6 s3 else ck (0 ≤ x6 ∧ x6 < 12) ((if (sA s3 643 0 x6.toNat) = 0 then f_X6_shares_252 K157 K260 x1 x3 x4 x6 0 s3 else f_X6_shares_247 K157 K260 x1 x3 x4 x6 s3))))))
set_option maxRecDepth 10000 in
theorem t_X6_shares_231 (xs : Nat → Int) (e : Nat) (q : pS) (X : List (Option pV) → List pV → Nat → pH → Prop) (hX : pm_clo 1001 xs (pCall pm_tx 1001 xs pm_P (e + 2)) (e + 2) mX6_shares (eU q) X) (K157 : Int → UInt32 → UInt32 → Int → Int → pS → Option (pS)) (K260 : Int → UInt32 → UInt32 → Int → pS → Option (pS)) (hK157 : ∀ (x1 : Int) (x3 : UInt32) (x4 : UInt32) (x5 : Int) (x6 : Int) (d2 : Option pV) (hd2 : pm_nc d2) (s : pS), K157 x1 x3 x4 x5 x6 s = some q → X [some (vR (cc 6 0)), some (vI x1), d2, some (vF x3), some (vF x4), some (vI x5), some (vI x6)] [] 157 (pW s)) (hK260 : ∀ (x1 : Int) (x3 : UInt32) (x4 : UInt32) (x5 : Int) (d2 : Option pV) (d6 : Option pV) (hd2 : pm_nc d2) (s : pS), K260 x1 x3 x4 x5 s = some q → X [some (vR (cc 6 0)), some (vI x1), d2, some (vF x3), some (vF x4), some (vI x5), d6] [] 260 (pW s)) : ∀  (x1 : Int) (x3 : UInt32) (x4 : UInt32) (x5 : Int) (x6 : Int) (y1 : Int) (y2 : Int) (d2 : Option pV) (hd2 : pm_nc d2) (s : pS), f_X6_shares_231 K157 K260 x1 x3 x4 x5 x6 y1 y2 s = some q → X [some (vR (cc 6 0)), some (vI x1), d2, some (vF x3), some (vF x4), some (vI x5), some (vI x6)] [vI y2, vI y1, vR (ca 643 0)] 231 (pW s) := by
  intro x1 x3 x4 x5 x6 y1 y2 d2 hd2 s h
  unfold f_X6_shares_231 at h
  obtain ⟨c1, h⟩ := ck_some h
  obtain ⟨c2, h⟩ := ck_some h
  obtain ⟨s3, hs3, h⟩ := bs_some h
  refine r_bastore hX (p2 := 232) (j := y1.toNat) rfl rfl (ha643 0 (by decide)) rfl rfl c1 rfl c2 hs3 ?_
  refine r_iload hX (p2 := 234) rfl rfl rfl ?_
  refine r_if hX (p2 := 247) (p3 := 237) (P := x5 ≠ 0) rfl (by decide) rfl rfl (fun p6 => ?_) (fun p6 => ?_)
  · have h := it_pos h p6
    exact t_X6_shares_247 xs e q X hX _ _ hK157 hK260 x1 x3 x4 x6 d2 (some (vI x5)) hd2 s3 h
  · have h := it_neg h p6
    refine r_aload_n hX (p2 := 238) rfl rfl rfl ⟨_, Or.inl rfl⟩ ?_
    refine r_gf hX (p2 := 241) (v := vR (ca 643 0)) rfl rfl (hc6 0 (by decide)) rfl rfl rfl ?_
    refine r_iload hX (p2 := 243) rfl rfl rfl ?_
    obtain ⟨c4, h⟩ := ck_some h
    refine r_baload hX (p2 := 244) (j := x6.toNat) rfl rfl (ha643 0 (by decide)) rfl rfl c4 rfl ?_
    refine r_if hX (p2 := 251) (p3 := 247) (P := (sA s3 643 0 x6.toNat) = 0) rfl (by decide) rfl rfl (fun p5 => ?_) (fun p5 => ?_)
    · have h := it_pos h p5
      refine r_iconst hX (p2 := 252) rfl rfl rfl ?_
      exact t_X6_shares_252 xs e q X hX _ _ hK157 hK260 x1 x3 x4 x6 0 d2 (some (vI x5)) hd2 s3 h
    · have h := it_neg h p5
      exact t_X6_shares_247 xs e q X hX _ _ hK157 hK260 x1 x3 x4 x6 d2 (some (vI x5)) hd2 s3 h
noncomputable def f_X6_shares_230 (K157 : Int → UInt32 → UInt32 → Int → Int → pS → Option (pS)) (K260 : Int → UInt32 → UInt32 → Int → pS → Option (pS)) (x1 : Int) (x3 : UInt32) (x4 : UInt32) (x5 : Int) (x6 : Int) (y1 : Int) (s : pS) : Option (pS) := f_X6_shares_231 K157 K260 x1 x3 x4 x5 x6 y1 0 s
set_option maxRecDepth 10000 in
theorem t_X6_shares_230 (xs : Nat → Int) (e : Nat) (q : pS) (X : List (Option pV) → List pV → Nat → pH → Prop) (hX : pm_clo 1001 xs (pCall pm_tx 1001 xs pm_P (e + 2)) (e + 2) mX6_shares (eU q) X) (K157 : Int → UInt32 → UInt32 → Int → Int → pS → Option (pS)) (K260 : Int → UInt32 → UInt32 → Int → pS → Option (pS)) (hK157 : ∀ (x1 : Int) (x3 : UInt32) (x4 : UInt32) (x5 : Int) (x6 : Int) (d2 : Option pV) (hd2 : pm_nc d2) (s : pS), K157 x1 x3 x4 x5 x6 s = some q → X [some (vR (cc 6 0)), some (vI x1), d2, some (vF x3), some (vF x4), some (vI x5), some (vI x6)] [] 157 (pW s)) (hK260 : ∀ (x1 : Int) (x3 : UInt32) (x4 : UInt32) (x5 : Int) (d2 : Option pV) (d6 : Option pV) (hd2 : pm_nc d2) (s : pS), K260 x1 x3 x4 x5 s = some q → X [some (vR (cc 6 0)), some (vI x1), d2, some (vF x3), some (vF x4), some (vI x5), d6] [] 260 (pW s)) : ∀  (x1 : Int) (x3 : UInt32) (x4 : UInt32) (x5 : Int) (x6 : Int) (y1 : Int) (d2 : Option pV) (hd2 : pm_nc d2) (s : pS), f_X6_shares_230 K157 K260 x1 x3 x4 x5 x6 y1 s = some q → X [some (vR (cc 6 0)), some (vI x1), d2, some (vF x3), some (vF x4), some (vI x5), some (vI x6)] [vI y1, vR (ca 643 0)] 230 (pW s) := by
  intro x1 x3 x4 x5 x6 y1 d2 hd2 s h
  unfold f_X6_shares_230 at h
  refine r_iconst hX (p2 := 231) rfl rfl rfl ?_
  exact t_X6_shares_231 xs e q X hX _ _ hK157 hK260 x1 x3 x4 x5 x6 y1 0 d2 hd2 s h
noncomputable def f_X6_shares_157 (K260 : Int → UInt32 → UInt32 → Int → pS → Option (pS)) : Nat → Int → UInt32 → UInt32 → Int → Int → pS → Option (pS)
  | 0, _, _, _, _, _, _ => none
  | n + 1, x1, x3, x4, x5, x6, s => ck (0 ≤ x1 ∧ x1 < 2) ((if (sA s 633 0 x1.toNat) ≤ x6 then K260 x1 x3 x4 x5 s else (f_X6_highOf x1 x6 s).bind (fun q2 => (if q2.1 ≠ 4 then f_X6_shares_230 (f_X6_shares_157 K260 n) K260 x1 x3 x4 x5 x6 x6 q2.2 else ck (0 ≤ x6 ∧ x6 < 12) ((if (sA q2.2 644 0 x6.toNat) ≠ 0 then f_X6_shares_230 (f_X6_shares_157 K260 n) K260 x1 x3 x4 x5 x6 x6 q2.2 else ck (inR (12 * x1)) (ck (inR ((12 * x1) + x6)) (ck (0 ≤ ((12 * x1) + x6) ∧ ((12 * x1) + x6) < 24) (ck (inR (12 * x1)) (ck (inR ((12 * x1) + x6)) (ck (0 ≤ ((12 * x1) + x6) ∧ ((12 * x1) + x6) < 48) (ck (vf_n32 (FP.fmul (sB q2.2 608 0 ((12 * x1) + x6).toNat) x4)) ((if (pm_fc .l (sB q2.2 634 0 ((12 * x1) + x6).toNat) (FP.fmul (sB q2.2 608 0 ((12 * x1) + x6).toNat) x4)) ≤ 0 then f_X6_shares_230 (f_X6_shares_157 K260 n) K260 x1 x3 x4 x5 x6 x6 q2.2 else f_X6_shares_231 (f_X6_shares_157 K260 n) K260 x1 x3 x4 x5 x6 x6 1 q2.2))))))))))))))
set_option maxRecDepth 10000 in
theorem t_X6_shares_157 (xs : Nat → Int) (e : Nat) (q : pS) (X : List (Option pV) → List pV → Nat → pH → Prop) (hX : pm_clo 1001 xs (pCall pm_tx 1001 xs pm_P (e + 2)) (e + 2) mX6_shares (eU q) X) (K260 : Int → UInt32 → UInt32 → Int → pS → Option (pS)) (hK260 : ∀ (x1 : Int) (x3 : UInt32) (x4 : UInt32) (x5 : Int) (d2 : Option pV) (d6 : Option pV) (hd2 : pm_nc d2) (s : pS), K260 x1 x3 x4 x5 s = some q → X [some (vR (cc 6 0)), some (vI x1), d2, some (vF x3), some (vF x4), some (vI x5), d6] [] 260 (pW s)) : ∀ (n : Nat) (x1 : Int) (x3 : UInt32) (x4 : UInt32) (x5 : Int) (x6 : Int) (d2 : Option pV) (hd2 : pm_nc d2) (s : pS), f_X6_shares_157 K260 n x1 x3 x4 x5 x6 s = some q → X [some (vR (cc 6 0)), some (vI x1), d2, some (vF x3), some (vF x4), some (vI x5), some (vI x6)] [] 157 (pW s) := by
  intro n
  induction n with
  | zero =>
    intro x1 x3 x4 x5 x6 d2 hd2 s h
    rw [f_X6_shares_157] at h
    cases h
  | succ n ih =>
    intro x1 x3 x4 x5 x6 d2 hd2 s h
    rw [f_X6_shares_157] at h
    refine r_iload hX (p2 := 159) rfl rfl rfl ?_
    refine r_aload_n hX (p2 := 160) rfl rfl rfl ⟨_, Or.inl rfl⟩ ?_
    refine r_gf hX (p2 := 163) (v := vR (ca 633 0)) rfl rfl (hc6 0 (by decide)) rfl rfl rfl ?_
    refine r_iload_n hX (p2 := 164) rfl rfl rfl ?_
    obtain ⟨c1, h⟩ := ck_some h
    refine r_iaload hX (p2 := 165) (j := x1.toNat) rfl rfl (ha633 0 (by decide)) rfl rfl c1 rfl ?_
    refine r_icmp hX (p2 := 260) (p3 := 168) (P := (sA s 633 0 x1.toNat) ≤ x6) rfl (by decide) rfl rfl (fun p14 => ?_) (fun p14 => ?_)
    · have h := it_pos h p14
      exact hK260 x1 x3 x4 x5 d2 (some (vI x6)) hd2 s h
    · have h := it_neg h p14
      refine r_aload_n hX (p2 := 169) rfl rfl rfl ⟨_, Or.inl rfl⟩ ?_
      refine r_gf hX (p2 := 172) (v := vR (ca 643 0)) rfl rfl (hc6 0 (by decide)) rfl rfl rfl ?_
      refine r_iload hX (p2 := 174) rfl rfl rfl ?_
      refine r_aload_n hX (p2 := 175) rfl rfl rfl ⟨_, Or.inl rfl⟩ ?_
      refine r_iload_n hX (p2 := 176) rfl rfl rfl ?_
      refine r_iload hX (p2 := 178) rfl rfl rfl ?_
      obtain ⟨q2, hq2, h⟩ := bd_some h
      refine r_callv hX (p2 := 181) (v := some (vI q2.1)) (as := [vI x1, vI x6]) (r := [vI x6, vR (ca 643 0)]) (st2 := [vI q2.1, vI x6, vR (ca 643 0)]) rfl rfl rfl rfl rfl (hc6 0 (by decide)) rfl rfl (c_X6_highOf xs (e + 1) x1 x6 s q2 hq2) ?_
      refine r_iconst hX (p2 := 182) rfl rfl rfl ?_
      refine r_icmp hX (p2 := 230) (p3 := 185) (P := q2.1 ≠ 4) rfl (by decide) rfl rfl (fun p13 => ?_) (fun p13 => ?_)
      · have h := it_pos h p13
        exact t_X6_shares_230 xs e q X hX _ _ ih hK260 x1 x3 x4 x5 x6 x6 d2 hd2 q2.2 h
      · have h := it_neg h p13
        refine r_aload_n hX (p2 := 186) rfl rfl rfl ⟨_, Or.inl rfl⟩ ?_
        refine r_gf hX (p2 := 189) (v := vR (ca 644 0)) rfl rfl (hc6 0 (by decide)) rfl rfl rfl ?_
        refine r_iload hX (p2 := 191) rfl rfl rfl ?_
        obtain ⟨c3, h⟩ := ck_some h
        refine r_baload hX (p2 := 192) (j := x6.toNat) rfl rfl (ha644 0 (by decide)) rfl rfl c3 rfl ?_
        refine r_if hX (p2 := 230) (p3 := 195) (P := (sA q2.2 644 0 x6.toNat) ≠ 0) rfl (by decide) rfl rfl (fun p12 => ?_) (fun p12 => ?_)
        · have h := it_pos h p12
          exact t_X6_shares_230 xs e q X hX _ _ ih hK260 x1 x3 x4 x5 x6 x6 d2 hd2 q2.2 h
        · have h := it_neg h p12
          refine r_aload_n hX (p2 := 196) rfl rfl rfl ⟨_, Or.inl rfl⟩ ?_
          refine r_gf hX (p2 := 199) (v := vR (ca 634 0)) rfl rfl (hc6 0 (by decide)) rfl rfl rfl ?_
          refine r_bipush hX (p2 := 201) rfl rfl rfl ?_
          refine r_iload_n hX (p2 := 202) rfl rfl rfl ?_
          obtain ⟨c4, h⟩ := ck_some h
          refine r_imul hX (p2 := 203) rfl rfl c4 ?_
          refine r_iload hX (p2 := 205) rfl rfl rfl ?_
          obtain ⟨c5, h⟩ := ck_some h
          refine r_iadd hX (p2 := 206) rfl rfl c5 ?_
          obtain ⟨c6, h⟩ := ck_some h
          refine r_faload hX (p2 := 207) (j := ((12 * x1) + x6).toNat) rfl rfl (ha634 0 (by decide)) rfl rfl c6 rfl ?_
          refine r_aload_n hX (p2 := 208) rfl rfl rfl ⟨_, Or.inl rfl⟩ ?_
          refine r_gf hX (p2 := 211) (v := vR (ca 608 0)) rfl rfl (hc6 0 (by decide)) rfl rfl rfl ?_
          refine r_bipush hX (p2 := 213) rfl rfl rfl ?_
          refine r_iload_n hX (p2 := 214) rfl rfl rfl ?_
          obtain ⟨c7, h⟩ := ck_some h
          refine r_imul hX (p2 := 215) rfl rfl c7 ?_
          refine r_iload hX (p2 := 217) rfl rfl rfl ?_
          obtain ⟨c8, h⟩ := ck_some h
          refine r_iadd hX (p2 := 218) rfl rfl c8 ?_
          obtain ⟨c9, h⟩ := ck_some h
          refine r_faload hX (p2 := 219) (j := ((12 * x1) + x6).toNat) rfl rfl (ha608 0 (by decide)) rfl rfl c9 rfl ?_
          refine r_fload hX (p2 := 221) rfl rfl rfl ?_
          obtain ⟨c10, h⟩ := ck_some h
          refine r_fmul hX (p2 := 222) rfl rfl c10 ?_
          refine r_fcmp hX (p2 := 223) rfl rfl ?_
          refine r_if hX (p2 := 230) (p3 := 226) (P := (pm_fc .l (sB q2.2 634 0 ((12 * x1) + x6).toNat) (FP.fmul (sB q2.2 608 0 ((12 * x1) + x6).toNat) x4)) ≤ 0) rfl (by decide) rfl rfl (fun p11 => ?_) (fun p11 => ?_)
          · have h := it_pos h p11
            exact t_X6_shares_230 xs e q X hX _ _ ih hK260 x1 x3 x4 x5 x6 x6 d2 hd2 q2.2 h
          · have h := it_neg h p11
            refine r_iconst hX (p2 := 227) rfl rfl rfl ?_
            refine r_goto hX (p2 := 231) rfl (by decide) ?_
            exact t_X6_shares_231 xs e q X hX _ _ ih hK260 x1 x3 x4 x5 x6 x6 1 d2 hd2 q2.2 h
noncomputable def f_X6_shares_307 (K263 : Int → UInt32 → UInt32 → Int → Int → pS → Option (pS)) (K313 : Int → UInt32 → UInt32 → Int → pS → Option (pS)) (x1 : Int) (x3 : UInt32) (x4 : UInt32) (x5 : Int) (x6 : Int) (s : pS) : Option (pS) := ck (inR (x6 + 1)) (K263 x1 x3 x4 x5 (x6 + 1) s)
set_option maxRecDepth 10000 in
theorem t_X6_shares_307 (xs : Nat → Int) (e : Nat) (q : pS) (X : List (Option pV) → List pV → Nat → pH → Prop) (hX : pm_clo 1001 xs (pCall pm_tx 1001 xs pm_P (e + 2)) (e + 2) mX6_shares (eU q) X) (K263 : Int → UInt32 → UInt32 → Int → Int → pS → Option (pS)) (K313 : Int → UInt32 → UInt32 → Int → pS → Option (pS)) (hK263 : ∀ (x1 : Int) (x3 : UInt32) (x4 : UInt32) (x5 : Int) (x6 : Int) (d2 : Option pV) (hd2 : pm_nc d2) (s : pS), K263 x1 x3 x4 x5 x6 s = some q → X [some (vR (cc 6 0)), some (vI x1), d2, some (vF x3), some (vF x4), some (vI x5), some (vI x6)] [] 263 (pW s)) (hK313 : ∀ (x1 : Int) (x3 : UInt32) (x4 : UInt32) (x5 : Int) (d2 : Option pV) (d6 : Option pV) (hd2 : pm_nc d2) (s : pS), K313 x1 x3 x4 x5 s = some q → X [some (vR (cc 6 0)), some (vI x1), d2, some (vF x3), some (vF x4), some (vI x5), d6] [] 313 (pW s)) : ∀  (x1 : Int) (x3 : UInt32) (x4 : UInt32) (x5 : Int) (x6 : Int) (d2 : Option pV) (hd2 : pm_nc d2) (s : pS), f_X6_shares_307 K263 K313 x1 x3 x4 x5 x6 s = some q → X [some (vR (cc 6 0)), some (vI x1), d2, some (vF x3), some (vF x4), some (vI x5), some (vI x6)] [] 307 (pW s) := by
  intro x1 x3 x4 x5 x6 d2 hd2 s h
  unfold f_X6_shares_307 at h
  obtain ⟨c1, h⟩ := ck_some h
  refine r_iinc hX (p2 := 310) (ls2 := [some (vR (cc 6 0)), some (vI x1), d2, some (vF x3), some (vF x4), some (vI x5), some (vI (x6 + 1))]) rfl rfl rfl rfl c1 rfl ?_
  refine r_goto hX (p2 := 263) rfl (by decide) ?_
  exact hK263 x1 x3 x4 x5 (x6 + 1) d2 hd2 s h
noncomputable def f_X6_shares_263 (K313 : Int → UInt32 → UInt32 → Int → pS → Option (pS)) : Nat → Int → UInt32 → UInt32 → Int → Int → pS → Option (pS)
  | 0, _, _, _, _, _, _ => none
  | n + 1, x1, x3, x4, x5, x6, s => ck (0 ≤ x1 ∧ x1 < 2) ((if (sA s 633 0 x1.toNat) ≤ x6 then K313 x1 x3 x4 x5 s else ck (0 ≤ x6 ∧ x6 < 12) ((if (sA s 643 0 x6.toNat) = 0 then f_X6_shares_307 (f_X6_shares_263 K313 n) K313 x1 x3 x4 x5 x6 s else ck (0 ≤ x6 ∧ x6 < 12) (bs (wA s 644 0 (pm_up (sA s 644 0) x6.toNat 1)) (fun s4 => ck (inR (12 * x1)) (ck (inR ((12 * x1) + x6)) (ck (0 ≤ ((12 * x1) + x6) ∧ ((12 * x1) + x6) < 24) (ck (vf_n32 (FP.fsub x3 (sB s4 634 0 ((12 * x1) + x6).toNat))) (bs ((FP.fsub x3 (sB s4 634 0 ((12 * x1) + x6).toNat))) (fun v9 => f_X6_shares_307 (f_X6_shares_263 K313 n) K313 x1 v9 x4 x5 x6 s4)))))))))))
set_option maxRecDepth 10000 in
theorem t_X6_shares_263 (xs : Nat → Int) (e : Nat) (q : pS) (X : List (Option pV) → List pV → Nat → pH → Prop) (hX : pm_clo 1001 xs (pCall pm_tx 1001 xs pm_P (e + 2)) (e + 2) mX6_shares (eU q) X) (K313 : Int → UInt32 → UInt32 → Int → pS → Option (pS)) (hK313 : ∀ (x1 : Int) (x3 : UInt32) (x4 : UInt32) (x5 : Int) (d2 : Option pV) (d6 : Option pV) (hd2 : pm_nc d2) (s : pS), K313 x1 x3 x4 x5 s = some q → X [some (vR (cc 6 0)), some (vI x1), d2, some (vF x3), some (vF x4), some (vI x5), d6] [] 313 (pW s)) : ∀ (n : Nat) (x1 : Int) (x3 : UInt32) (x4 : UInt32) (x5 : Int) (x6 : Int) (d2 : Option pV) (hd2 : pm_nc d2) (s : pS), f_X6_shares_263 K313 n x1 x3 x4 x5 x6 s = some q → X [some (vR (cc 6 0)), some (vI x1), d2, some (vF x3), some (vF x4), some (vI x5), some (vI x6)] [] 263 (pW s) := by
  intro n
  induction n with
  | zero =>
    intro x1 x3 x4 x5 x6 d2 hd2 s h
    rw [f_X6_shares_263] at h
    cases h
  | succ n ih =>
    intro x1 x3 x4 x5 x6 d2 hd2 s h
    rw [f_X6_shares_263] at h
    refine r_iload hX (p2 := 265) rfl rfl rfl ?_
    refine r_aload_n hX (p2 := 266) rfl rfl rfl ⟨_, Or.inl rfl⟩ ?_
    refine r_gf hX (p2 := 269) (v := vR (ca 633 0)) rfl rfl (hc6 0 (by decide)) rfl rfl rfl ?_
    refine r_iload_n hX (p2 := 270) rfl rfl rfl ?_
    obtain ⟨c1, h⟩ := ck_some h
    refine r_iaload hX (p2 := 271) (j := x1.toNat) rfl rfl (ha633 0 (by decide)) rfl rfl c1 rfl ?_
    refine r_icmp hX (p2 := 313) (p3 := 274) (P := (sA s 633 0 x1.toNat) ≤ x6) rfl (by decide) rfl rfl (fun p11 => ?_) (fun p11 => ?_)
    · have h := it_pos h p11
      exact hK313 x1 x3 x4 x5 d2 (some (vI x6)) hd2 s h
    · have h := it_neg h p11
      refine r_aload_n hX (p2 := 275) rfl rfl rfl ⟨_, Or.inl rfl⟩ ?_
      refine r_gf hX (p2 := 278) (v := vR (ca 643 0)) rfl rfl (hc6 0 (by decide)) rfl rfl rfl ?_
      refine r_iload hX (p2 := 280) rfl rfl rfl ?_
      obtain ⟨c2, h⟩ := ck_some h
      refine r_baload hX (p2 := 281) (j := x6.toNat) rfl rfl (ha643 0 (by decide)) rfl rfl c2 rfl ?_
      refine r_if hX (p2 := 307) (p3 := 284) (P := (sA s 643 0 x6.toNat) = 0) rfl (by decide) rfl rfl (fun p10 => ?_) (fun p10 => ?_)
      · have h := it_pos h p10
        exact t_X6_shares_307 xs e q X hX _ _ ih hK313 x1 x3 x4 x5 x6 d2 hd2 s h
      · have h := it_neg h p10
        refine r_aload_n hX (p2 := 285) rfl rfl rfl ⟨_, Or.inl rfl⟩ ?_
        refine r_gf hX (p2 := 288) (v := vR (ca 644 0)) rfl rfl (hc6 0 (by decide)) rfl rfl rfl ?_
        refine r_iload hX (p2 := 290) rfl rfl rfl ?_
        refine r_iconst hX (p2 := 291) rfl rfl rfl ?_
        obtain ⟨c3, h⟩ := ck_some h
        obtain ⟨s4, hs4, h⟩ := bs_some h
        refine r_bastore hX (p2 := 292) (j := x6.toNat) rfl rfl (ha644 0 (by decide)) rfl rfl c3 rfl (Or.inr rfl) hs4 ?_
        refine r_fload_n hX (p2 := 293) rfl rfl rfl ?_
        refine r_aload_n hX (p2 := 294) rfl rfl rfl ⟨_, Or.inl rfl⟩ ?_
        refine r_gf hX (p2 := 297) (v := vR (ca 634 0)) rfl rfl (hc6 0 (by decide)) rfl rfl rfl ?_
        refine r_bipush hX (p2 := 299) rfl rfl rfl ?_
        refine r_iload_n hX (p2 := 300) rfl rfl rfl ?_
        obtain ⟨c5, h⟩ := ck_some h
        refine r_imul hX (p2 := 301) rfl rfl c5 ?_
        refine r_iload hX (p2 := 303) rfl rfl rfl ?_
        obtain ⟨c6, h⟩ := ck_some h
        refine r_iadd hX (p2 := 304) rfl rfl c6 ?_
        obtain ⟨c7, h⟩ := ck_some h
        refine r_faload hX (p2 := 305) (j := ((12 * x1) + x6).toNat) rfl rfl (ha634 0 (by decide)) rfl rfl c7 rfl ?_
        obtain ⟨c8, h⟩ := ck_some h
        refine r_fsub hX (p2 := 306) rfl rfl c8 ?_
        obtain ⟨v9, hv9, h⟩ := bs_some h
        refine r_fstoreE_n hX (p2 := 307) (ls2 := [some (vR (cc 6 0)), some (vI x1), d2, some (vF v9), some (vF x4), some (vI x5), some (vI x6)]) rfl rfl hv9 rfl (st1_nc rfl hd2 rfl) ?_
        exact t_X6_shares_307 xs e q X hX _ _ ih hK313 x1 v9 x4 x5 x6 d2 hd2 s4 h
noncomputable def f_X6_shares_335 (K146 : Int → UInt32 → UInt32 → Int → pS → Option (pS)) (K340 : Int → UInt32 → pS → Option (pS)) (x1 : Int) (x3 : UInt32) (x5 : Int) (y0 : UInt32) (s : pS) : Option (pS) := K146 x1 x3 y0 x5 s
set_option maxRecDepth 10000 in
theorem t_X6_shares_335 (xs : Nat → Int) (e : Nat) (q : pS) (X : List (Option pV) → List pV → Nat → pH → Prop) (hX : pm_clo 1001 xs (pCall pm_tx 1001 xs pm_P (e + 2)) (e + 2) mX6_shares (eU q) X) (K146 : Int → UInt32 → UInt32 → Int → pS → Option (pS)) (K340 : Int → UInt32 → pS → Option (pS)) (hK146 : ∀ (x1 : Int) (x3 : UInt32) (x4 : UInt32) (x5 : Int) (d2 : Option pV) (d6 : Option pV) (hd2 : pm_nc d2) (s : pS), K146 x1 x3 x4 x5 s = some q → X [some (vR (cc 6 0)), some (vI x1), d2, some (vF x3), some (vF x4), some (vI x5), d6] [] 146 (pW s)) (hK340 : ∀ (x1 : Int) (x4 : UInt32) (d2 : Option pV) (d3 : Option pV) (d5 : Option pV) (d6 : Option pV) (hd5 : pm_nc d5) (s : pS), K340 x1 x4 s = some q → X [some (vR (cc 6 0)), some (vI x1), d2, d3, some (vF x4), d5, d6] [] 340 (pW s)) : ∀  (x1 : Int) (x3 : UInt32) (x5 : Int) (y0 : UInt32) (d2 : Option pV) (d4 : Option pV) (d6 : Option pV) (hd2 : pm_nc d2) (s : pS), f_X6_shares_335 K146 K340 x1 x3 x5 y0 s = some q → X [some (vR (cc 6 0)), some (vI x1), d2, some (vF x3), d4, some (vI x5), d6] [vF y0] 335 (pW s) := by
  intro x1 x3 x5 y0 d2 d4 d6 hd2 s h
  unfold f_X6_shares_335 at h
  refine r_fstore hX (p2 := 337) (ls2 := [some (vR (cc 6 0)), some (vI x1), d2, some (vF x3), some (vF y0), some (vI x5), d6]) rfl rfl rfl rfl ?_
  refine r_goto hX (p2 := 146) rfl (by decide) ?_
  exact hK146 x1 x3 y0 x5 d2 d6 hd2 s h
noncomputable def f_X6_shares_146 (K340 : Int → UInt32 → pS → Option (pS)) : Nat → Int → UInt32 → UInt32 → Int → pS → Option (pS)
  | 0, _, _, _, _, _ => none
  | n + 1, x1, x3, x4, x5, s => (if x5 = 0 then K340 x1 x4 s else f_X6_shares_157 (fun x1 x3 x4 x5 s1 => f_X6_shares_263 (fun x1 x3 x4 x5 s2 => (if x5 = 0 then f_X6_shares_146 K340 n x1 x3 x4 x5 s2 else (if (pm_fc .l x3 FP.fconst0) ≤ 0 then f_X6_shares_335 (f_X6_shares_146 K340 n) K340 x1 x3 x5 FP.fconst0 s2 else (f_X6_together x1 s2).bind (fun q3 => ck (vf_n32 (FP.fdiv x3 q3.1)) (f_X6_shares_335 (f_X6_shares_146 K340 n) K340 x1 x3 x5 (FP.fdiv x3 q3.1) q3.2))))) 400 x1 x3 x4 x5 0 s1) 400 x1 x3 x4 0 0 s)
set_option maxRecDepth 10000 in
theorem t_X6_shares_146 (xs : Nat → Int) (e : Nat) (q : pS) (X : List (Option pV) → List pV → Nat → pH → Prop) (hX : pm_clo 1001 xs (pCall pm_tx 1001 xs pm_P (e + 2)) (e + 2) mX6_shares (eU q) X) (K340 : Int → UInt32 → pS → Option (pS)) (hK340 : ∀ (x1 : Int) (x4 : UInt32) (d2 : Option pV) (d3 : Option pV) (d5 : Option pV) (d6 : Option pV) (hd5 : pm_nc d5) (s : pS), K340 x1 x4 s = some q → X [some (vR (cc 6 0)), some (vI x1), d2, d3, some (vF x4), d5, d6] [] 340 (pW s)) : ∀ (n : Nat) (x1 : Int) (x3 : UInt32) (x4 : UInt32) (x5 : Int) (d2 : Option pV) (d6 : Option pV) (hd2 : pm_nc d2) (s : pS), f_X6_shares_146 K340 n x1 x3 x4 x5 s = some q → X [some (vR (cc 6 0)), some (vI x1), d2, some (vF x3), some (vF x4), some (vI x5), d6] [] 146 (pW s) := by
  intro n
  induction n with
  | zero =>
    intro x1 x3 x4 x5 d2 d6 hd2 s h
    rw [f_X6_shares_146] at h
    cases h
  | succ n ih =>
    intro x1 x3 x4 x5 d2 d6 hd2 s h
    rw [f_X6_shares_146] at h
    refine r_iload hX (p2 := 148) rfl rfl rfl ?_
    refine r_if hX (p2 := 340) (p3 := 151) (P := x5 = 0) rfl (by decide) rfl rfl (fun p7 => ?_) (fun p7 => ?_)
    · have h := it_pos h p7
      exact hK340 x1 x4 d2 (some (vF x3)) (some (vI x5)) d6 rfl s h
    · have h := it_neg h p7
      refine r_iconst hX (p2 := 152) rfl rfl rfl ?_
      refine r_istore hX (p2 := 154) (ls2 := [some (vR (cc 6 0)), some (vI x1), d2, some (vF x3), some (vF x4), some (vI 0), d6]) rfl rfl rfl rfl ?_
      refine r_iconst hX (p2 := 155) rfl rfl rfl ?_
      refine r_istore hX (p2 := 157) (ls2 := [some (vR (cc 6 0)), some (vI x1), d2, some (vF x3), some (vF x4), some (vI 0), some (vI 0)]) rfl rfl rfl rfl ?_
      refine t_X6_shares_157 xs e q X hX _ (fun x1 x3 x4 x5 d2 d6 hd2 s1 h => ?_) 400 x1 x3 x4 0 0 d2 hd2 s h
      refine r_iconst hX (p2 := 261) rfl rfl rfl ?_
      refine r_istore hX (p2 := 263) (ls2 := [some (vR (cc 6 0)), some (vI x1), d2, some (vF x3), some (vF x4), some (vI x5), some (vI 0)]) rfl rfl rfl rfl ?_
      refine t_X6_shares_263 xs e q X hX _ (fun x1 x3 x4 x5 d2 d6 hd2 s2 h => ?_) 400 x1 x3 x4 x5 0 d2 hd2 s1 h
      refine r_iload hX (p2 := 315) rfl rfl rfl ?_
      refine r_if hX (p2 := 146) (p3 := 318) (P := x5 = 0) rfl (by decide) rfl rfl (fun p6 => ?_) (fun p6 => ?_)
      · have h := it_pos h p6
        exact ih x1 x3 x4 x5 d2 d6 hd2 s2 h
      · have h := it_neg h p6
        refine r_fload_n hX (p2 := 319) rfl rfl rfl ?_
        refine r_fconst0 hX (p2 := 320) rfl rfl ?_
        refine r_fcmp hX (p2 := 321) rfl rfl ?_
        refine r_if hX (p2 := 334) (p3 := 324) (P := (pm_fc .l x3 FP.fconst0) ≤ 0) rfl (by decide) rfl rfl (fun p5 => ?_) (fun p5 => ?_)
        · have h := it_pos h p5
          refine r_fconst0 hX (p2 := 335) rfl rfl ?_
          exact t_X6_shares_335 xs e q X hX _ _ ih hK340 x1 x3 x5 FP.fconst0 d2 (some (vF x4)) d6 hd2 s2 h
        · have h := it_neg h p5
          refine r_fload_n hX (p2 := 325) rfl rfl rfl ?_
          refine r_aload_n hX (p2 := 326) rfl rfl rfl ⟨_, Or.inl rfl⟩ ?_
          refine r_iload_n hX (p2 := 327) rfl rfl rfl ?_
          obtain ⟨q3, hq3, h⟩ := bd_some h
          refine r_callv hX (p2 := 330) (v := some (vF q3.1)) (as := [vI x1]) (r := [vF x3]) (st2 := [vF q3.1, vF x3]) rfl rfl rfl rfl rfl (hc6 0 (by decide)) rfl rfl (c_X6_together xs e x1 s2 q3 hq3) ?_
          obtain ⟨c4, h⟩ := ck_some h
          refine r_fdiv hX (p2 := 331) rfl rfl c4 ?_
          refine r_goto hX (p2 := 335) rfl (by decide) ?_
          exact t_X6_shares_335 xs e q X hX _ _ ih hK340 x1 x3 x5 (FP.fdiv x3 q3.1) d2 (some (vF x4)) d6 hd2 q3.2 h
noncomputable def f_X6_shares_402 (K343 : Int → UInt32 → Int → pS → Option (pS)) (K408 : pS → Option (pS)) (x1 : Int) (x4 : UInt32) (x6 : Int) (s : pS) : Option (pS) := ck (inR (x6 + 1)) (K343 x1 x4 (x6 + 1) s)
set_option maxRecDepth 10000 in
theorem t_X6_shares_402 (xs : Nat → Int) (e : Nat) (q : pS) (X : List (Option pV) → List pV → Nat → pH → Prop) (hX : pm_clo 1001 xs (pCall pm_tx 1001 xs pm_P (e + 2)) (e + 2) mX6_shares (eU q) X) (K343 : Int → UInt32 → Int → pS → Option (pS)) (K408 : pS → Option (pS)) (hK343 : ∀ (x1 : Int) (x4 : UInt32) (x6 : Int) (d2 : Option pV) (d3 : Option pV) (d5 : Option pV) (hd5 : pm_nc d5) (s : pS), K343 x1 x4 x6 s = some q → X [some (vR (cc 6 0)), some (vI x1), d2, d3, some (vF x4), d5, some (vI x6)] [] 343 (pW s)) (hK408 : ∀ (d0 : Option pV) (d1 : Option pV) (d2 : Option pV) (d3 : Option pV) (d4 : Option pV) (d5 : Option pV) (d6 : Option pV) (s : pS), K408 s = some q → X [d0, d1, d2, d3, d4, d5, d6] [] 408 (pW s)) : ∀  (x1 : Int) (x4 : UInt32) (x6 : Int) (d2 : Option pV) (d3 : Option pV) (d5 : Option pV) (hd5 : pm_nc d5) (s : pS), f_X6_shares_402 K343 K408 x1 x4 x6 s = some q → X [some (vR (cc 6 0)), some (vI x1), d2, d3, some (vF x4), d5, some (vI x6)] [] 402 (pW s) := by
  intro x1 x4 x6 d2 d3 d5 hd5 s h
  unfold f_X6_shares_402 at h
  obtain ⟨c1, h⟩ := ck_some h
  refine r_iinc hX (p2 := 405) (ls2 := [some (vR (cc 6 0)), some (vI x1), d2, d3, some (vF x4), d5, some (vI (x6 + 1))]) rfl rfl rfl rfl c1 (st1_nc rfl hd5 rfl) ?_
  refine r_goto hX (p2 := 343) rfl (by decide) ?_
  exact hK343 x1 x4 (x6 + 1) d2 d3 d5 hd5 s h
noncomputable def f_X6_shares_343 (K408 : pS → Option (pS)) : Nat → Int → UInt32 → Int → pS → Option (pS)
  | 0, _, _, _, _ => none
  | n + 1, x1, x4, x6, s => ck (0 ≤ x1 ∧ x1 < 2) ((if (sA s 633 0 x1.toNat) ≤ x6 then K408 s else (f_X6_highOf x1 x6 s).bind (fun q2 => (if q2.1 ≠ 4 then f_X6_shares_402 (f_X6_shares_343 K408 n) K408 x1 x4 x6 q2.2 else ck (0 ≤ x6 ∧ x6 < 12) ((if (sA q2.2 644 0 x6.toNat) ≠ 0 then f_X6_shares_402 (f_X6_shares_343 K408 n) K408 x1 x4 x6 q2.2 else ck (inR (12 * x1)) (ck (inR ((12 * x1) + x6)) (ck (inR (12 * x1)) (ck (inR ((12 * x1) + x6)) (ck (0 ≤ ((12 * x1) + x6) ∧ ((12 * x1) + x6) < 48) (ck (vf_n32 (FP.fmul (sB q2.2 608 0 ((12 * x1) + x6).toNat) x4)) (ck (0 ≤ ((12 * x1) + x6) ∧ ((12 * x1) + x6) < 24) (bs (wB q2.2 634 0 (pm_up (sB q2.2 634 0) ((12 * x1) + x6).toNat (FP.fmul (sB q2.2 608 0 ((12 * x1) + x6).toNat) x4))) (fun s11 => f_X6_shares_402 (f_X6_shares_343 K408 n) K408 x1 x4 x6 s11))))))))))))))
set_option maxRecDepth 10000 in
theorem t_X6_shares_343 (xs : Nat → Int) (e : Nat) (q : pS) (X : List (Option pV) → List pV → Nat → pH → Prop) (hX : pm_clo 1001 xs (pCall pm_tx 1001 xs pm_P (e + 2)) (e + 2) mX6_shares (eU q) X) (K408 : pS → Option (pS)) (hK408 : ∀ (d0 : Option pV) (d1 : Option pV) (d2 : Option pV) (d3 : Option pV) (d4 : Option pV) (d5 : Option pV) (d6 : Option pV) (s : pS), K408 s = some q → X [d0, d1, d2, d3, d4, d5, d6] [] 408 (pW s)) : ∀ (n : Nat) (x1 : Int) (x4 : UInt32) (x6 : Int) (d2 : Option pV) (d3 : Option pV) (d5 : Option pV) (hd5 : pm_nc d5) (s : pS), f_X6_shares_343 K408 n x1 x4 x6 s = some q → X [some (vR (cc 6 0)), some (vI x1), d2, d3, some (vF x4), d5, some (vI x6)] [] 343 (pW s) := by
  intro n
  induction n with
  | zero =>
    intro x1 x4 x6 d2 d3 d5 hd5 s h
    rw [f_X6_shares_343] at h
    cases h
  | succ n ih =>
    intro x1 x4 x6 d2 d3 d5 hd5 s h
    rw [f_X6_shares_343] at h
    refine r_iload hX (p2 := 345) rfl rfl rfl ?_
    refine r_aload_n hX (p2 := 346) rfl rfl rfl ⟨_, Or.inl rfl⟩ ?_
    refine r_gf hX (p2 := 349) (v := vR (ca 633 0)) rfl rfl (hc6 0 (by decide)) rfl rfl rfl ?_
    refine r_iload_n hX (p2 := 350) rfl rfl rfl ?_
    obtain ⟨c1, h⟩ := ck_some h
    refine r_iaload hX (p2 := 351) (j := x1.toNat) rfl rfl (ha633 0 (by decide)) rfl rfl c1 rfl ?_
    refine r_icmp hX (p2 := 408) (p3 := 354) (P := (sA s 633 0 x1.toNat) ≤ x6) rfl (by decide) rfl rfl (fun p14 => ?_) (fun p14 => ?_)
    · have h := it_pos h p14
      exact hK408 (some (vR (cc 6 0))) (some (vI x1)) d2 d3 (some (vF x4)) d5 (some (vI x6)) s h
    · have h := it_neg h p14
      refine r_aload_n hX (p2 := 355) rfl rfl rfl ⟨_, Or.inl rfl⟩ ?_
      refine r_iload_n hX (p2 := 356) rfl rfl rfl ?_
      refine r_iload hX (p2 := 358) rfl rfl rfl ?_
      obtain ⟨q2, hq2, h⟩ := bd_some h
      refine r_callv hX (p2 := 361) (v := some (vI q2.1)) (as := [vI x1, vI x6]) (r := []) (st2 := [vI q2.1]) rfl rfl rfl rfl rfl (hc6 0 (by decide)) rfl rfl (c_X6_highOf xs (e + 1) x1 x6 s q2 hq2) ?_
      refine r_iconst hX (p2 := 362) rfl rfl rfl ?_
      refine r_icmp hX (p2 := 402) (p3 := 365) (P := q2.1 ≠ 4) rfl (by decide) rfl rfl (fun p13 => ?_) (fun p13 => ?_)
      · have h := it_pos h p13
        exact t_X6_shares_402 xs e q X hX _ _ ih hK408 x1 x4 x6 d2 d3 d5 hd5 q2.2 h
      · have h := it_neg h p13
        refine r_aload_n hX (p2 := 366) rfl rfl rfl ⟨_, Or.inl rfl⟩ ?_
        refine r_gf hX (p2 := 369) (v := vR (ca 644 0)) rfl rfl (hc6 0 (by decide)) rfl rfl rfl ?_
        refine r_iload hX (p2 := 371) rfl rfl rfl ?_
        obtain ⟨c3, h⟩ := ck_some h
        refine r_baload hX (p2 := 372) (j := x6.toNat) rfl rfl (ha644 0 (by decide)) rfl rfl c3 rfl ?_
        refine r_if hX (p2 := 402) (p3 := 375) (P := (sA q2.2 644 0 x6.toNat) ≠ 0) rfl (by decide) rfl rfl (fun p12 => ?_) (fun p12 => ?_)
        · have h := it_pos h p12
          exact t_X6_shares_402 xs e q X hX _ _ ih hK408 x1 x4 x6 d2 d3 d5 hd5 q2.2 h
        · have h := it_neg h p12
          refine r_aload_n hX (p2 := 376) rfl rfl rfl ⟨_, Or.inl rfl⟩ ?_
          refine r_gf hX (p2 := 379) (v := vR (ca 634 0)) rfl rfl (hc6 0 (by decide)) rfl rfl rfl ?_
          refine r_bipush hX (p2 := 381) rfl rfl rfl ?_
          refine r_iload_n hX (p2 := 382) rfl rfl rfl ?_
          obtain ⟨c4, h⟩ := ck_some h
          refine r_imul hX (p2 := 383) rfl rfl c4 ?_
          refine r_iload hX (p2 := 385) rfl rfl rfl ?_
          obtain ⟨c5, h⟩ := ck_some h
          refine r_iadd hX (p2 := 386) rfl rfl c5 ?_
          refine r_aload_n hX (p2 := 387) rfl rfl rfl ⟨_, Or.inl rfl⟩ ?_
          refine r_gf hX (p2 := 390) (v := vR (ca 608 0)) rfl rfl (hc6 0 (by decide)) rfl rfl rfl ?_
          refine r_bipush hX (p2 := 392) rfl rfl rfl ?_
          refine r_iload_n hX (p2 := 393) rfl rfl rfl ?_
          obtain ⟨c6, h⟩ := ck_some h
          refine r_imul hX (p2 := 394) rfl rfl c6 ?_
          refine r_iload hX (p2 := 396) rfl rfl rfl ?_
          obtain ⟨c7, h⟩ := ck_some h
          refine r_iadd hX (p2 := 397) rfl rfl c7 ?_
          obtain ⟨c8, h⟩ := ck_some h
          refine r_faload hX (p2 := 398) (j := ((12 * x1) + x6).toNat) rfl rfl (ha608 0 (by decide)) rfl rfl c8 rfl ?_
          refine r_fload hX (p2 := 400) rfl rfl rfl ?_
          obtain ⟨c9, h⟩ := ck_some h
          refine r_fmul hX (p2 := 401) rfl rfl c9 ?_
          obtain ⟨c10, h⟩ := ck_some h
          obtain ⟨s11, hs11, h⟩ := bs_some h
          refine r_fastore hX (p2 := 402) (j := ((12 * x1) + x6).toNat) rfl rfl (ha634 0 (by decide)) rfl rfl c10 rfl hs11 ?_
          exact t_X6_shares_402 xs e q X hX _ _ ih hK408 x1 x4 x6 d2 d3 d5 hd5 s11 h
noncomputable def f_X6_shares_141 (x1 : Int) (x3 : UInt32) (y0 : UInt32) (s : pS) : Option (pS) := f_X6_shares_146 (fun x1 x4 s1 => f_X6_shares_343 (fun s2 => some s2) 400 x1 x4 0 s1) 400 x1 x3 y0 1 s
set_option maxRecDepth 10000 in
theorem t_X6_shares_141 (xs : Nat → Int) (e : Nat) (q : pS) (X : List (Option pV) → List pV → Nat → pH → Prop) (hX : pm_clo 1001 xs (pCall pm_tx 1001 xs pm_P (e + 2)) (e + 2) mX6_shares (eU q) X) : ∀  (x1 : Int) (x3 : UInt32) (y0 : UInt32) (d2 : Option pV) (d4 : Option pV) (d5 : Option pV) (d6 : Option pV) (hd2 : pm_nc d2) (s : pS), f_X6_shares_141 x1 x3 y0 s = some q → X [some (vR (cc 6 0)), some (vI x1), d2, some (vF x3), d4, d5, d6] [vF y0] 141 (pW s) := by
  intro x1 x3 y0 d2 d4 d5 d6 hd2 s h
  unfold f_X6_shares_141 at h
  refine r_fstore hX (p2 := 143) (ls2 := [some (vR (cc 6 0)), some (vI x1), d2, some (vF x3), some (vF y0), d5, d6]) rfl rfl rfl rfl ?_
  refine r_iconst hX (p2 := 144) rfl rfl rfl ?_
  refine r_istore hX (p2 := 146) (ls2 := [some (vR (cc 6 0)), some (vI x1), d2, some (vF x3), some (vF y0), some (vI 1), d6]) rfl rfl rfl rfl ?_
  refine t_X6_shares_146 xs e q X hX _ (fun x1 x4 d2 d3 d5 d6 hd5 s1 h => ?_) 400 x1 x3 y0 1 d2 d6 hd2 s h
  refine r_iconst hX (p2 := 341) rfl rfl rfl ?_
  refine r_istore hX (p2 := 343) (ls2 := [some (vR (cc 6 0)), some (vI x1), d2, d3, some (vF x4), d5, some (vI 0)]) rfl rfl rfl (st1_nc rfl hd5 rfl) ?_
  refine t_X6_shares_343 xs e q X hX _ (fun d0 d1 d2 d3 d4 d5 d6 s2 h => ?_) 400 x1 x4 0 d2 d3 d5 hd5 s1 h
  exact r_return hX rfl rfl (eU_ok h)
noncomputable def f_X6_shares (a1 : Int) (s : pS) : Option (pS) := ck (0 ≤ a1 ∧ a1 < 2) (bs ((sB s 626 0 a1.toNat)) (fun v2 => f_X6_shares_12 (fun x1 x2 x3 s3 => f_X6_shares_41 (fun x1 x2 x3 s4 => (if x2 ≠ 0 then (if (pm_fc .l x3 FP.fconst0) ≤ 0 then f_X6_shares_141 x1 x3 FP.fconst0 s4 else (f_X6_together x1 s4).bind (fun q5 => ck (vf_n32 (FP.fdiv x3 q5.1)) (f_X6_shares_141 x1 x3 (FP.fdiv x3 q5.1) q5.2))) else some s4)) 400 x1 x2 x3 0 s3) 400 a1 0 v2 1 s))
set_option maxRecDepth 10000 in
theorem c_X6_shares (xs : Nat → Int) (e : Nat) (a1 : Int) (s : pS) (q : pS) (h : f_X6_shares a1 s = some q) : pCall pm_tx 1001 xs pm_P (e + 2 + 1) 152 [vR (cc 6 0), vI a1] (pW s) (.inl none) (pW q) := by
  refine pCall_of mX6_shares rfl rfl (fun X hX => ?_)
  show X [some (vR (cc 6 0)), some (vI a1), none, none, none, none, none] [] 0 (pW s)
  replace hX : pm_clo 1001 xs (pCall pm_tx 1001 xs pm_P (e + 2)) (e + 2) mX6_shares (eU q) X := hX
  unfold f_X6_shares at h
  refine r_iconst hX (p2 := 1) rfl rfl rfl ?_
  refine r_istore_n hX (p2 := 2) (ls2 := [some (vR (cc 6 0)), some (vI a1), some (vI 0), none, none, none, none]) rfl rfl rfl rfl ?_
  refine r_aload_n hX (p2 := 3) rfl rfl rfl ⟨_, Or.inl rfl⟩ ?_
  refine r_gf hX (p2 := 6) (v := vR (ca 626 0)) rfl rfl (hc6 0 (by decide)) rfl rfl rfl ?_
  refine r_iload_n hX (p2 := 7) rfl rfl rfl ?_
  obtain ⟨c1, h⟩ := ck_some h
  refine r_faload hX (p2 := 8) (j := a1.toNat) rfl rfl (ha626 0 (by decide)) rfl rfl c1 rfl ?_
  obtain ⟨v2, hv2, h⟩ := bs_some h
  refine r_fstoreE_n hX (p2 := 9) (ls2 := [some (vR (cc 6 0)), some (vI a1), some (vI 0), some (vF v2), none, none, none]) rfl rfl hv2 rfl rfl ?_
  refine r_iconst hX (p2 := 10) rfl rfl rfl ?_
  refine r_istore hX (p2 := 12) (ls2 := [some (vR (cc 6 0)), some (vI a1), some (vI 0), some (vF v2), some (vI 1), none, none]) rfl rfl rfl rfl ?_
  refine t_X6_shares_12 xs e q X hX _ (fun x1 x2 x3 d4 d5 d6 s3 h => ?_) 400 a1 0 v2 1 none none s h
  refine r_iconst hX (p2 := 39) rfl rfl rfl ?_
  refine r_istore hX (p2 := 41) (ls2 := [some (vR (cc 6 0)), some (vI x1), some (vI x2), some (vF x3), some (vI 0), d5, d6]) rfl rfl rfl rfl ?_
  refine t_X6_shares_41 xs e q X hX _ (fun x1 x2 x3 d4 d5 d6 s4 h => ?_) 400 x1 x2 x3 0 d5 d6 s3 h
  refine r_iload_n hX (p2 := 120) rfl rfl rfl ?_
  refine r_if hX (p2 := 124) (p3 := 123) (P := x2 ≠ 0) rfl (by decide) rfl rfl (fun p8 => ?_) (fun p8 => ?_)
  · have h := it_pos h p8
    refine r_fload_n hX (p2 := 125) rfl rfl rfl ?_
    refine r_fconst0 hX (p2 := 126) rfl rfl ?_
    refine r_fcmp hX (p2 := 127) rfl rfl ?_
    refine r_if hX (p2 := 140) (p3 := 130) (P := (pm_fc .l x3 FP.fconst0) ≤ 0) rfl (by decide) rfl rfl (fun p7 => ?_) (fun p7 => ?_)
    · have h := it_pos h p7
      refine r_fconst0 hX (p2 := 141) rfl rfl ?_
      exact t_X6_shares_141 xs e q X hX x1 x3 FP.fconst0 (some (vI x2)) d4 d5 d6 rfl s4 h
    · have h := it_neg h p7
      refine r_fload_n hX (p2 := 131) rfl rfl rfl ?_
      refine r_aload_n hX (p2 := 132) rfl rfl rfl ⟨_, Or.inl rfl⟩ ?_
      refine r_iload_n hX (p2 := 133) rfl rfl rfl ?_
      obtain ⟨q5, hq5, h⟩ := bd_some h
      refine r_callv hX (p2 := 136) (v := some (vF q5.1)) (as := [vI x1]) (r := [vF x3]) (st2 := [vF q5.1, vF x3]) rfl rfl rfl rfl rfl (hc6 0 (by decide)) rfl rfl (c_X6_together xs e x1 s4 q5 hq5) ?_
      obtain ⟨c6, h⟩ := ck_some h
      refine r_fdiv hX (p2 := 137) rfl rfl c6 ?_
      refine r_goto hX (p2 := 141) rfl (by decide) ?_
      exact t_X6_shares_141 xs e q X hX x1 x3 (FP.fdiv x3 q5.1) (some (vI x2)) d4 d5 d6 rfl q5.2 h
  · have h := it_neg h p8
    exact r_return hX rfl rfl (eU_ok h)
noncomputable def f_X6_stretch_32 (s : pS) : Option (pS) := some s
set_option maxRecDepth 10000 in
theorem t_X6_stretch_32 (xs : Nat → Int) (e : Nat) (q : pS) (X : List (Option pV) → List pV → Nat → pH → Prop) (hX : pm_clo 1001 xs (pCall pm_tx 1001 xs pm_P (e + 1)) (e + 1) mX6_stretch (eU q) X) : ∀  (d0 : Option pV) (d1 : Option pV) (d2 : Option pV) (d3 : Option pV) (d4 : Option pV) (s : pS), f_X6_stretch_32 s = some q → X [d0, d1, d2, d3, d4] [] 32 (pW s) := by
  intro d0 d1 d2 d3 d4 s h
  unfold f_X6_stretch_32 at h
  exact r_return hX rfl rfl (eU_ok h)
noncomputable def f_X6_stretch_63 (K37 : Int → Int → Int → pS → Option (pS)) (K71 : Int → Int → pS → Option (pS)) (x1 : Int) (x3 : Int) (y0 : Int) (y1 : Int) (s : pS) : Option (pS) := ck (inR (y0 + y1)) (bs ((y0 + y1)) (fun v2 => ck (inR (x3 + 1)) (K37 x1 v2 (x3 + 1) s)))
set_option maxRecDepth 10000 in
theorem t_X6_stretch_63 (xs : Nat → Int) (e : Nat) (q : pS) (X : List (Option pV) → List pV → Nat → pH → Prop) (hX : pm_clo 1001 xs (pCall pm_tx 1001 xs pm_P (e + 1)) (e + 1) mX6_stretch (eU q) X) (K37 : Int → Int → Int → pS → Option (pS)) (K71 : Int → Int → pS → Option (pS)) (hK37 : ∀ (x1 : Int) (x2 : Int) (x3 : Int) (d4 : Option pV) (s : pS), K37 x1 x2 x3 s = some q → X [some (vR (cc 6 0)), some (vI x1), some (vI x2), some (vI x3), d4] [] 37 (pW s)) (hK71 : ∀ (x1 : Int) (x2 : Int) (d3 : Option pV) (d4 : Option pV) (s : pS), K71 x1 x2 s = some q → X [some (vR (cc 6 0)), some (vI x1), some (vI x2), d3, d4] [] 71 (pW s)) : ∀  (x1 : Int) (x3 : Int) (y0 : Int) (y1 : Int) (d2 : Option pV) (d4 : Option pV) (s : pS), f_X6_stretch_63 K37 K71 x1 x3 y0 y1 s = some q → X [some (vR (cc 6 0)), some (vI x1), d2, some (vI x3), d4] [vI y1, vI y0] 63 (pW s) := by
  intro x1 x3 y0 y1 d2 d4 s h
  unfold f_X6_stretch_63 at h
  obtain ⟨c1, h⟩ := ck_some h
  refine r_iadd hX (p2 := 64) rfl rfl c1 ?_
  obtain ⟨v2, hv2, h⟩ := bs_some h
  refine r_istoreE_n hX (p2 := 65) (ls2 := [some (vR (cc 6 0)), some (vI x1), some (vI v2), some (vI x3), d4]) rfl rfl hv2 rfl rfl ?_
  obtain ⟨c3, h⟩ := ck_some h
  refine r_iinc hX (p2 := 68) (ls2 := [some (vR (cc 6 0)), some (vI x1), some (vI v2), some (vI (x3 + 1)), d4]) rfl rfl rfl rfl c3 rfl ?_
  refine r_goto hX (p2 := 37) rfl (by decide) ?_
  exact hK37 x1 v2 (x3 + 1) d4 s h
noncomputable def f_X6_stretch_37 (K71 : Int → Int → pS → Option (pS)) : Nat → Int → Int → Int → pS → Option (pS)
  | 0, _, _, _, _ => none
  | n + 1, x1, x2, x3, s => ck (0 ≤ x1 ∧ x1 < 2) ((if (sA s 633 0 x1.toNat) ≤ x3 then K71 x1 x2 s else (f_X6_highOf x1 x3 s).bind (fun q2 => (if q2.1 ≠ 3 then f_X6_stretch_63 (f_X6_stretch_37 K71 n) K71 x1 x3 x2 0 q2.2 else f_X6_stretch_63 (f_X6_stretch_37 K71 n) K71 x1 x3 x2 1 q2.2))))
set_option maxRecDepth 10000 in
theorem t_X6_stretch_37 (xs : Nat → Int) (e : Nat) (q : pS) (X : List (Option pV) → List pV → Nat → pH → Prop) (hX : pm_clo 1001 xs (pCall pm_tx 1001 xs pm_P (e + 1)) (e + 1) mX6_stretch (eU q) X) (K71 : Int → Int → pS → Option (pS)) (hK71 : ∀ (x1 : Int) (x2 : Int) (d3 : Option pV) (d4 : Option pV) (s : pS), K71 x1 x2 s = some q → X [some (vR (cc 6 0)), some (vI x1), some (vI x2), d3, d4] [] 71 (pW s)) : ∀ (n : Nat) (x1 : Int) (x2 : Int) (x3 : Int) (d4 : Option pV) (s : pS), f_X6_stretch_37 K71 n x1 x2 x3 s = some q → X [some (vR (cc 6 0)), some (vI x1), some (vI x2), some (vI x3), d4] [] 37 (pW s) := by
  intro n
  induction n with
  | zero =>
    intro x1 x2 x3 d4 s h
    rw [f_X6_stretch_37] at h
    cases h
  | succ n ih =>
    intro x1 x2 x3 d4 s h
    rw [f_X6_stretch_37] at h
    refine r_iload_n hX (p2 := 38) rfl rfl rfl ?_
    refine r_aload_n hX (p2 := 39) rfl rfl rfl ⟨_, Or.inl rfl⟩ ?_
    refine r_gf hX (p2 := 42) (v := vR (ca 633 0)) rfl rfl (hc6 0 (by decide)) rfl rfl rfl ?_
    refine r_iload_n hX (p2 := 43) rfl rfl rfl ?_
    obtain ⟨c1, h⟩ := ck_some h
    refine r_iaload hX (p2 := 44) (j := x1.toNat) rfl rfl (ha633 0 (by decide)) rfl rfl c1 rfl ?_
    refine r_icmp hX (p2 := 71) (p3 := 47) (P := (sA s 633 0 x1.toNat) ≤ x3) rfl (by decide) rfl rfl (fun p4 => ?_) (fun p4 => ?_)
    · have h := it_pos h p4
      exact hK71 x1 x2 (some (vI x3)) d4 s h
    · have h := it_neg h p4
      refine r_iload_n hX (p2 := 48) rfl rfl rfl ?_
      refine r_aload_n hX (p2 := 49) rfl rfl rfl ⟨_, Or.inl rfl⟩ ?_
      refine r_iload_n hX (p2 := 50) rfl rfl rfl ?_
      refine r_iload_n hX (p2 := 51) rfl rfl rfl ?_
      obtain ⟨q2, hq2, h⟩ := bd_some h
      refine r_callv hX (p2 := 54) (v := some (vI q2.1)) (as := [vI x1, vI x3]) (r := [vI x2]) (st2 := [vI q2.1, vI x2]) rfl rfl rfl rfl rfl (hc6 0 (by decide)) rfl rfl (c_X6_highOf xs e x1 x3 s q2 hq2) ?_
      refine r_iconst hX (p2 := 55) rfl rfl rfl ?_
      refine r_icmp hX (p2 := 62) (p3 := 58) (P := q2.1 ≠ 3) rfl (by decide) rfl rfl (fun p3 => ?_) (fun p3 => ?_)
      · have h := it_pos h p3
        refine r_iconst hX (p2 := 63) rfl rfl rfl ?_
        exact t_X6_stretch_63 xs e q X hX _ _ ih hK71 x1 x3 x2 0 (some (vI x2)) d4 q2.2 h
      · have h := it_neg h p3
        refine r_iconst hX (p2 := 59) rfl rfl rfl ?_
        refine r_goto hX (p2 := 63) rfl (by decide) ?_
        exact t_X6_stretch_63 xs e q X hX _ _ ih hK71 x1 x3 x2 1 (some (vI x2)) d4 q2.2 h
noncomputable def f_X6_stretch_137 (K89 : Int → UInt32 → Int → pS → Option (pS)) (K143 : Int → pS → Option (pS)) (x1 : Int) (x3 : UInt32) (x4 : Int) (s : pS) : Option (pS) := ck (inR (x4 + 1)) (K89 x1 x3 (x4 + 1) s)
set_option maxRecDepth 10000 in
theorem t_X6_stretch_137 (xs : Nat → Int) (e : Nat) (q : pS) (X : List (Option pV) → List pV → Nat → pH → Prop) (hX : pm_clo 1001 xs (pCall pm_tx 1001 xs pm_P (e + 1)) (e + 1) mX6_stretch (eU q) X) (K89 : Int → UInt32 → Int → pS → Option (pS)) (K143 : Int → pS → Option (pS)) (hK89 : ∀ (x1 : Int) (x3 : UInt32) (x4 : Int) (d2 : Option pV) (s : pS), K89 x1 x3 x4 s = some q → X [some (vR (cc 6 0)), some (vI x1), d2, some (vF x3), some (vI x4)] [] 89 (pW s)) (hK143 : ∀ (x1 : Int) (d2 : Option pV) (d3 : Option pV) (d4 : Option pV) (s : pS), K143 x1 s = some q → X [some (vR (cc 6 0)), some (vI x1), d2, d3, d4] [] 143 (pW s)) : ∀  (x1 : Int) (x3 : UInt32) (x4 : Int) (d2 : Option pV) (s : pS), f_X6_stretch_137 K89 K143 x1 x3 x4 s = some q → X [some (vR (cc 6 0)), some (vI x1), d2, some (vF x3), some (vI x4)] [] 137 (pW s) := by
  intro x1 x3 x4 d2 s h
  unfold f_X6_stretch_137 at h
  obtain ⟨c1, h⟩ := ck_some h
  refine r_iinc hX (p2 := 140) (ls2 := [some (vR (cc 6 0)), some (vI x1), d2, some (vF x3), some (vI (x4 + 1))]) rfl rfl rfl rfl c1 rfl ?_
  refine r_goto hX (p2 := 89) rfl (by decide) ?_
  exact hK89 x1 x3 (x4 + 1) d2 s h
noncomputable def f_X6_stretch_89 (K143 : Int → pS → Option (pS)) : Nat → Int → UInt32 → Int → pS → Option (pS)
  | 0, _, _, _, _ => none
  | n + 1, x1, x3, x4, s => ck (0 ≤ x1 ∧ x1 < 2) ((if (sA s 633 0 x1.toNat) ≤ x4 then K143 x1 s else (f_X6_highOf x1 x4 s).bind (fun q2 => (if q2.1 ≠ 3 then f_X6_stretch_137 (f_X6_stretch_89 K143 n) K143 x1 x3 x4 q2.2 else ck (inR (12 * x1)) (ck (inR ((12 * x1) + x4)) (ck (inR (12 * x1)) (ck (inR ((12 * x1) + x4)) (ck (0 ≤ ((12 * x1) + x4) ∧ ((12 * x1) + x4) < 24) (ck (vf_n32 (FP.fadd (sB q2.2 634 0 ((12 * x1) + x4).toNat) x3)) (ck (0 ≤ ((12 * x1) + x4) ∧ ((12 * x1) + x4) < 24) (bs (wB q2.2 634 0 (pm_up (sB q2.2 634 0) ((12 * x1) + x4).toNat (FP.fadd (sB q2.2 634 0 ((12 * x1) + x4).toNat) x3))) (fun s10 => f_X6_stretch_137 (f_X6_stretch_89 K143 n) K143 x1 x3 x4 s10))))))))))))
set_option maxRecDepth 10000 in
theorem t_X6_stretch_89 (xs : Nat → Int) (e : Nat) (q : pS) (X : List (Option pV) → List pV → Nat → pH → Prop) (hX : pm_clo 1001 xs (pCall pm_tx 1001 xs pm_P (e + 1)) (e + 1) mX6_stretch (eU q) X) (K143 : Int → pS → Option (pS)) (hK143 : ∀ (x1 : Int) (d2 : Option pV) (d3 : Option pV) (d4 : Option pV) (s : pS), K143 x1 s = some q → X [some (vR (cc 6 0)), some (vI x1), d2, d3, d4] [] 143 (pW s)) : ∀ (n : Nat) (x1 : Int) (x3 : UInt32) (x4 : Int) (d2 : Option pV) (s : pS), f_X6_stretch_89 K143 n x1 x3 x4 s = some q → X [some (vR (cc 6 0)), some (vI x1), d2, some (vF x3), some (vI x4)] [] 89 (pW s) := by
  intro n
  induction n with
  | zero =>
    intro x1 x3 x4 d2 s h
    rw [f_X6_stretch_89] at h
    cases h
  | succ n ih =>
    intro x1 x3 x4 d2 s h
    rw [f_X6_stretch_89] at h
    refine r_iload hX (p2 := 91) rfl rfl rfl ?_
    refine r_aload_n hX (p2 := 92) rfl rfl rfl ⟨_, Or.inl rfl⟩ ?_
    refine r_gf hX (p2 := 95) (v := vR (ca 633 0)) rfl rfl (hc6 0 (by decide)) rfl rfl rfl ?_
    refine r_iload_n hX (p2 := 96) rfl rfl rfl ?_
    obtain ⟨c1, h⟩ := ck_some h
    refine r_iaload hX (p2 := 97) (j := x1.toNat) rfl rfl (ha633 0 (by decide)) rfl rfl c1 rfl ?_
    refine r_icmp hX (p2 := 143) (p3 := 100) (P := (sA s 633 0 x1.toNat) ≤ x4) rfl (by decide) rfl rfl (fun p12 => ?_) (fun p12 => ?_)
    · have h := it_pos h p12
      exact hK143 x1 d2 (some (vF x3)) (some (vI x4)) s h
    · have h := it_neg h p12
      refine r_aload_n hX (p2 := 101) rfl rfl rfl ⟨_, Or.inl rfl⟩ ?_
      refine r_iload_n hX (p2 := 102) rfl rfl rfl ?_
      refine r_iload hX (p2 := 104) rfl rfl rfl ?_
      obtain ⟨q2, hq2, h⟩ := bd_some h
      refine r_callv hX (p2 := 107) (v := some (vI q2.1)) (as := [vI x1, vI x4]) (r := []) (st2 := [vI q2.1]) rfl rfl rfl rfl rfl (hc6 0 (by decide)) rfl rfl (c_X6_highOf xs e x1 x4 s q2 hq2) ?_
      refine r_iconst hX (p2 := 108) rfl rfl rfl ?_
      refine r_icmp hX (p2 := 137) (p3 := 111) (P := q2.1 ≠ 3) rfl (by decide) rfl rfl (fun p11 => ?_) (fun p11 => ?_)
      · have h := it_pos h p11
        exact t_X6_stretch_137 xs e q X hX _ _ ih hK143 x1 x3 x4 d2 q2.2 h
      · have h := it_neg h p11
        refine r_aload_n hX (p2 := 112) rfl rfl rfl ⟨_, Or.inl rfl⟩ ?_
        refine r_gf hX (p2 := 115) (v := vR (ca 634 0)) rfl rfl (hc6 0 (by decide)) rfl rfl rfl ?_
        refine r_bipush hX (p2 := 117) rfl rfl rfl ?_
        refine r_iload_n hX (p2 := 118) rfl rfl rfl ?_
        obtain ⟨c3, h⟩ := ck_some h
        refine r_imul hX (p2 := 119) rfl rfl c3 ?_
        refine r_iload hX (p2 := 121) rfl rfl rfl ?_
        obtain ⟨c4, h⟩ := ck_some h
        refine r_iadd hX (p2 := 122) rfl rfl c4 ?_
        refine r_aload_n hX (p2 := 123) rfl rfl rfl ⟨_, Or.inl rfl⟩ ?_
        refine r_gf hX (p2 := 126) (v := vR (ca 634 0)) rfl rfl (hc6 0 (by decide)) rfl rfl rfl ?_
        refine r_bipush hX (p2 := 128) rfl rfl rfl ?_
        refine r_iload_n hX (p2 := 129) rfl rfl rfl ?_
        obtain ⟨c5, h⟩ := ck_some h
        refine r_imul hX (p2 := 130) rfl rfl c5 ?_
        refine r_iload hX (p2 := 132) rfl rfl rfl ?_
        obtain ⟨c6, h⟩ := ck_some h
        refine r_iadd hX (p2 := 133) rfl rfl c6 ?_
        obtain ⟨c7, h⟩ := ck_some h
        refine r_faload hX (p2 := 134) (j := ((12 * x1) + x4).toNat) rfl rfl (ha634 0 (by decide)) rfl rfl c7 rfl ?_
        refine r_fload_n hX (p2 := 135) rfl rfl rfl ?_
        obtain ⟨c8, h⟩ := ck_some h
        refine r_fadd hX (p2 := 136) rfl rfl c8 ?_
        obtain ⟨c9, h⟩ := ck_some h
        obtain ⟨s10, hs10, h⟩ := bs_some h
        refine r_fastore hX (p2 := 137) (j := ((12 * x1) + x4).toNat) rfl rfl (ha634 0 (by decide)) rfl rfl c9 rfl hs10 ?_
        exact t_X6_stretch_137 xs e q X hX _ _ ih hK143 x1 x3 x4 d2 s10 h
noncomputable def f_X6_stretch (a1 : Int) (s : pS) : Option (pS) := (f_X6_left a1 s).bind (fun q1 => ck (0 ≤ a1 ∧ a1 < 2) (bs (wB q1.2 638 0 (pm_up (sB q1.2 638 0) a1.toNat q1.1)) (fun s3 => ck (0 ≤ a1 ∧ a1 < 2) ((if (pm_fc .l (sB s3 638 0 a1.toNat) FP.fconst0) ≤ 0 then f_X6_stretch_32 s3 else ck (0 ≤ a1 ∧ a1 < 2) ((if (sA s3 628 0 a1.toNat) = 3 then f_X6_stretch_37 (fun x1 x2 s6 => (if x2 ≠ 0 then ck (0 ≤ x1 ∧ x1 < 2) (ck (vf_n32 (FP.fdiv (sB s6 638 0 x1.toNat) (FP.i2f (Int32.ofInt x2)))) (bs ((FP.fdiv (sB s6 638 0 x1.toNat) (FP.i2f (Int32.ofInt x2)))) (fun v9 => f_X6_stretch_89 (fun x1 s10 => (f_X6_left x1 s10).bind (fun q11 => ck (0 ≤ x1 ∧ x1 < 2) (bs (wB q11.2 638 0 (pm_up (sB q11.2 638 0) x1.toNat q11.1)) (fun s13 => some s13)))) 400 x1 v9 0 s6))) else some s6)) 400 a1 0 0 s3 else f_X6_stretch_32 s3)))))))
set_option maxRecDepth 10000 in
theorem c_X6_stretch (xs : Nat → Int) (e : Nat) (a1 : Int) (s : pS) (q : pS) (h : f_X6_stretch a1 s = some q) : pCall pm_tx 1001 xs pm_P (e + 1 + 1) 153 [vR (cc 6 0), vI a1] (pW s) (.inl none) (pW q) := by
  refine pCall_of mX6_stretch rfl rfl (fun X hX => ?_)
  show X [some (vR (cc 6 0)), some (vI a1), none, none, none] [] 0 (pW s)
  replace hX : pm_clo 1001 xs (pCall pm_tx 1001 xs pm_P (e + 1)) (e + 1) mX6_stretch (eU q) X := hX
  unfold f_X6_stretch at h
  refine r_aload_n hX (p2 := 1) rfl rfl rfl ⟨_, Or.inl rfl⟩ ?_
  refine r_gf hX (p2 := 4) (v := vR (ca 638 0)) rfl rfl (hc6 0 (by decide)) rfl rfl rfl ?_
  refine r_iload_n hX (p2 := 5) rfl rfl rfl ?_
  refine r_aload_n hX (p2 := 6) rfl rfl rfl ⟨_, Or.inl rfl⟩ ?_
  refine r_iload_n hX (p2 := 7) rfl rfl rfl ?_
  obtain ⟨q1, hq1, h⟩ := bd_some h
  refine r_callv hX (p2 := 10) (v := some (vF q1.1)) (as := [vI a1]) (r := [vI a1, vR (ca 638 0)]) (st2 := [vF q1.1, vI a1, vR (ca 638 0)]) rfl rfl rfl rfl rfl (hc6 0 (by decide)) rfl rfl (c_X6_left xs e a1 s q1 hq1) ?_
  obtain ⟨c2, h⟩ := ck_some h
  obtain ⟨s3, hs3, h⟩ := bs_some h
  refine r_fastore hX (p2 := 11) (j := a1.toNat) rfl rfl (ha638 0 (by decide)) rfl rfl c2 rfl hs3 ?_
  refine r_aload_n hX (p2 := 12) rfl rfl rfl ⟨_, Or.inl rfl⟩ ?_
  refine r_gf hX (p2 := 15) (v := vR (ca 638 0)) rfl rfl (hc6 0 (by decide)) rfl rfl rfl ?_
  refine r_iload_n hX (p2 := 16) rfl rfl rfl ?_
  obtain ⟨c4, h⟩ := ck_some h
  refine r_faload hX (p2 := 17) (j := a1.toNat) rfl rfl (ha638 0 (by decide)) rfl rfl c4 rfl ?_
  refine r_fconst0 hX (p2 := 18) rfl rfl ?_
  refine r_fcmp hX (p2 := 19) rfl rfl ?_
  refine r_if hX (p2 := 32) (p3 := 22) (P := (pm_fc .l (sB s3 638 0 a1.toNat) FP.fconst0) ≤ 0) rfl (by decide) rfl rfl (fun p16 => ?_) (fun p16 => ?_)
  · have h := it_pos h p16
    exact t_X6_stretch_32 xs e q X hX (some (vR (cc 6 0))) (some (vI a1)) none none none s3 h
  · have h := it_neg h p16
    refine r_aload_n hX (p2 := 23) rfl rfl rfl ⟨_, Or.inl rfl⟩ ?_
    refine r_gf hX (p2 := 26) (v := vR (ca 628 0)) rfl rfl (hc6 0 (by decide)) rfl rfl rfl ?_
    refine r_iload_n hX (p2 := 27) rfl rfl rfl ?_
    obtain ⟨c5, h⟩ := ck_some h
    refine r_iaload hX (p2 := 28) (j := a1.toNat) rfl rfl (ha628 0 (by decide)) rfl rfl c5 rfl ?_
    refine r_iconst hX (p2 := 29) rfl rfl rfl ?_
    refine r_icmp hX (p2 := 33) (p3 := 32) (P := (sA s3 628 0 a1.toNat) = 3) rfl (by decide) rfl rfl (fun p15 => ?_) (fun p15 => ?_)
    · have h := it_pos h p15
      refine r_iconst hX (p2 := 34) rfl rfl rfl ?_
      refine r_istore_n hX (p2 := 35) (ls2 := [some (vR (cc 6 0)), some (vI a1), some (vI 0), none, none]) rfl rfl rfl rfl ?_
      refine r_iconst hX (p2 := 36) rfl rfl rfl ?_
      refine r_istore_n hX (p2 := 37) (ls2 := [some (vR (cc 6 0)), some (vI a1), some (vI 0), some (vI 0), none]) rfl rfl rfl rfl ?_
      refine t_X6_stretch_37 xs e q X hX _ (fun x1 x2 d3 d4 s6 h => ?_) 400 a1 0 0 none s3 h
      refine r_iload_n hX (p2 := 72) rfl rfl rfl ?_
      refine r_if hX (p2 := 76) (p3 := 75) (P := x2 ≠ 0) rfl (by decide) rfl rfl (fun p14 => ?_) (fun p14 => ?_)
      · have h := it_pos h p14
        refine r_aload_n hX (p2 := 77) rfl rfl rfl ⟨_, Or.inl rfl⟩ ?_
        refine r_gf hX (p2 := 80) (v := vR (ca 638 0)) rfl rfl (hc6 0 (by decide)) rfl rfl rfl ?_
        refine r_iload_n hX (p2 := 81) rfl rfl rfl ?_
        obtain ⟨c7, h⟩ := ck_some h
        refine r_faload hX (p2 := 82) (j := x1.toNat) rfl rfl (ha638 0 (by decide)) rfl rfl c7 rfl ?_
        refine r_iload_n hX (p2 := 83) rfl rfl rfl ?_
        refine r_i2f hX (p2 := 84) rfl rfl ?_
        obtain ⟨c8, h⟩ := ck_some h
        refine r_fdiv hX (p2 := 85) rfl rfl c8 ?_
        obtain ⟨v9, hv9, h⟩ := bs_some h
        refine r_fstoreE_n hX (p2 := 86) (ls2 := [some (vR (cc 6 0)), some (vI x1), some (vI x2), some (vF v9), d4]) rfl rfl hv9 rfl rfl ?_
        refine r_iconst hX (p2 := 87) rfl rfl rfl ?_
        refine r_istore hX (p2 := 89) (ls2 := [some (vR (cc 6 0)), some (vI x1), some (vI x2), some (vF v9), some (vI 0)]) rfl rfl rfl rfl ?_
        refine t_X6_stretch_89 xs e q X hX _ (fun x1 d2 d3 d4 s10 h => ?_) 400 x1 v9 0 (some (vI x2)) s6 h
        refine r_aload_n hX (p2 := 144) rfl rfl rfl ⟨_, Or.inl rfl⟩ ?_
        refine r_gf hX (p2 := 147) (v := vR (ca 638 0)) rfl rfl (hc6 0 (by decide)) rfl rfl rfl ?_
        refine r_iload_n hX (p2 := 148) rfl rfl rfl ?_
        refine r_aload_n hX (p2 := 149) rfl rfl rfl ⟨_, Or.inl rfl⟩ ?_
        refine r_iload_n hX (p2 := 150) rfl rfl rfl ?_
        obtain ⟨q11, hq11, h⟩ := bd_some h
        refine r_callv hX (p2 := 153) (v := some (vF q11.1)) (as := [vI x1]) (r := [vI x1, vR (ca 638 0)]) (st2 := [vF q11.1, vI x1, vR (ca 638 0)]) rfl rfl rfl rfl rfl (hc6 0 (by decide)) rfl rfl (c_X6_left xs e x1 s10 q11 hq11) ?_
        obtain ⟨c12, h⟩ := ck_some h
        obtain ⟨s13, hs13, h⟩ := bs_some h
        refine r_fastore hX (p2 := 154) (j := x1.toNat) rfl rfl (ha638 0 (by decide)) rfl rfl c12 rfl hs13 ?_
        exact r_return hX rfl rfl (eU_ok h)
      · have h := it_neg h p14
        exact r_return hX rfl rfl (eU_ok h)
    · have h := it_neg h p15
      exact t_X6_stretch_32 xs e q X hX (some (vR (cc 6 0))) (some (vI a1)) none none none s3 h
