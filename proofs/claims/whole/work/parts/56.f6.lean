/-! ===== THE METHODS AS FUNCTIONS (written by wip/whole/gen_fun.py) ===== -/
noncomputable def f_X6_spans_32 (y0 : Int) (s : pS) : Option (Int × pS) := ck (y0 = 0 ∨ y0 = 1) (some (y0, s))
set_option maxRecDepth 10000 in
theorem t_X6_spans_32 (xs : Nat → Int) (e : Nat) (q : Int × pS) (X : List (Option pV) → List pV → Nat → pH → Prop) (hX : pm_clo 1001 xs (pCall pm_tx 1001 xs pm_P e) e mX6_spans (eI q) X) : ∀  (y0 : Int) (d0 : Option pV) (d1 : Option pV) (d2 : Option pV) (d3 : Option pV) (s : pS), f_X6_spans_32 y0 s = some q → X [d0, d1, d2, d3] [vI y0] 32 (pW s) := by
  intro y0 d0 d1 d2 d3 s h
  unfold f_X6_spans_32 at h
  obtain ⟨c1, h⟩ := ck_some h
  exact r_iretZ hX rfl rfl c1 (eI_ok h)
noncomputable def f_X6_spans_31 (s : pS) : Option (Int × pS) := f_X6_spans_32 0 s
set_option maxRecDepth 10000 in
theorem t_X6_spans_31 (xs : Nat → Int) (e : Nat) (q : Int × pS) (X : List (Option pV) → List pV → Nat → pH → Prop) (hX : pm_clo 1001 xs (pCall pm_tx 1001 xs pm_P e) e mX6_spans (eI q) X) : ∀  (d0 : Option pV) (d1 : Option pV) (d2 : Option pV) (d3 : Option pV) (s : pS), f_X6_spans_31 s = some q → X [d0, d1, d2, d3] [] 31 (pW s) := by
  intro d0 d1 d2 d3 s h
  unfold f_X6_spans_31 at h
  refine r_iconst hX (p2 := 32) rfl rfl rfl ?_
  exact t_X6_spans_32 xs e q X hX 0 d0 d1 d2 d3 s h
noncomputable def f_X6_spans (a1 : Int) (a2 : Int) (a3 : Int) (s : pS) : Option (Int × pS) := ck (inR (2 * a2)) (ck (inR ((2 * a2) + a1)) (ck (0 ≤ ((2 * a2) + a1) ∧ ((2 * a2) + a1) < 20) ((if (sA s 631 0 ((2 * a2) + a1).toNat) ≤ 0 then f_X6_spans_31 s else ck (inR (2 * a2)) (ck (inR ((2 * a2) + a1)) (ck (0 ≤ ((2 * a2) + a1) ∧ ((2 * a2) + a1) < 20) ((if (sA s 621 0 ((2 * a2) + a1).toNat) ≠ a3 then f_X6_spans_31 s else f_X6_spans_32 1 s))))))))
set_option maxRecDepth 10000 in
theorem c_X6_spans (xs : Nat → Int) (e : Nat) (a1 : Int) (a2 : Int) (a3 : Int) (s : pS) (q : Int × pS) (h : f_X6_spans a1 a2 a3 s = some q) : pCall pm_tx 1001 xs pm_P (e + 1) 147 [vR (cc 6 0), vI a1, vI a2, vI a3] (pW s) (.inl (some (vI q.1))) (pW q.2) := by
  refine pCall_of mX6_spans rfl rfl (fun X hX => ?_)
  show X [some (vR (cc 6 0)), some (vI a1), some (vI a2), some (vI a3)] [] 0 (pW s)
  replace hX : pm_clo 1001 xs (pCall pm_tx 1001 xs pm_P e) e mX6_spans (eI q) X := hX
  unfold f_X6_spans at h
  refine r_aload_n hX (p2 := 1) rfl rfl rfl ⟨_, Or.inl rfl⟩ ?_
  refine r_gf hX (p2 := 4) (v := vR (ca 631 0)) rfl rfl (hc6 0 (by decide)) rfl rfl rfl ?_
  refine r_iconst hX (p2 := 5) rfl rfl rfl ?_
  refine r_iload_n hX (p2 := 6) rfl rfl rfl ?_
  obtain ⟨c1, h⟩ := ck_some h
  refine r_imul hX (p2 := 7) rfl rfl c1 ?_
  refine r_iload_n hX (p2 := 8) rfl rfl rfl ?_
  obtain ⟨c2, h⟩ := ck_some h
  refine r_iadd hX (p2 := 9) rfl rfl c2 ?_
  obtain ⟨c3, h⟩ := ck_some h
  refine r_iaload hX (p2 := 10) (j := ((2 * a2) + a1).toNat) rfl rfl (ha631 0 (by decide)) rfl rfl c3 rfl ?_
  refine r_if hX (p2 := 31) (p3 := 13) (P := (sA s 631 0 ((2 * a2) + a1).toNat) ≤ 0) rfl (by decide) rfl rfl (fun p8 => ?_) (fun p8 => ?_)
  · have h := it_pos h p8
    exact t_X6_spans_31 xs e q X hX (some (vR (cc 6 0))) (some (vI a1)) (some (vI a2)) (some (vI a3)) s h
  · have h := it_neg h p8
    refine r_aload_n hX (p2 := 14) rfl rfl rfl ⟨_, Or.inl rfl⟩ ?_
    refine r_gf hX (p2 := 17) (v := vR (ca 621 0)) rfl rfl (hc6 0 (by decide)) rfl rfl rfl ?_
    refine r_iconst hX (p2 := 18) rfl rfl rfl ?_
    refine r_iload_n hX (p2 := 19) rfl rfl rfl ?_
    obtain ⟨c4, h⟩ := ck_some h
    refine r_imul hX (p2 := 20) rfl rfl c4 ?_
    refine r_iload_n hX (p2 := 21) rfl rfl rfl ?_
    obtain ⟨c5, h⟩ := ck_some h
    refine r_iadd hX (p2 := 22) rfl rfl c5 ?_
    obtain ⟨c6, h⟩ := ck_some h
    refine r_iaload hX (p2 := 23) (j := ((2 * a2) + a1).toNat) rfl rfl (ha621 0 (by decide)) rfl rfl c6 rfl ?_
    refine r_iload_n hX (p2 := 24) rfl rfl rfl ?_
    refine r_icmp hX (p2 := 31) (p3 := 27) (P := (sA s 621 0 ((2 * a2) + a1).toNat) ≠ a3) rfl (by decide) rfl rfl (fun p7 => ?_) (fun p7 => ?_)
    · have h := it_pos h p7
      exact t_X6_spans_31 xs e q X hX (some (vR (cc 6 0))) (some (vI a1)) (some (vI a2)) (some (vI a3)) s h
    · have h := it_neg h p7
      refine r_iconst hX (p2 := 28) rfl rfl rfl ?_
      refine r_goto hX (p2 := 32) rfl (by decide) ?_
      exact t_X6_spans_32 xs e q X hX 1 (some (vR (cc 6 0))) (some (vI a1)) (some (vI a2)) (some (vI a3)) s h
noncomputable def f_X6_single_231 (x4 : Int) (s : pS) : Option (pS) := (f_X6_raise x4 s).bind (fun q1 => some q1)
set_option maxRecDepth 10000 in
theorem t_X6_single_231 (xs : Nat → Int) (e : Nat) (q : pS) (X : List (Option pV) → List pV → Nat → pH → Prop) (hX : pm_clo 1001 xs (pCall pm_tx 1001 xs pm_P (e + 1)) (e + 1) mX6_single (eU q) X) : ∀  (x4 : Int) (d1 : Option pV) (d2 : Option pV) (d3 : Option pV) (d5 : Option pV) (d6 : Option pV) (d7 : Option pV) (d8 : Option pV) (d9 : Option pV) (d10 : Option pV) (s : pS), f_X6_single_231 x4 s = some q → X [some (vR (cc 6 0)), d1, d2, d3, some (vI x4), d5, d6, d7, d8, d9, d10] [] 231 (pW s) := by
  intro x4 d1 d2 d3 d5 d6 d7 d8 d9 d10 s h
  unfold f_X6_single_231 at h
  refine r_aload_n hX (p2 := 232) rfl rfl rfl ⟨_, Or.inl rfl⟩ ?_
  refine r_iload hX (p2 := 234) rfl rfl rfl ?_
  obtain ⟨q1, hq1, h⟩ := bd_some h
  refine r_callv hX (p2 := 237) (v := none) (as := [vI x4]) (r := []) (st2 := []) rfl rfl rfl rfl rfl (hc6 0 (by decide)) rfl rfl (c_X6_raise xs e x4 s q1 hq1) ?_
  exact r_return hX rfl rfl (eU_ok h)
noncomputable def f_X6_single_222 (x4 : Int) (y1 : Int) (y2 : UInt32) (s : pS) : Option (pS) := ck (0 ≤ y1 ∧ y1 < 24) (bs (wB s 635 0 (pm_up (sB s 635 0) y1.toNat y2)) (fun s2 => ck (0 ≤ x4 ∧ x4 < 24) (bs (wA s2 636 0 (pm_up (sA s2 636 0) x4.toNat 0)) (fun s4 => f_X6_single_231 x4 s4))))
set_option maxRecDepth 10000 in
theorem t_X6_single_222 (xs : Nat → Int) (e : Nat) (q : pS) (X : List (Option pV) → List pV → Nat → pH → Prop) (hX : pm_clo 1001 xs (pCall pm_tx 1001 xs pm_P (e + 1)) (e + 1) mX6_single (eU q) X) : ∀  (x4 : Int) (y1 : Int) (y2 : UInt32) (d1 : Option pV) (d2 : Option pV) (d3 : Option pV) (d5 : Option pV) (d6 : Option pV) (d7 : Option pV) (d8 : Option pV) (d9 : Option pV) (d10 : Option pV) (s : pS), f_X6_single_222 x4 y1 y2 s = some q → X [some (vR (cc 6 0)), d1, d2, d3, some (vI x4), d5, d6, d7, d8, d9, d10] [vF y2, vI y1, vR (ca 635 0)] 222 (pW s) := by
  intro x4 y1 y2 d1 d2 d3 d5 d6 d7 d8 d9 d10 s h
  unfold f_X6_single_222 at h
  obtain ⟨c1, h⟩ := ck_some h
  obtain ⟨s2, hs2, h⟩ := bs_some h
  refine r_fastore hX (p2 := 223) (j := y1.toNat) rfl rfl (ha635 0 (by decide)) rfl rfl c1 rfl hs2 ?_
  refine r_aload_n hX (p2 := 224) rfl rfl rfl ⟨_, Or.inl rfl⟩ ?_
  refine r_gf hX (p2 := 227) (v := vR (ca 636 0)) rfl rfl (hc6 0 (by decide)) rfl rfl rfl ?_
  refine r_iload hX (p2 := 229) rfl rfl rfl ?_
  refine r_iconst hX (p2 := 230) rfl rfl rfl ?_
  obtain ⟨c3, h⟩ := ck_some h
  obtain ⟨s4, hs4, h⟩ := bs_some h
  refine r_bastore hX (p2 := 231) (j := x4.toNat) rfl rfl (ha636 0 (by decide)) rfl rfl c3 rfl (Or.inl rfl) hs4 ?_
  exact t_X6_single_231 xs e q X hX x4 d1 d2 d3 d5 d6 d7 d8 d9 d10 s4 h
noncomputable def f_X6_single_199 (x4 : Int) (x9 : UInt32) (y0 : UInt32) (s : pS) : Option (pS) := (if 0 ≤ (pm_fc .g y0 x9) then f_X6_single_222 x4 x4 y0 s else f_X6_single_222 x4 x4 x9 s)
set_option maxRecDepth 10000 in
theorem t_X6_single_199 (xs : Nat → Int) (e : Nat) (q : pS) (X : List (Option pV) → List pV → Nat → pH → Prop) (hX : pm_clo 1001 xs (pCall pm_tx 1001 xs pm_P (e + 1)) (e + 1) mX6_single (eU q) X) : ∀  (x4 : Int) (x9 : UInt32) (y0 : UInt32) (d1 : Option pV) (d2 : Option pV) (d3 : Option pV) (d5 : Option pV) (d6 : Option pV) (d7 : Option pV) (d8 : Option pV) (d10 : Option pV) (s : pS), f_X6_single_199 x4 x9 y0 s = some q → X [some (vR (cc 6 0)), d1, d2, d3, some (vI x4), d5, d6, d7, d8, some (vF x9), d10] [vF y0] 199 (pW s) := by
  intro x4 x9 y0 d1 d2 d3 d5 d6 d7 d8 d10 s h
  unfold f_X6_single_199 at h
  refine r_fstore hX (p2 := 201) (ls2 := [some (vR (cc 6 0)), d1, d2, d3, some (vI x4), d5, d6, d7, d8, some (vF x9), some (vF y0)]) rfl rfl rfl rfl ?_
  refine r_aload_n hX (p2 := 202) rfl rfl rfl ⟨_, Or.inl rfl⟩ ?_
  refine r_gf hX (p2 := 205) (v := vR (ca 635 0)) rfl rfl (hc6 0 (by decide)) rfl rfl rfl ?_
  refine r_iload hX (p2 := 207) rfl rfl rfl ?_
  refine r_fload hX (p2 := 209) rfl rfl rfl ?_
  refine r_fload hX (p2 := 211) rfl rfl rfl ?_
  refine r_fcmp hX (p2 := 212) rfl rfl ?_
  refine r_if hX (p2 := 220) (p3 := 215) (P := 0 ≤ (pm_fc .g y0 x9)) rfl (by decide) rfl rfl (fun p1 => ?_) (fun p1 => ?_)
  · have h := it_pos h p1
    refine r_fload hX (p2 := 222) rfl rfl rfl ?_
    exact t_X6_single_222 xs e q X hX x4 x4 y0 d1 d2 d3 d5 d6 d7 d8 (some (vF x9)) (some (vF y0)) s h
  · have h := it_neg h p1
    refine r_fload hX (p2 := 217) rfl rfl rfl ?_
    refine r_goto hX (p2 := 222) rfl (by decide) ?_
    exact t_X6_single_222 xs e q X hX x4 x4 x9 d1 d2 d3 d5 d6 d7 d8 (some (vF x9)) (some (vF y0)) s h
noncomputable def f_X6_single_176 (x4 : Int) (y0 : UInt32) (s : pS) : Option (pS) := ck (0 ≤ x4 ∧ x4 < 24) ((if (sA s 636 0 x4.toNat) = 0 then ck (0 ≤ x4 ∧ x4 < 24) (f_X6_single_199 x4 y0 (sB s 635 0 x4.toNat) s) else f_X6_single_199 x4 y0 FP.fconst0 s))
set_option maxRecDepth 10000 in
theorem t_X6_single_176 (xs : Nat → Int) (e : Nat) (q : pS) (X : List (Option pV) → List pV → Nat → pH → Prop) (hX : pm_clo 1001 xs (pCall pm_tx 1001 xs pm_P (e + 1)) (e + 1) mX6_single (eU q) X) : ∀  (x4 : Int) (y0 : UInt32) (d1 : Option pV) (d2 : Option pV) (d3 : Option pV) (d5 : Option pV) (d6 : Option pV) (d7 : Option pV) (d8 : Option pV) (d9 : Option pV) (d10 : Option pV) (hd8 : pm_nc d8) (s : pS), f_X6_single_176 x4 y0 s = some q → X [some (vR (cc 6 0)), d1, d2, d3, some (vI x4), d5, d6, d7, d8, d9, d10] [vF y0] 176 (pW s) := by
  intro x4 y0 d1 d2 d3 d5 d6 d7 d8 d9 d10 hd8 s h
  unfold f_X6_single_176 at h
  refine r_fstore hX (p2 := 178) (ls2 := [some (vR (cc 6 0)), d1, d2, d3, some (vI x4), d5, d6, d7, d8, some (vF y0), d10]) rfl rfl rfl (st1_nc rfl hd8 rfl) ?_
  refine r_aload_n hX (p2 := 179) rfl rfl rfl ⟨_, Or.inl rfl⟩ ?_
  refine r_gf hX (p2 := 182) (v := vR (ca 636 0)) rfl rfl (hc6 0 (by decide)) rfl rfl rfl ?_
  refine r_iload hX (p2 := 184) rfl rfl rfl ?_
  obtain ⟨c1, h⟩ := ck_some h
  refine r_baload hX (p2 := 185) (j := x4.toNat) rfl rfl (ha636 0 (by decide)) rfl rfl c1 rfl ?_
  refine r_if hX (p2 := 192) (p3 := 188) (P := (sA s 636 0 x4.toNat) = 0) rfl (by decide) rfl rfl (fun p3 => ?_) (fun p3 => ?_)
  · have h := it_pos h p3
    refine r_aload_n hX (p2 := 193) rfl rfl rfl ⟨_, Or.inl rfl⟩ ?_
    refine r_gf hX (p2 := 196) (v := vR (ca 635 0)) rfl rfl (hc6 0 (by decide)) rfl rfl rfl ?_
    refine r_iload hX (p2 := 198) rfl rfl rfl ?_
    obtain ⟨c2, h⟩ := ck_some h
    refine r_faload hX (p2 := 199) (j := x4.toNat) rfl rfl (ha635 0 (by decide)) rfl rfl c2 rfl ?_
    exact t_X6_single_199 xs e q X hX x4 y0 (sB s 635 0 x4.toNat) d1 d2 d3 d5 d6 d7 d8 d10 s h
  · have h := it_neg h p3
    refine r_fconst0 hX (p2 := 189) rfl rfl ?_
    refine r_goto hX (p2 := 199) rfl (by decide) ?_
    exact t_X6_single_199 xs e q X hX x4 y0 FP.fconst0 d1 d2 d3 d5 d6 d7 d8 d10 s h
noncomputable def f_X6_single_174 (x4 : Int) (x6 : UInt32) (s : pS) : Option (pS) := f_X6_single_176 x4 x6 s
set_option maxRecDepth 10000 in
theorem t_X6_single_174 (xs : Nat → Int) (e : Nat) (q : pS) (X : List (Option pV) → List pV → Nat → pH → Prop) (hX : pm_clo 1001 xs (pCall pm_tx 1001 xs pm_P (e + 1)) (e + 1) mX6_single (eU q) X) : ∀  (x4 : Int) (x6 : UInt32) (d1 : Option pV) (d2 : Option pV) (d3 : Option pV) (d5 : Option pV) (d7 : Option pV) (d8 : Option pV) (d9 : Option pV) (d10 : Option pV) (hd8 : pm_nc d8) (s : pS), f_X6_single_174 x4 x6 s = some q → X [some (vR (cc 6 0)), d1, d2, d3, some (vI x4), d5, some (vF x6), d7, d8, d9, d10] [] 174 (pW s) := by
  intro x4 x6 d1 d2 d3 d5 d7 d8 d9 d10 hd8 s h
  unfold f_X6_single_174 at h
  refine r_fload hX (p2 := 176) rfl rfl rfl ?_
  exact t_X6_single_176 xs e q X hX x4 x6 d1 d2 d3 d5 (some (vF x6)) d7 d8 d9 d10 hd8 s h
noncomputable def f_X6_single_115 (x1 : Int) (x3 : Int) (x4 : Int) (x5 : UInt32) (x6 : UInt32) (s : pS) : Option (pS) := (f_X6_highOf x1 x3 s).bind (fun q1 => (if q1.1 = 0 then f_X6_single_231 x4 q1.2 else (if q1.1 = 4 then f_X6_single_231 x4 q1.2 else (if q1.1 ≠ 1 then (if q1.1 ≠ 5 then f_X6_single_174 x4 x6 q1.2 else ck (0 ≤ x4 ∧ x4 < 48) ((if (pm_fc .l x6 (sB q1.2 608 0 x4.toNat)) ≤ 0 then f_X6_single_174 x4 x6 q1.2 else ck (0 ≤ x4 ∧ x4 < 48) (f_X6_single_176 x4 (sB q1.2 608 0 x4.toNat) q1.2)))) else f_X6_single_176 x4 x5 q1.2))))
set_option maxRecDepth 10000 in
theorem t_X6_single_115 (xs : Nat → Int) (e : Nat) (q : pS) (X : List (Option pV) → List pV → Nat → pH → Prop) (hX : pm_clo 1001 xs (pCall pm_tx 1001 xs pm_P (e + 1)) (e + 1) mX6_single (eU q) X) : ∀  (x1 : Int) (x3 : Int) (x4 : Int) (x5 : UInt32) (x6 : UInt32) (d2 : Option pV) (d7 : Option pV) (d8 : Option pV) (d9 : Option pV) (d10 : Option pV) (hd7 : pm_nc d7) (s : pS), f_X6_single_115 x1 x3 x4 x5 x6 s = some q → X [some (vR (cc 6 0)), some (vI x1), d2, some (vI x3), some (vI x4), some (vF x5), some (vF x6), d7, d8, d9, d10] [] 115 (pW s) := by
  intro x1 x3 x4 x5 x6 d2 d7 d8 d9 d10 hd7 s h
  unfold f_X6_single_115 at h
  refine r_aload_n hX (p2 := 116) rfl rfl rfl ⟨_, Or.inl rfl⟩ ?_
  refine r_iload_n hX (p2 := 117) rfl rfl rfl ?_
  refine r_iload_n hX (p2 := 118) rfl rfl rfl ?_
  obtain ⟨q1, hq1, h⟩ := bd_some h
  refine r_callv hX (p2 := 121) (v := some (vI q1.1)) (as := [vI x1, vI x3]) (r := []) (st2 := [vI q1.1]) rfl rfl rfl rfl rfl (hc6 0 (by decide)) rfl rfl (c_X6_highOf xs e x1 x3 s q1 hq1) ?_
  refine r_istore hX (p2 := 123) (ls2 := [some (vR (cc 6 0)), some (vI x1), d2, some (vI x3), some (vI x4), some (vF x5), some (vF x6), d7, some (vI q1.1), d9, d10]) rfl rfl rfl (st1_nc rfl hd7 rfl) ?_
  refine r_iload hX (p2 := 125) rfl rfl rfl ?_
  refine r_if hX (p2 := 231) (p3 := 128) (P := q1.1 = 0) rfl (by decide) rfl rfl (fun p8 => ?_) (fun p8 => ?_)
  · have h := it_pos h p8
    exact t_X6_single_231 xs e q X hX x4 (some (vI x1)) d2 (some (vI x3)) (some (vF x5)) (some (vF x6)) d7 (some (vI q1.1)) d9 d10 q1.2 h
  · have h := it_neg h p8
    refine r_iload hX (p2 := 130) rfl rfl rfl ?_
    refine r_iconst hX (p2 := 131) rfl rfl rfl ?_
    refine r_icmp hX (p2 := 231) (p3 := 134) (P := q1.1 = 4) rfl (by decide) rfl rfl (fun p7 => ?_) (fun p7 => ?_)
    · have h := it_pos h p7
      exact t_X6_single_231 xs e q X hX x4 (some (vI x1)) d2 (some (vI x3)) (some (vF x5)) (some (vF x6)) d7 (some (vI q1.1)) d9 d10 q1.2 h
    · have h := it_neg h p7
      refine r_iload hX (p2 := 136) rfl rfl rfl ?_
      refine r_iconst hX (p2 := 137) rfl rfl rfl ?_
      refine r_icmp hX (p2 := 145) (p3 := 140) (P := q1.1 ≠ 1) rfl (by decide) rfl rfl (fun p6 => ?_) (fun p6 => ?_)
      · have h := it_pos h p6
        refine r_iload hX (p2 := 147) rfl rfl rfl ?_
        refine r_iconst hX (p2 := 148) rfl rfl rfl ?_
        refine r_icmp hX (p2 := 174) (p3 := 151) (P := q1.1 ≠ 5) rfl (by decide) rfl rfl (fun p5 => ?_) (fun p5 => ?_)
        · have h := it_pos h p5
          exact t_X6_single_174 xs e q X hX x4 x6 (some (vI x1)) d2 (some (vI x3)) (some (vF x5)) d7 (some (vI q1.1)) d9 d10 rfl q1.2 h
        · have h := it_neg h p5
          refine r_fload hX (p2 := 153) rfl rfl rfl ?_
          refine r_aload_n hX (p2 := 154) rfl rfl rfl ⟨_, Or.inl rfl⟩ ?_
          refine r_gf hX (p2 := 157) (v := vR (ca 608 0)) rfl rfl (hc6 0 (by decide)) rfl rfl rfl ?_
          refine r_iload hX (p2 := 159) rfl rfl rfl ?_
          obtain ⟨c2, h⟩ := ck_some h
          refine r_faload hX (p2 := 160) (j := x4.toNat) rfl rfl (ha608 0 (by decide)) rfl rfl c2 rfl ?_
          refine r_fcmp hX (p2 := 161) rfl rfl ?_
          refine r_if hX (p2 := 174) (p3 := 164) (P := (pm_fc .l x6 (sB q1.2 608 0 x4.toNat)) ≤ 0) rfl (by decide) rfl rfl (fun p4 => ?_) (fun p4 => ?_)
          · have h := it_pos h p4
            exact t_X6_single_174 xs e q X hX x4 x6 (some (vI x1)) d2 (some (vI x3)) (some (vF x5)) d7 (some (vI q1.1)) d9 d10 rfl q1.2 h
          · have h := it_neg h p4
            refine r_aload_n hX (p2 := 165) rfl rfl rfl ⟨_, Or.inl rfl⟩ ?_
            refine r_gf hX (p2 := 168) (v := vR (ca 608 0)) rfl rfl (hc6 0 (by decide)) rfl rfl rfl ?_
            refine r_iload hX (p2 := 170) rfl rfl rfl ?_
            obtain ⟨c3, h⟩ := ck_some h
            refine r_faload hX (p2 := 171) (j := x4.toNat) rfl rfl (ha608 0 (by decide)) rfl rfl c3 rfl ?_
            refine r_goto hX (p2 := 176) rfl (by decide) ?_
            exact t_X6_single_176 xs e q X hX x4 (sB q1.2 608 0 x4.toNat) (some (vI x1)) d2 (some (vI x3)) (some (vF x5)) (some (vF x6)) d7 (some (vI q1.1)) d9 d10 rfl q1.2 h
      · have h := it_neg h p6
        refine r_fload hX (p2 := 142) rfl rfl rfl ?_
        refine r_goto hX (p2 := 176) rfl (by decide) ?_
        exact t_X6_single_176 xs e q X hX x4 x5 (some (vI x1)) d2 (some (vI x3)) (some (vF x5)) (some (vF x6)) d7 (some (vI q1.1)) d9 d10 rfl q1.2 h
noncomputable def f_X6_single_87 (x1 : Int) (x3 : Int) (x4 : Int) (x5 : UInt32) (x6 : UInt32) (x7 : Int) (s : pS) : Option (pS) := (if x7 ≠ 2 then f_X6_single_115 x1 x3 x4 x5 x6 s else ck (0 ≤ x4 ∧ x4 < 24) ((if 0 ≤ (pm_fc .g (sB s 634 0 x4.toNat) x6) then f_X6_single_115 x1 x3 x4 x5 x6 s else ck (0 ≤ x4 ∧ x4 < 24) (bs (wB s 634 0 (pm_up (sB s 634 0) x4.toNat x6)) (fun s3 => f_X6_single_115 x1 x3 x4 x5 x6 s3)))))
set_option maxRecDepth 10000 in
theorem t_X6_single_87 (xs : Nat → Int) (e : Nat) (q : pS) (X : List (Option pV) → List pV → Nat → pH → Prop) (hX : pm_clo 1001 xs (pCall pm_tx 1001 xs pm_P (e + 1)) (e + 1) mX6_single (eU q) X) : ∀  (x1 : Int) (x3 : Int) (x4 : Int) (x5 : UInt32) (x6 : UInt32) (x7 : Int) (d2 : Option pV) (d8 : Option pV) (d9 : Option pV) (d10 : Option pV) (s : pS), f_X6_single_87 x1 x3 x4 x5 x6 x7 s = some q → X [some (vR (cc 6 0)), some (vI x1), d2, some (vI x3), some (vI x4), some (vF x5), some (vF x6), some (vI x7), d8, d9, d10] [] 87 (pW s) := by
  intro x1 x3 x4 x5 x6 x7 d2 d8 d9 d10 s h
  unfold f_X6_single_87 at h
  refine r_iload hX (p2 := 89) rfl rfl rfl ?_
  refine r_iconst hX (p2 := 90) rfl rfl rfl ?_
  refine r_icmp hX (p2 := 115) (p3 := 93) (P := x7 ≠ 2) rfl (by decide) rfl rfl (fun p5 => ?_) (fun p5 => ?_)
  · have h := it_pos h p5
    exact t_X6_single_115 xs e q X hX x1 x3 x4 x5 x6 d2 (some (vI x7)) d8 d9 d10 rfl s h
  · have h := it_neg h p5
    refine r_aload_n hX (p2 := 94) rfl rfl rfl ⟨_, Or.inl rfl⟩ ?_
    refine r_gf hX (p2 := 97) (v := vR (ca 634 0)) rfl rfl (hc6 0 (by decide)) rfl rfl rfl ?_
    refine r_iload hX (p2 := 99) rfl rfl rfl ?_
    obtain ⟨c1, h⟩ := ck_some h
    refine r_faload hX (p2 := 100) (j := x4.toNat) rfl rfl (ha634 0 (by decide)) rfl rfl c1 rfl ?_
    refine r_fload hX (p2 := 102) rfl rfl rfl ?_
    refine r_fcmp hX (p2 := 103) rfl rfl ?_
    refine r_if hX (p2 := 115) (p3 := 106) (P := 0 ≤ (pm_fc .g (sB s 634 0 x4.toNat) x6)) rfl (by decide) rfl rfl (fun p4 => ?_) (fun p4 => ?_)
    · have h := it_pos h p4
      exact t_X6_single_115 xs e q X hX x1 x3 x4 x5 x6 d2 (some (vI x7)) d8 d9 d10 rfl s h
    · have h := it_neg h p4
      refine r_aload_n hX (p2 := 107) rfl rfl rfl ⟨_, Or.inl rfl⟩ ?_
      refine r_gf hX (p2 := 110) (v := vR (ca 634 0)) rfl rfl (hc6 0 (by decide)) rfl rfl rfl ?_
      refine r_iload hX (p2 := 112) rfl rfl rfl ?_
      refine r_fload hX (p2 := 114) rfl rfl rfl ?_
      obtain ⟨c2, h⟩ := ck_some h
      obtain ⟨s3, hs3, h⟩ := bs_some h
      refine r_fastore hX (p2 := 115) (j := x4.toNat) rfl rfl (ha634 0 (by decide)) rfl rfl c2 rfl hs3 ?_
      exact t_X6_single_115 xs e q X hX x1 x3 x4 x5 x6 d2 (some (vI x7)) d8 d9 d10 rfl s3 h
noncomputable def f_X6_single_65 (x1 : Int) (x3 : Int) (x4 : Int) (x5 : UInt32) (x6 : UInt32) (x7 : Int) (s : pS) : Option (pS) := ck (0 ≤ x4 ∧ x4 < 24) ((if 0 ≤ (pm_fc .g (sB s 634 0 x4.toNat) x5) then f_X6_single_87 x1 x3 x4 x5 x6 x7 s else ck (0 ≤ x4 ∧ x4 < 24) (bs (wB s 634 0 (pm_up (sB s 634 0) x4.toNat x5)) (fun s3 => f_X6_single_87 x1 x3 x4 x5 x6 x7 s3))))
set_option maxRecDepth 10000 in
theorem t_X6_single_65 (xs : Nat → Int) (e : Nat) (q : pS) (X : List (Option pV) → List pV → Nat → pH → Prop) (hX : pm_clo 1001 xs (pCall pm_tx 1001 xs pm_P (e + 1)) (e + 1) mX6_single (eU q) X) : ∀  (x1 : Int) (x3 : Int) (x4 : Int) (x5 : UInt32) (x6 : UInt32) (x7 : Int) (d2 : Option pV) (d8 : Option pV) (d9 : Option pV) (d10 : Option pV) (s : pS), f_X6_single_65 x1 x3 x4 x5 x6 x7 s = some q → X [some (vR (cc 6 0)), some (vI x1), d2, some (vI x3), some (vI x4), some (vF x5), some (vF x6), some (vI x7), d8, d9, d10] [] 65 (pW s) := by
  intro x1 x3 x4 x5 x6 x7 d2 d8 d9 d10 s h
  unfold f_X6_single_65 at h
  refine r_aload_n hX (p2 := 66) rfl rfl rfl ⟨_, Or.inl rfl⟩ ?_
  refine r_gf hX (p2 := 69) (v := vR (ca 634 0)) rfl rfl (hc6 0 (by decide)) rfl rfl rfl ?_
  refine r_iload hX (p2 := 71) rfl rfl rfl ?_
  obtain ⟨c1, h⟩ := ck_some h
  refine r_faload hX (p2 := 72) (j := x4.toNat) rfl rfl (ha634 0 (by decide)) rfl rfl c1 rfl ?_
  refine r_fload hX (p2 := 74) rfl rfl rfl ?_
  refine r_fcmp hX (p2 := 75) rfl rfl ?_
  refine r_if hX (p2 := 87) (p3 := 78) (P := 0 ≤ (pm_fc .g (sB s 634 0 x4.toNat) x5)) rfl (by decide) rfl rfl (fun p4 => ?_) (fun p4 => ?_)
  · have h := it_pos h p4
    exact t_X6_single_87 xs e q X hX x1 x3 x4 x5 x6 x7 d2 d8 d9 d10 s h
  · have h := it_neg h p4
    refine r_aload_n hX (p2 := 79) rfl rfl rfl ⟨_, Or.inl rfl⟩ ?_
    refine r_gf hX (p2 := 82) (v := vR (ca 634 0)) rfl rfl (hc6 0 (by decide)) rfl rfl rfl ?_
    refine r_iload hX (p2 := 84) rfl rfl rfl ?_
    refine r_fload hX (p2 := 86) rfl rfl rfl ?_
    obtain ⟨c2, h⟩ := ck_some h
    obtain ⟨s3, hs3, h⟩ := bs_some h
    refine r_fastore hX (p2 := 87) (j := x4.toNat) rfl rfl (ha634 0 (by decide)) rfl rfl c2 rfl hs3 ?_
    exact t_X6_single_87 xs e q X hX x1 x3 x4 x5 x6 x7 d2 d8 d9 d10 s3 h
noncomputable def f_X6_single (a1 : Int) (a2 : Int) (s : pS) : Option (pS) := ck (inR (2 * a2)) (ck (inR ((2 * a2) + a1)) (ck (0 ≤ ((2 * a2) + a1) ∧ ((2 * a2) + a1) < 20) (ck (inR ((sA s 631 0 ((2 * a2) + a1).toNat) - 1)) (bs (((sA s 631 0 ((2 * a2) + a1).toNat) - 1)) (fun v5 => ck (inR (12 * a1)) (ck (inR ((12 * a1) + v5)) (bs (((12 * a1) + v5)) (fun v8 => ck (inR (2 * a2)) (ck (inR ((2 * a2) + a1)) (ck (0 ≤ ((2 * a2) + a1) ∧ ((2 * a2) + a1) < 20) (bs ((sB s 622 0 ((2 * a2) + a1).toNat)) (fun v12 => ck (inR (2 * a2)) (ck (inR ((2 * a2) + a1)) (ck (0 ≤ ((2 * a2) + a1) ∧ ((2 * a2) + a1) < 20) (bs ((sB s 623 0 ((2 * a2) + a1).toNat)) (fun v16 => (f_X6_lowOf a1 v5 s).bind (fun q17 => (if q17.1 = 1 then f_X6_single_65 a1 v5 v8 v12 v16 q17.1 q17.2 else (if q17.1 ≠ 3 then f_X6_single_87 a1 v5 v8 v12 v16 q17.1 q17.2 else f_X6_single_65 a1 v5 v8 v12 v16 q17.1 q17.2)))))))))))))))))))
set_option maxRecDepth 10000 in
theorem c_X6_single (xs : Nat → Int) (e : Nat) (a1 : Int) (a2 : Int) (s : pS) (q : pS) (h : f_X6_single a1 a2 s = some q) : pCall pm_tx 1001 xs pm_P (e + 1 + 1) 142 [vR (cc 6 0), vI a1, vI a2] (pW s) (.inl none) (pW q) := by
  refine pCall_of mX6_single rfl rfl (fun X hX => ?_)
  show X [some (vR (cc 6 0)), some (vI a1), some (vI a2), none, none, none, none, none, none, none, none] [] 0 (pW s)
  replace hX : pm_clo 1001 xs (pCall pm_tx 1001 xs pm_P (e + 1)) (e + 1) mX6_single (eU q) X := hX
  unfold f_X6_single at h
  refine r_aload_n hX (p2 := 1) rfl rfl rfl ⟨_, Or.inl rfl⟩ ?_
  refine r_gf hX (p2 := 4) (v := vR (ca 631 0)) rfl rfl (hc6 0 (by decide)) rfl rfl rfl ?_
  refine r_iconst hX (p2 := 5) rfl rfl rfl ?_
  refine r_iload_n hX (p2 := 6) rfl rfl rfl ?_
  obtain ⟨c1, h⟩ := ck_some h
  refine r_imul hX (p2 := 7) rfl rfl c1 ?_
  refine r_iload_n hX (p2 := 8) rfl rfl rfl ?_
  obtain ⟨c2, h⟩ := ck_some h
  refine r_iadd hX (p2 := 9) rfl rfl c2 ?_
  obtain ⟨c3, h⟩ := ck_some h
  refine r_iaload hX (p2 := 10) (j := ((2 * a2) + a1).toNat) rfl rfl (ha631 0 (by decide)) rfl rfl c3 rfl ?_
  refine r_iconst hX (p2 := 11) rfl rfl rfl ?_
  obtain ⟨c4, h⟩ := ck_some h
  refine r_isub hX (p2 := 12) rfl rfl c4 ?_
  obtain ⟨v5, hv5, h⟩ := bs_some h
  refine r_istoreE_n hX (p2 := 13) (ls2 := [some (vR (cc 6 0)), some (vI a1), some (vI a2), some (vI v5), none, none, none, none, none, none, none]) rfl rfl hv5 rfl rfl ?_
  refine r_bipush hX (p2 := 15) rfl rfl rfl ?_
  refine r_iload_n hX (p2 := 16) rfl rfl rfl ?_
  obtain ⟨c6, h⟩ := ck_some h
  refine r_imul hX (p2 := 17) rfl rfl c6 ?_
  refine r_iload_n hX (p2 := 18) rfl rfl rfl ?_
  obtain ⟨c7, h⟩ := ck_some h
  refine r_iadd hX (p2 := 19) rfl rfl c7 ?_
  obtain ⟨v8, hv8, h⟩ := bs_some h
  refine r_istoreE hX (p2 := 21) (ls2 := [some (vR (cc 6 0)), some (vI a1), some (vI a2), some (vI v5), some (vI v8), none, none, none, none, none, none]) rfl rfl hv8 rfl rfl ?_
  refine r_aload_n hX (p2 := 22) rfl rfl rfl ⟨_, Or.inl rfl⟩ ?_
  refine r_gf hX (p2 := 25) (v := vR (ca 622 0)) rfl rfl (hc6 0 (by decide)) rfl rfl rfl ?_
  refine r_iconst hX (p2 := 26) rfl rfl rfl ?_
  refine r_iload_n hX (p2 := 27) rfl rfl rfl ?_
  obtain ⟨c9, h⟩ := ck_some h
  refine r_imul hX (p2 := 28) rfl rfl c9 ?_
  refine r_iload_n hX (p2 := 29) rfl rfl rfl ?_
  obtain ⟨c10, h⟩ := ck_some h
  refine r_iadd hX (p2 := 30) rfl rfl c10 ?_
  obtain ⟨c11, h⟩ := ck_some h
  refine r_faload hX (p2 := 31) (j := ((2 * a2) + a1).toNat) rfl rfl (ha622 0 (by decide)) rfl rfl c11 rfl ?_
  obtain ⟨v12, hv12, h⟩ := bs_some h
  refine r_fstoreE hX (p2 := 33) (ls2 := [some (vR (cc 6 0)), some (vI a1), some (vI a2), some (vI v5), some (vI v8), some (vF v12), none, none, none, none, none]) rfl rfl hv12 rfl rfl ?_
  refine r_aload_n hX (p2 := 34) rfl rfl rfl ⟨_, Or.inl rfl⟩ ?_
  refine r_gf hX (p2 := 37) (v := vR (ca 623 0)) rfl rfl (hc6 0 (by decide)) rfl rfl rfl ?_
  refine r_iconst hX (p2 := 38) rfl rfl rfl ?_
  refine r_iload_n hX (p2 := 39) rfl rfl rfl ?_
  obtain ⟨c13, h⟩ := ck_some h
  refine r_imul hX (p2 := 40) rfl rfl c13 ?_
  refine r_iload_n hX (p2 := 41) rfl rfl rfl ?_
  obtain ⟨c14, h⟩ := ck_some h
  refine r_iadd hX (p2 := 42) rfl rfl c14 ?_
  obtain ⟨c15, h⟩ := ck_some h
  refine r_faload hX (p2 := 43) (j := ((2 * a2) + a1).toNat) rfl rfl (ha623 0 (by decide)) rfl rfl c15 rfl ?_
  obtain ⟨v16, hv16, h⟩ := bs_some h
  refine r_fstoreE hX (p2 := 45) (ls2 := [some (vR (cc 6 0)), some (vI a1), some (vI a2), some (vI v5), some (vI v8), some (vF v12), some (vF v16), none, none, none, none]) rfl rfl hv16 rfl rfl ?_
  refine r_aload_n hX (p2 := 46) rfl rfl rfl ⟨_, Or.inl rfl⟩ ?_
  refine r_iload_n hX (p2 := 47) rfl rfl rfl ?_
  refine r_iload_n hX (p2 := 48) rfl rfl rfl ?_
  obtain ⟨q17, hq17, h⟩ := bd_some h
  refine r_callv hX (p2 := 51) (v := some (vI q17.1)) (as := [vI a1, vI v5]) (r := []) (st2 := [vI q17.1]) rfl rfl rfl rfl rfl (hc6 0 (by decide)) rfl rfl (c_X6_lowOf xs e a1 v5 s q17 hq17) ?_
  refine r_istore hX (p2 := 53) (ls2 := [some (vR (cc 6 0)), some (vI a1), some (vI a2), some (vI v5), some (vI v8), some (vF v12), some (vF v16), some (vI q17.1), none, none, none]) rfl rfl rfl rfl ?_
  refine r_iload hX (p2 := 55) rfl rfl rfl ?_
  refine r_iconst hX (p2 := 56) rfl rfl rfl ?_
  refine r_icmp hX (p2 := 65) (p3 := 59) (P := q17.1 = 1) rfl (by decide) rfl rfl (fun p19 => ?_) (fun p19 => ?_)
  · have h := it_pos h p19
    exact t_X6_single_65 xs e q X hX a1 v5 v8 v12 v16 q17.1 (some (vI a2)) none none none q17.2 h
  · have h := it_neg h p19
    refine r_iload hX (p2 := 61) rfl rfl rfl ?_
    refine r_iconst hX (p2 := 62) rfl rfl rfl ?_
    refine r_icmp hX (p2 := 87) (p3 := 65) (P := q17.1 ≠ 3) rfl (by decide) rfl rfl (fun p18 => ?_) (fun p18 => ?_)
    · have h := it_pos h p18
      exact t_X6_single_87 xs e q X hX a1 v5 v8 v12 v16 q17.1 (some (vI a2)) none none none q17.2 h
    · have h := it_neg h p18
      exact t_X6_single_65 xs e q X hX a1 v5 v8 v12 v16 q17.1 (some (vI a2)) none none none q17.2 h
noncomputable def f_X6_firstOf (a1 : Int) (a2 : Int) (s : pS) : Option (Int × pS) := ck (inR (2 * a2)) (ck (inR ((2 * a2) + a1)) (ck (0 ≤ ((2 * a2) + a1) ∧ ((2 * a2) + a1) < 20) (ck (inR ((sA s 631 0 ((2 * a2) + a1).toNat) - 1)) (some (((sA s 631 0 ((2 * a2) + a1).toNat) - 1), s)))))
set_option maxRecDepth 10000 in
theorem c_X6_firstOf (xs : Nat → Int) (e : Nat) (a1 : Int) (a2 : Int) (s : pS) (q : Int × pS) (h : f_X6_firstOf a1 a2 s = some q) : pCall pm_tx 1001 xs pm_P (e + 1) 143 [vR (cc 6 0), vI a1, vI a2] (pW s) (.inl (some (vI q.1))) (pW q.2) := by
  refine pCall_of mX6_firstOf rfl rfl (fun X hX => ?_)
  show X [some (vR (cc 6 0)), some (vI a1), some (vI a2)] [] 0 (pW s)
  replace hX : pm_clo 1001 xs (pCall pm_tx 1001 xs pm_P e) e mX6_firstOf (eI q) X := hX
  unfold f_X6_firstOf at h
  refine r_aload_n hX (p2 := 1) rfl rfl rfl ⟨_, Or.inl rfl⟩ ?_
  refine r_gf hX (p2 := 4) (v := vR (ca 631 0)) rfl rfl (hc6 0 (by decide)) rfl rfl rfl ?_
  refine r_iconst hX (p2 := 5) rfl rfl rfl ?_
  refine r_iload_n hX (p2 := 6) rfl rfl rfl ?_
  obtain ⟨c1, h⟩ := ck_some h
  refine r_imul hX (p2 := 7) rfl rfl c1 ?_
  refine r_iload_n hX (p2 := 8) rfl rfl rfl ?_
  obtain ⟨c2, h⟩ := ck_some h
  refine r_iadd hX (p2 := 9) rfl rfl c2 ?_
  obtain ⟨c3, h⟩ := ck_some h
  refine r_iaload hX (p2 := 10) (j := ((2 * a2) + a1).toNat) rfl rfl (ha631 0 (by decide)) rfl rfl c3 rfl ?_
  refine r_iconst hX (p2 := 11) rfl rfl rfl ?_
  obtain ⟨c4, h⟩ := ck_some h
  refine r_isub hX (p2 := 12) rfl rfl c4 ?_
  exact r_iretI hX rfl rfl (eI_ok h)
noncomputable def f_X6_spread_103 (K30 : Int → Int → Int → Int → UInt32 → Int → Int → pS → Option (pS)) (K112 : Int → Int → Int → Int → UInt32 → Int → pS → Option (pS)) (x1 : Int) (x4 : Int) (x5 : Int) (x6 : Int) (x7 : UInt32) (x9 : Int) (y0 : Int) (y1 : Int) (s : pS) : Option (pS) := ck (inR (y0 + y1)) (bs ((y0 + y1)) (fun v2 => ck (inR (x9 + 1)) (K30 x1 x4 x5 x6 x7 v2 (x9 + 1) s)))
set_option maxRecDepth 10000 in
theorem t_X6_spread_103 (xs : Nat → Int) (e : Nat) (q : pS) (X : List (Option pV) → List pV → Nat → pH → Prop) (hX : pm_clo 1001 xs (pCall pm_tx 1001 xs pm_P (e + 1)) (e + 1) mX6_spread (eU q) X) (K30 : Int → Int → Int → Int → UInt32 → Int → Int → pS → Option (pS)) (K112 : Int → Int → Int → Int → UInt32 → Int → pS → Option (pS)) (hK30 : ∀ (x1 : Int) (x4 : Int) (x5 : Int) (x6 : Int) (x7 : UInt32) (x8 : Int) (x9 : Int) (d2 : Option pV) (d3 : Option pV) (d10 : Option pV) (d11 : Option pV) (s : pS), K30 x1 x4 x5 x6 x7 x8 x9 s = some q → X [some (vR (cc 6 0)), some (vI x1), d2, d3, some (vI x4), some (vI x5), some (vI x6), some (vF x7), some (vI x8), some (vI x9), d10, d11] [] 30 (pW s)) (hK112 : ∀ (x1 : Int) (x4 : Int) (x5 : Int) (x6 : Int) (x7 : UInt32) (x8 : Int) (d2 : Option pV) (d3 : Option pV) (d9 : Option pV) (d10 : Option pV) (d11 : Option pV) (s : pS), K112 x1 x4 x5 x6 x7 x8 s = some q → X [some (vR (cc 6 0)), some (vI x1), d2, d3, some (vI x4), some (vI x5), some (vI x6), some (vF x7), some (vI x8), d9, d10, d11] [] 112 (pW s)) : ∀  (x1 : Int) (x4 : Int) (x5 : Int) (x6 : Int) (x7 : UInt32) (x9 : Int) (y0 : Int) (y1 : Int) (d2 : Option pV) (d3 : Option pV) (d8 : Option pV) (d10 : Option pV) (d11 : Option pV) (s : pS), f_X6_spread_103 K30 K112 x1 x4 x5 x6 x7 x9 y0 y1 s = some q → X [some (vR (cc 6 0)), some (vI x1), d2, d3, some (vI x4), some (vI x5), some (vI x6), some (vF x7), d8, some (vI x9), d10, d11] [vI y1, vI y0] 103 (pW s) := by
  intro x1 x4 x5 x6 x7 x9 y0 y1 d2 d3 d8 d10 d11 s h
  unfold f_X6_spread_103 at h
  obtain ⟨c1, h⟩ := ck_some h
  refine r_iadd hX (p2 := 104) rfl rfl c1 ?_
  obtain ⟨v2, hv2, h⟩ := bs_some h
  refine r_istoreE hX (p2 := 106) (ls2 := [some (vR (cc 6 0)), some (vI x1), d2, d3, some (vI x4), some (vI x5), some (vI x6), some (vF x7), some (vI v2), some (vI x9), d10, d11]) rfl rfl hv2 rfl rfl ?_
  obtain ⟨c3, h⟩ := ck_some h
  refine r_iinc hX (p2 := 109) (ls2 := [some (vR (cc 6 0)), some (vI x1), d2, d3, some (vI x4), some (vI x5), some (vI x6), some (vF x7), some (vI v2), some (vI (x9 + 1)), d10, d11]) rfl rfl rfl rfl c3 rfl ?_
  refine r_goto hX (p2 := 30) rfl (by decide) ?_
  exact hK30 x1 x4 x5 x6 x7 v2 (x9 + 1) d2 d3 d10 d11 s h
noncomputable def f_X6_spread_83 (K30 : Int → Int → Int → Int → UInt32 → Int → Int → pS → Option (pS)) (K112 : Int → Int → Int → Int → UInt32 → Int → pS → Option (pS)) (x1 : Int) (x4 : Int) (x5 : Int) (x6 : Int) (x8 : Int) (x9 : Int) (y0 : UInt32) (y1 : UInt32) (s : pS) : Option (pS) := ck (vf_n32 (FP.fsub y0 y1)) (bs ((FP.fsub y0 y1)) (fun v2 => ck (0 ≤ x9 ∧ x9 < 12) ((if (sA s 643 0 x9.toNat) = 0 then f_X6_spread_103 K30 K112 x1 x4 x5 x6 v2 x9 x8 0 s else f_X6_spread_103 K30 K112 x1 x4 x5 x6 v2 x9 x8 1 s))))
set_option maxRecDepth 10000 in
theorem t_X6_spread_83 (xs : Nat → Int) (e : Nat) (q : pS) (X : List (Option pV) → List pV → Nat → pH → Prop) (hX : pm_clo 1001 xs (pCall pm_tx 1001 xs pm_P (e + 1)) (e + 1) mX6_spread (eU q) X) (K30 : Int → Int → Int → Int → UInt32 → Int → Int → pS → Option (pS)) (K112 : Int → Int → Int → Int → UInt32 → Int → pS → Option (pS)) (hK30 : ∀ (x1 : Int) (x4 : Int) (x5 : Int) (x6 : Int) (x7 : UInt32) (x8 : Int) (x9 : Int) (d2 : Option pV) (d3 : Option pV) (d10 : Option pV) (d11 : Option pV) (s : pS), K30 x1 x4 x5 x6 x7 x8 x9 s = some q → X [some (vR (cc 6 0)), some (vI x1), d2, d3, some (vI x4), some (vI x5), some (vI x6), some (vF x7), some (vI x8), some (vI x9), d10, d11] [] 30 (pW s)) (hK112 : ∀ (x1 : Int) (x4 : Int) (x5 : Int) (x6 : Int) (x7 : UInt32) (x8 : Int) (d2 : Option pV) (d3 : Option pV) (d9 : Option pV) (d10 : Option pV) (d11 : Option pV) (s : pS), K112 x1 x4 x5 x6 x7 x8 s = some q → X [some (vR (cc 6 0)), some (vI x1), d2, d3, some (vI x4), some (vI x5), some (vI x6), some (vF x7), some (vI x8), d9, d10, d11] [] 112 (pW s)) : ∀  (x1 : Int) (x4 : Int) (x5 : Int) (x6 : Int) (x8 : Int) (x9 : Int) (y0 : UInt32) (y1 : UInt32) (d2 : Option pV) (d3 : Option pV) (d7 : Option pV) (d10 : Option pV) (d11 : Option pV) (s : pS), f_X6_spread_83 K30 K112 x1 x4 x5 x6 x8 x9 y0 y1 s = some q → X [some (vR (cc 6 0)), some (vI x1), d2, d3, some (vI x4), some (vI x5), some (vI x6), d7, some (vI x8), some (vI x9), d10, d11] [vF y1, vF y0] 83 (pW s) := by
  intro x1 x4 x5 x6 x8 x9 y0 y1 d2 d3 d7 d10 d11 s h
  unfold f_X6_spread_83 at h
  obtain ⟨c1, h⟩ := ck_some h
  refine r_fsub hX (p2 := 84) rfl rfl c1 ?_
  obtain ⟨v2, hv2, h⟩ := bs_some h
  refine r_fstoreE hX (p2 := 86) (ls2 := [some (vR (cc 6 0)), some (vI x1), d2, d3, some (vI x4), some (vI x5), some (vI x6), some (vF v2), some (vI x8), some (vI x9), d10, d11]) rfl rfl hv2 rfl rfl ?_
  refine r_iload hX (p2 := 88) rfl rfl rfl ?_
  refine r_aload_n hX (p2 := 89) rfl rfl rfl ⟨_, Or.inl rfl⟩ ?_
  refine r_gf hX (p2 := 92) (v := vR (ca 643 0)) rfl rfl (hc6 0 (by decide)) rfl rfl rfl ?_
  refine r_iload hX (p2 := 94) rfl rfl rfl ?_
  obtain ⟨c3, h⟩ := ck_some h
  refine r_baload hX (p2 := 95) (j := x9.toNat) rfl rfl (ha643 0 (by decide)) rfl rfl c3 rfl ?_
  refine r_if hX (p2 := 102) (p3 := 98) (P := (sA s 643 0 x9.toNat) = 0) rfl (by decide) rfl rfl (fun p4 => ?_) (fun p4 => ?_)
  · have h := it_pos h p4
    refine r_iconst hX (p2 := 103) rfl rfl rfl ?_
    exact t_X6_spread_103 xs e q X hX _ _ hK30 hK112 x1 x4 x5 x6 v2 x9 x8 0 d2 d3 (some (vI x8)) d10 d11 s h
  · have h := it_neg h p4
    refine r_iconst hX (p2 := 99) rfl rfl rfl ?_
    refine r_goto hX (p2 := 103) rfl (by decide) ?_
    exact t_X6_spread_103 xs e q X hX _ _ hK30 hK112 x1 x4 x5 x6 v2 x9 x8 1 d2 d3 (some (vI x8)) d10 d11 s h
noncomputable def f_X6_spread_76 (K30 : Int → Int → Int → Int → UInt32 → Int → Int → pS → Option (pS)) (K112 : Int → Int → Int → Int → UInt32 → Int → pS → Option (pS)) (x1 : Int) (x4 : Int) (x5 : Int) (x6 : Int) (x8 : Int) (x9 : Int) (x10 : Int) (y0 : UInt32) (s : pS) : Option (pS) := ck (0 ≤ x10 ∧ x10 < 24) (f_X6_spread_83 K30 K112 x1 x4 x5 x6 x8 x9 y0 (sB s 634 0 x10.toNat) s)
set_option maxRecDepth 10000 in
theorem t_X6_spread_76 (xs : Nat → Int) (e : Nat) (q : pS) (X : List (Option pV) → List pV → Nat → pH → Prop) (hX : pm_clo 1001 xs (pCall pm_tx 1001 xs pm_P (e + 1)) (e + 1) mX6_spread (eU q) X) (K30 : Int → Int → Int → Int → UInt32 → Int → Int → pS → Option (pS)) (K112 : Int → Int → Int → Int → UInt32 → Int → pS → Option (pS)) (hK30 : ∀ (x1 : Int) (x4 : Int) (x5 : Int) (x6 : Int) (x7 : UInt32) (x8 : Int) (x9 : Int) (d2 : Option pV) (d3 : Option pV) (d10 : Option pV) (d11 : Option pV) (s : pS), K30 x1 x4 x5 x6 x7 x8 x9 s = some q → X [some (vR (cc 6 0)), some (vI x1), d2, d3, some (vI x4), some (vI x5), some (vI x6), some (vF x7), some (vI x8), some (vI x9), d10, d11] [] 30 (pW s)) (hK112 : ∀ (x1 : Int) (x4 : Int) (x5 : Int) (x6 : Int) (x7 : UInt32) (x8 : Int) (d2 : Option pV) (d3 : Option pV) (d9 : Option pV) (d10 : Option pV) (d11 : Option pV) (s : pS), K112 x1 x4 x5 x6 x7 x8 s = some q → X [some (vR (cc 6 0)), some (vI x1), d2, d3, some (vI x4), some (vI x5), some (vI x6), some (vF x7), some (vI x8), d9, d10, d11] [] 112 (pW s)) : ∀  (x1 : Int) (x4 : Int) (x5 : Int) (x6 : Int) (x8 : Int) (x9 : Int) (x10 : Int) (y0 : UInt32) (d2 : Option pV) (d3 : Option pV) (d7 : Option pV) (d11 : Option pV) (s : pS), f_X6_spread_76 K30 K112 x1 x4 x5 x6 x8 x9 x10 y0 s = some q → X [some (vR (cc 6 0)), some (vI x1), d2, d3, some (vI x4), some (vI x5), some (vI x6), d7, some (vI x8), some (vI x9), some (vI x10), d11] [vF y0] 76 (pW s) := by
  intro x1 x4 x5 x6 x8 x9 x10 y0 d2 d3 d7 d11 s h
  unfold f_X6_spread_76 at h
  refine r_aload_n hX (p2 := 77) rfl rfl rfl ⟨_, Or.inl rfl⟩ ?_
  refine r_gf hX (p2 := 80) (v := vR (ca 634 0)) rfl rfl (hc6 0 (by decide)) rfl rfl rfl ?_
  refine r_iload hX (p2 := 82) rfl rfl rfl ?_
  obtain ⟨c1, h⟩ := ck_some h
  refine r_faload hX (p2 := 83) (j := x10.toNat) rfl rfl (ha634 0 (by decide)) rfl rfl c1 rfl ?_
  exact t_X6_spread_83 xs e q X hX _ _ hK30 hK112 x1 x4 x5 x6 x8 x9 y0 (sB s 634 0 x10.toNat) d2 d3 d7 (some (vI x10)) d11 s h
noncomputable def f_X6_spread_30 (K112 : Int → Int → Int → Int → UInt32 → Int → pS → Option (pS)) : Nat → Int → Int → Int → Int → UInt32 → Int → Int → pS → Option (pS)
  | 0, _, _, _, _, _, _, _, _ => none
  | n + 1, x1, x4, x5, x6, x7, x8, x9, s => ck (inR (x5 + x6)) ((if (x5 + x6) ≤ x9 then K112 x1 x4 x5 x6 x7 x8 s else ck (inR (12 * x1)) (ck (inR ((12 * x1) + x9)) (bs (((12 * x1) + x9)) (fun v4 => (if x4 = 0 then f_X6_spread_76 (f_X6_spread_30 K112 n) K112 x1 x4 x5 x6 x8 x9 v4 x7 s else ck (0 ≤ v4 ∧ v4 < 24) ((if (sA s 636 0 v4.toNat) ≠ 0 then f_X6_spread_76 (f_X6_spread_30 K112 n) K112 x1 x4 x5 x6 x8 x9 v4 x7 s else ck (0 ≤ v4 ∧ v4 < 24) (f_X6_spread_83 (f_X6_spread_30 K112 n) K112 x1 x4 x5 x6 x8 x9 x7 (sB s 635 0 v4.toNat) s)))))))))
set_option maxRecDepth 10000 in
theorem t_X6_spread_30 (xs : Nat → Int) (e : Nat) (q : pS) (X : List (Option pV) → List pV → Nat → pH → Prop) (hX : pm_clo 1001 xs (pCall pm_tx 1001 xs pm_P (e + 1)) (e + 1) mX6_spread (eU q) X) (K112 : Int → Int → Int → Int → UInt32 → Int → pS → Option (pS)) (hK112 : ∀ (x1 : Int) (x4 : Int) (x5 : Int) (x6 : Int) (x7 : UInt32) (x8 : Int) (d2 : Option pV) (d3 : Option pV) (d9 : Option pV) (d10 : Option pV) (d11 : Option pV) (s : pS), K112 x1 x4 x5 x6 x7 x8 s = some q → X [some (vR (cc 6 0)), some (vI x1), d2, d3, some (vI x4), some (vI x5), some (vI x6), some (vF x7), some (vI x8), d9, d10, d11] [] 112 (pW s)) : ∀ (n : Nat) (x1 : Int) (x4 : Int) (x5 : Int) (x6 : Int) (x7 : UInt32) (x8 : Int) (x9 : Int) (d2 : Option pV) (d3 : Option pV) (d10 : Option pV) (d11 : Option pV) (s : pS), f_X6_spread_30 K112 n x1 x4 x5 x6 x7 x8 x9 s = some q → X [some (vR (cc 6 0)), some (vI x1), d2, d3, some (vI x4), some (vI x5), some (vI x6), some (vF x7), some (vI x8), some (vI x9), d10, d11] [] 30 (pW s) := by
  intro n
  induction n with
  | zero =>
    intro x1 x4 x5 x6 x7 x8 x9 d2 d3 d10 d11 s h
    rw [f_X6_spread_30] at h
    cases h
  | succ n ih =>
    intro x1 x4 x5 x6 x7 x8 x9 d2 d3 d10 d11 s h
    rw [f_X6_spread_30] at h
    refine r_iload hX (p2 := 32) rfl rfl rfl ?_
    refine r_iload hX (p2 := 34) rfl rfl rfl ?_
    refine r_iload hX (p2 := 36) rfl rfl rfl ?_
    obtain ⟨c1, h⟩ := ck_some h
    refine r_iadd hX (p2 := 37) rfl rfl c1 ?_
    refine r_icmp hX (p2 := 112) (p3 := 40) (P := (x5 + x6) ≤ x9) rfl (by decide) rfl rfl (fun p9 => ?_) (fun p9 => ?_)
    · have h := it_pos h p9
      exact hK112 x1 x4 x5 x6 x7 x8 d2 d3 (some (vI x9)) d10 d11 s h
    · have h := it_neg h p9
      refine r_bipush hX (p2 := 42) rfl rfl rfl ?_
      refine r_iload_n hX (p2 := 43) rfl rfl rfl ?_
      obtain ⟨c2, h⟩ := ck_some h
      refine r_imul hX (p2 := 44) rfl rfl c2 ?_
      refine r_iload hX (p2 := 46) rfl rfl rfl ?_
      obtain ⟨c3, h⟩ := ck_some h
      refine r_iadd hX (p2 := 47) rfl rfl c3 ?_
      obtain ⟨v4, hv4, h⟩ := bs_some h
      refine r_istoreE hX (p2 := 49) (ls2 := [some (vR (cc 6 0)), some (vI x1), d2, d3, some (vI x4), some (vI x5), some (vI x6), some (vF x7), some (vI x8), some (vI x9), some (vI v4), d11]) rfl rfl hv4 rfl rfl ?_
      refine r_fload hX (p2 := 51) rfl rfl rfl ?_
      refine r_iload hX (p2 := 53) rfl rfl rfl ?_
      refine r_if hX (p2 := 76) (p3 := 56) (P := x4 = 0) rfl (by decide) rfl rfl (fun p8 => ?_) (fun p8 => ?_)
      · have h := it_pos h p8
        exact t_X6_spread_76 xs e q X hX _ _ ih hK112 x1 x4 x5 x6 x8 x9 v4 x7 d2 d3 (some (vF x7)) d11 s h
      · have h := it_neg h p8
        refine r_aload_n hX (p2 := 57) rfl rfl rfl ⟨_, Or.inl rfl⟩ ?_
        refine r_gf hX (p2 := 60) (v := vR (ca 636 0)) rfl rfl (hc6 0 (by decide)) rfl rfl rfl ?_
        refine r_iload hX (p2 := 62) rfl rfl rfl ?_
        obtain ⟨c5, h⟩ := ck_some h
        refine r_baload hX (p2 := 63) (j := v4.toNat) rfl rfl (ha636 0 (by decide)) rfl rfl c5 rfl ?_
        refine r_if hX (p2 := 76) (p3 := 66) (P := (sA s 636 0 v4.toNat) ≠ 0) rfl (by decide) rfl rfl (fun p7 => ?_) (fun p7 => ?_)
        · have h := it_pos h p7
          exact t_X6_spread_76 xs e q X hX _ _ ih hK112 x1 x4 x5 x6 x8 x9 v4 x7 d2 d3 (some (vF x7)) d11 s h
        · have h := it_neg h p7
          refine r_aload_n hX (p2 := 67) rfl rfl rfl ⟨_, Or.inl rfl⟩ ?_
          refine r_gf hX (p2 := 70) (v := vR (ca 635 0)) rfl rfl (hc6 0 (by decide)) rfl rfl rfl ?_
          refine r_iload hX (p2 := 72) rfl rfl rfl ?_
          obtain ⟨c6, h⟩ := ck_some h
          refine r_faload hX (p2 := 73) (j := v4.toNat) rfl rfl (ha635 0 (by decide)) rfl rfl c6 rfl ?_
          refine r_goto hX (p2 := 83) rfl (by decide) ?_
          exact t_X6_spread_83 xs e q X hX _ _ ih hK112 x1 x4 x5 x6 x8 x9 x7 (sB s 635 0 v4.toNat) d2 d3 (some (vF x7)) (some (vI v4)) d11 s h
noncomputable def f_X6_spread_115 (K139 : Int → Int → Int → Int → UInt32 → Int → pS → Option (pS)) : Nat → Int → Int → Int → Int → UInt32 → Int → Int → pS → Option (pS)
  | 0, _, _, _, _, _, _, _, _ => none
  | n + 1, x1, x4, x5, x6, x7, x8, x9, s => (if x6 ≤ x9 then K139 x1 x4 x5 x6 x7 x8 s else ck (0 ≤ x1 ∧ x1 < 2) (ck (vf_n32 (FP.fsub x7 (sB s 627 0 x1.toNat))) (bs ((FP.fsub x7 (sB s 627 0 x1.toNat))) (fun v3 => ck (inR (x9 + 1)) (f_X6_spread_115 K139 n x1 x4 x5 x6 v3 x8 (x9 + 1) s)))))
set_option maxRecDepth 10000 in
theorem t_X6_spread_115 (xs : Nat → Int) (e : Nat) (q : pS) (X : List (Option pV) → List pV → Nat → pH → Prop) (hX : pm_clo 1001 xs (pCall pm_tx 1001 xs pm_P (e + 1)) (e + 1) mX6_spread (eU q) X) (K139 : Int → Int → Int → Int → UInt32 → Int → pS → Option (pS)) (hK139 : ∀ (x1 : Int) (x4 : Int) (x5 : Int) (x6 : Int) (x7 : UInt32) (x8 : Int) (d2 : Option pV) (d3 : Option pV) (d9 : Option pV) (d10 : Option pV) (d11 : Option pV) (s : pS), K139 x1 x4 x5 x6 x7 x8 s = some q → X [some (vR (cc 6 0)), some (vI x1), d2, d3, some (vI x4), some (vI x5), some (vI x6), some (vF x7), some (vI x8), d9, d10, d11] [] 139 (pW s)) : ∀ (n : Nat) (x1 : Int) (x4 : Int) (x5 : Int) (x6 : Int) (x7 : UInt32) (x8 : Int) (x9 : Int) (d2 : Option pV) (d3 : Option pV) (d10 : Option pV) (d11 : Option pV) (s : pS), f_X6_spread_115 K139 n x1 x4 x5 x6 x7 x8 x9 s = some q → X [some (vR (cc 6 0)), some (vI x1), d2, d3, some (vI x4), some (vI x5), some (vI x6), some (vF x7), some (vI x8), some (vI x9), d10, d11] [] 115 (pW s) := by
  intro n
  induction n with
  | zero =>
    intro x1 x4 x5 x6 x7 x8 x9 d2 d3 d10 d11 s h
    rw [f_X6_spread_115] at h
    cases h
  | succ n ih =>
    intro x1 x4 x5 x6 x7 x8 x9 d2 d3 d10 d11 s h
    rw [f_X6_spread_115] at h
    refine r_iload hX (p2 := 117) rfl rfl rfl ?_
    refine r_iload hX (p2 := 119) rfl rfl rfl ?_
    refine r_icmp hX (p2 := 139) (p3 := 122) (P := x6 ≤ x9) rfl (by decide) rfl rfl (fun p5 => ?_) (fun p5 => ?_)
    · have h := it_pos h p5
      exact hK139 x1 x4 x5 x6 x7 x8 d2 d3 (some (vI x9)) d10 d11 s h
    · have h := it_neg h p5
      refine r_fload hX (p2 := 124) rfl rfl rfl ?_
      refine r_aload_n hX (p2 := 125) rfl rfl rfl ⟨_, Or.inl rfl⟩ ?_
      refine r_gf hX (p2 := 128) (v := vR (ca 627 0)) rfl rfl (hc6 0 (by decide)) rfl rfl rfl ?_
      refine r_iload_n hX (p2 := 129) rfl rfl rfl ?_
      obtain ⟨c1, h⟩ := ck_some h
      refine r_faload hX (p2 := 130) (j := x1.toNat) rfl rfl (ha627 0 (by decide)) rfl rfl c1 rfl ?_
      obtain ⟨c2, h⟩ := ck_some h
      refine r_fsub hX (p2 := 131) rfl rfl c2 ?_
      obtain ⟨v3, hv3, h⟩ := bs_some h
      refine r_fstoreE hX (p2 := 133) (ls2 := [some (vR (cc 6 0)), some (vI x1), d2, d3, some (vI x4), some (vI x5), some (vI x6), some (vF v3), some (vI x8), some (vI x9), d10, d11]) rfl rfl hv3 rfl rfl ?_
      obtain ⟨c4, h⟩ := ck_some h
      refine r_iinc hX (p2 := 136) (ls2 := [some (vR (cc 6 0)), some (vI x1), d2, d3, some (vI x4), some (vI x5), some (vI x6), some (vF v3), some (vI x8), some (vI (x9 + 1)), d10, d11]) rfl rfl rfl rfl c4 rfl ?_
      refine r_goto hX (p2 := 115) rfl (by decide) ?_
      exact ih x1 x4 x5 x6 v3 x8 (x9 + 1) d2 d3 d10 d11 s h
noncomputable def f_X6_spread_242 (K159 : Int → Int → Int → Int → UInt32 → Int → pS → Option (pS)) (K248 : pS → Option (pS)) (x1 : Int) (x4 : Int) (x5 : Int) (x6 : Int) (x9 : UInt32) (x10 : Int) (s : pS) : Option (pS) := ck (inR (x10 + 1)) (K159 x1 x4 x5 x6 x9 (x10 + 1) s)
set_option maxRecDepth 10000 in
theorem t_X6_spread_242 (xs : Nat → Int) (e : Nat) (q : pS) (X : List (Option pV) → List pV → Nat → pH → Prop) (hX : pm_clo 1001 xs (pCall pm_tx 1001 xs pm_P (e + 1)) (e + 1) mX6_spread (eU q) X) (K159 : Int → Int → Int → Int → UInt32 → Int → pS → Option (pS)) (K248 : pS → Option (pS)) (hK159 : ∀ (x1 : Int) (x4 : Int) (x5 : Int) (x6 : Int) (x9 : UInt32) (x10 : Int) (d2 : Option pV) (d3 : Option pV) (d7 : Option pV) (d8 : Option pV) (d11 : Option pV) (s : pS), K159 x1 x4 x5 x6 x9 x10 s = some q → X [some (vR (cc 6 0)), some (vI x1), d2, d3, some (vI x4), some (vI x5), some (vI x6), d7, d8, some (vF x9), some (vI x10), d11] [] 159 (pW s)) (hK248 : ∀ (d0 : Option pV) (d1 : Option pV) (d2 : Option pV) (d3 : Option pV) (d4 : Option pV) (d5 : Option pV) (d6 : Option pV) (d7 : Option pV) (d8 : Option pV) (d9 : Option pV) (d10 : Option pV) (d11 : Option pV) (s : pS), K248 s = some q → X [d0, d1, d2, d3, d4, d5, d6, d7, d8, d9, d10, d11] [] 248 (pW s)) : ∀  (x1 : Int) (x4 : Int) (x5 : Int) (x6 : Int) (x9 : UInt32) (x10 : Int) (d2 : Option pV) (d3 : Option pV) (d7 : Option pV) (d8 : Option pV) (d11 : Option pV) (s : pS), f_X6_spread_242 K159 K248 x1 x4 x5 x6 x9 x10 s = some q → X [some (vR (cc 6 0)), some (vI x1), d2, d3, some (vI x4), some (vI x5), some (vI x6), d7, d8, some (vF x9), some (vI x10), d11] [] 242 (pW s) := by
  intro x1 x4 x5 x6 x9 x10 d2 d3 d7 d8 d11 s h
  unfold f_X6_spread_242 at h
  obtain ⟨c1, h⟩ := ck_some h
  refine r_iinc hX (p2 := 245) (ls2 := [some (vR (cc 6 0)), some (vI x1), d2, d3, some (vI x4), some (vI x5), some (vI x6), d7, d8, some (vF x9), some (vI (x10 + 1)), d11]) rfl rfl rfl rfl c1 rfl ?_
  refine r_goto hX (p2 := 159) rfl (by decide) ?_
  exact hK159 x1 x4 x5 x6 x9 (x10 + 1) d2 d3 d7 d8 d11 s h
noncomputable def f_X6_spread_210 (K159 : Int → Int → Int → Int → UInt32 → Int → pS → Option (pS)) (K248 : pS → Option (pS)) (x1 : Int) (x4 : Int) (x5 : Int) (x6 : Int) (x9 : UInt32) (x10 : Int) (x11 : Int) (s : pS) : Option (pS) := ck (0 ≤ x10 ∧ x10 < 12) ((if (sA s 643 0 x10.toNat) = 0 then f_X6_spread_242 K159 K248 x1 x4 x5 x6 x9 x10 s else (if x4 ≠ 0 then f_X6_spread_242 K159 K248 x1 x4 x5 x6 x9 x10 s else ck (0 ≤ x11 ∧ x11 < 24) (ck (vf_n32 (FP.fadd (sB s 634 0 x11.toNat) x9)) (ck (0 ≤ x11 ∧ x11 < 24) (bs (wB s 634 0 (pm_up (sB s 634 0) x11.toNat (FP.fadd (sB s 634 0 x11.toNat) x9))) (fun s5 => f_X6_spread_242 K159 K248 x1 x4 x5 x6 x9 x10 s5)))))))
set_option maxRecDepth 10000 in
theorem t_X6_spread_210 (xs : Nat → Int) (e : Nat) (q : pS) (X : List (Option pV) → List pV → Nat → pH → Prop) (hX : pm_clo 1001 xs (pCall pm_tx 1001 xs pm_P (e + 1)) (e + 1) mX6_spread (eU q) X) (K159 : Int → Int → Int → Int → UInt32 → Int → pS → Option (pS)) (K248 : pS → Option (pS)) (hK159 : ∀ (x1 : Int) (x4 : Int) (x5 : Int) (x6 : Int) (x9 : UInt32) (x10 : Int) (d2 : Option pV) (d3 : Option pV) (d7 : Option pV) (d8 : Option pV) (d11 : Option pV) (s : pS), K159 x1 x4 x5 x6 x9 x10 s = some q → X [some (vR (cc 6 0)), some (vI x1), d2, d3, some (vI x4), some (vI x5), some (vI x6), d7, d8, some (vF x9), some (vI x10), d11] [] 159 (pW s)) (hK248 : ∀ (d0 : Option pV) (d1 : Option pV) (d2 : Option pV) (d3 : Option pV) (d4 : Option pV) (d5 : Option pV) (d6 : Option pV) (d7 : Option pV) (d8 : Option pV) (d9 : Option pV) (d10 : Option pV) (d11 : Option pV) (s : pS), K248 s = some q → X [d0, d1, d2, d3, d4, d5, d6, d7, d8, d9, d10, d11] [] 248 (pW s)) : ∀  (x1 : Int) (x4 : Int) (x5 : Int) (x6 : Int) (x9 : UInt32) (x10 : Int) (x11 : Int) (d2 : Option pV) (d3 : Option pV) (d7 : Option pV) (d8 : Option pV) (s : pS), f_X6_spread_210 K159 K248 x1 x4 x5 x6 x9 x10 x11 s = some q → X [some (vR (cc 6 0)), some (vI x1), d2, d3, some (vI x4), some (vI x5), some (vI x6), d7, d8, some (vF x9), some (vI x10), some (vI x11)] [] 210 (pW s) := by
  intro x1 x4 x5 x6 x9 x10 x11 d2 d3 d7 d8 s h
  unfold f_X6_spread_210 at h
  refine r_aload_n hX (p2 := 211) rfl rfl rfl ⟨_, Or.inl rfl⟩ ?_
  refine r_gf hX (p2 := 214) (v := vR (ca 643 0)) rfl rfl (hc6 0 (by decide)) rfl rfl rfl ?_
  refine r_iload hX (p2 := 216) rfl rfl rfl ?_
  obtain ⟨c1, h⟩ := ck_some h
  refine r_baload hX (p2 := 217) (j := x10.toNat) rfl rfl (ha643 0 (by decide)) rfl rfl c1 rfl ?_
  refine r_if hX (p2 := 242) (p3 := 220) (P := (sA s 643 0 x10.toNat) = 0) rfl (by decide) rfl rfl (fun p7 => ?_) (fun p7 => ?_)
  · have h := it_pos h p7
    exact t_X6_spread_242 xs e q X hX _ _ hK159 hK248 x1 x4 x5 x6 x9 x10 d2 d3 d7 d8 (some (vI x11)) s h
  · have h := it_neg h p7
    refine r_iload hX (p2 := 222) rfl rfl rfl ?_
    refine r_if hX (p2 := 242) (p3 := 225) (P := x4 ≠ 0) rfl (by decide) rfl rfl (fun p6 => ?_) (fun p6 => ?_)
    · have h := it_pos h p6
      exact t_X6_spread_242 xs e q X hX _ _ hK159 hK248 x1 x4 x5 x6 x9 x10 d2 d3 d7 d8 (some (vI x11)) s h
    · have h := it_neg h p6
      refine r_aload_n hX (p2 := 226) rfl rfl rfl ⟨_, Or.inl rfl⟩ ?_
      refine r_gf hX (p2 := 229) (v := vR (ca 634 0)) rfl rfl (hc6 0 (by decide)) rfl rfl rfl ?_
      refine r_iload hX (p2 := 231) rfl rfl rfl ?_
      refine r_aload_n hX (p2 := 232) rfl rfl rfl ⟨_, Or.inl rfl⟩ ?_
      refine r_gf hX (p2 := 235) (v := vR (ca 634 0)) rfl rfl (hc6 0 (by decide)) rfl rfl rfl ?_
      refine r_iload hX (p2 := 237) rfl rfl rfl ?_
      obtain ⟨c2, h⟩ := ck_some h
      refine r_faload hX (p2 := 238) (j := x11.toNat) rfl rfl (ha634 0 (by decide)) rfl rfl c2 rfl ?_
      refine r_fload hX (p2 := 240) rfl rfl rfl ?_
      obtain ⟨c3, h⟩ := ck_some h
      refine r_fadd hX (p2 := 241) rfl rfl c3 ?_
      obtain ⟨c4, h⟩ := ck_some h
      obtain ⟨s5, hs5, h⟩ := bs_some h
      refine r_fastore hX (p2 := 242) (j := x11.toNat) rfl rfl (ha634 0 (by decide)) rfl rfl c4 rfl hs5 ?_
      exact t_X6_spread_242 xs e q X hX _ _ hK159 hK248 x1 x4 x5 x6 x9 x10 d2 d3 d7 d8 (some (vI x11)) s5 h
noncomputable def f_X6_spread_159 (K248 : pS → Option (pS)) : Nat → Int → Int → Int → Int → UInt32 → Int → pS → Option (pS)
  | 0, _, _, _, _, _, _, _ => none
  | n + 1, x1, x4, x5, x6, x9, x10, s => ck (inR (x5 + x6)) ((if (x5 + x6) ≤ x10 then K248 s else ck (inR (12 * x1)) (ck (inR ((12 * x1) + x10)) (bs (((12 * x1) + x10)) (fun v4 => ck (0 ≤ x10 ∧ x10 < 12) ((if (sA s 643 0 x10.toNat) = 0 then f_X6_spread_210 (f_X6_spread_159 K248 n) K248 x1 x4 x5 x6 x9 x10 v4 s else (if x4 = 0 then f_X6_spread_210 (f_X6_spread_159 K248 n) K248 x1 x4 x5 x6 x9 x10 v4 s else ck (0 ≤ v4 ∧ v4 < 24) (ck (vf_n32 (FP.fadd (sB s 635 0 v4.toNat) x9)) (ck (0 ≤ v4 ∧ v4 < 24) (bs (wB s 635 0 (pm_up (sB s 635 0) v4.toNat (FP.fadd (sB s 635 0 v4.toNat) x9))) (fun s9 => f_X6_spread_210 (f_X6_spread_159 K248 n) K248 x1 x4 x5 x6 x9 x10 v4 s9))))))))))))
set_option maxRecDepth 10000 in
theorem t_X6_spread_159 (xs : Nat → Int) (e : Nat) (q : pS) (X : List (Option pV) → List pV → Nat → pH → Prop) (hX : pm_clo 1001 xs (pCall pm_tx 1001 xs pm_P (e + 1)) (e + 1) mX6_spread (eU q) X) (K248 : pS → Option (pS)) (hK248 : ∀ (d0 : Option pV) (d1 : Option pV) (d2 : Option pV) (d3 : Option pV) (d4 : Option pV) (d5 : Option pV) (d6 : Option pV) (d7 : Option pV) (d8 : Option pV) (d9 : Option pV) (d10 : Option pV) (d11 : Option pV) (s : pS), K248 s = some q → X [d0, d1, d2, d3, d4, d5, d6, d7, d8, d9, d10, d11] [] 248 (pW s)) : ∀ (n : Nat) (x1 : Int) (x4 : Int) (x5 : Int) (x6 : Int) (x9 : UInt32) (x10 : Int) (d2 : Option pV) (d3 : Option pV) (d7 : Option pV) (d8 : Option pV) (d11 : Option pV) (s : pS), f_X6_spread_159 K248 n x1 x4 x5 x6 x9 x10 s = some q → X [some (vR (cc 6 0)), some (vI x1), d2, d3, some (vI x4), some (vI x5), some (vI x6), d7, d8, some (vF x9), some (vI x10), d11] [] 159 (pW s) := by
  intro n
  induction n with
  | zero =>
    intro x1 x4 x5 x6 x9 x10 d2 d3 d7 d8 d11 s h
    rw [f_X6_spread_159] at h
    cases h
  | succ n ih =>
    intro x1 x4 x5 x6 x9 x10 d2 d3 d7 d8 d11 s h
    rw [f_X6_spread_159] at h
    refine r_iload hX (p2 := 161) rfl rfl rfl ?_
    refine r_iload hX (p2 := 163) rfl rfl rfl ?_
    refine r_iload hX (p2 := 165) rfl rfl rfl ?_
    obtain ⟨c1, h⟩ := ck_some h
    refine r_iadd hX (p2 := 166) rfl rfl c1 ?_
    refine r_icmp hX (p2 := 248) (p3 := 169) (P := (x5 + x6) ≤ x10) rfl (by decide) rfl rfl (fun p12 => ?_) (fun p12 => ?_)
    · have h := it_pos h p12
      exact hK248 (some (vR (cc 6 0))) (some (vI x1)) d2 d3 (some (vI x4)) (some (vI x5)) (some (vI x6)) d7 d8 (some (vF x9)) (some (vI x10)) d11 s h
    · have h := it_neg h p12
      refine r_bipush hX (p2 := 171) rfl rfl rfl ?_
      refine r_iload_n hX (p2 := 172) rfl rfl rfl ?_
      obtain ⟨c2, h⟩ := ck_some h
      refine r_imul hX (p2 := 173) rfl rfl c2 ?_
      refine r_iload hX (p2 := 175) rfl rfl rfl ?_
      obtain ⟨c3, h⟩ := ck_some h
      refine r_iadd hX (p2 := 176) rfl rfl c3 ?_
      obtain ⟨v4, hv4, h⟩ := bs_some h
      refine r_istoreE hX (p2 := 178) (ls2 := [some (vR (cc 6 0)), some (vI x1), d2, d3, some (vI x4), some (vI x5), some (vI x6), d7, d8, some (vF x9), some (vI x10), some (vI v4)]) rfl rfl hv4 rfl rfl ?_
      refine r_aload_n hX (p2 := 179) rfl rfl rfl ⟨_, Or.inl rfl⟩ ?_
      refine r_gf hX (p2 := 182) (v := vR (ca 643 0)) rfl rfl (hc6 0 (by decide)) rfl rfl rfl ?_
      refine r_iload hX (p2 := 184) rfl rfl rfl ?_
      obtain ⟨c5, h⟩ := ck_some h
      refine r_baload hX (p2 := 185) (j := x10.toNat) rfl rfl (ha643 0 (by decide)) rfl rfl c5 rfl ?_
      refine r_if hX (p2 := 210) (p3 := 188) (P := (sA s 643 0 x10.toNat) = 0) rfl (by decide) rfl rfl (fun p11 => ?_) (fun p11 => ?_)
      · have h := it_pos h p11
        exact t_X6_spread_210 xs e q X hX _ _ ih hK248 x1 x4 x5 x6 x9 x10 v4 d2 d3 d7 d8 s h
      · have h := it_neg h p11
        refine r_iload hX (p2 := 190) rfl rfl rfl ?_
        refine r_if hX (p2 := 210) (p3 := 193) (P := x4 = 0) rfl (by decide) rfl rfl (fun p10 => ?_) (fun p10 => ?_)
        · have h := it_pos h p10
          exact t_X6_spread_210 xs e q X hX _ _ ih hK248 x1 x4 x5 x6 x9 x10 v4 d2 d3 d7 d8 s h
        · have h := it_neg h p10
          refine r_aload_n hX (p2 := 194) rfl rfl rfl ⟨_, Or.inl rfl⟩ ?_
          refine r_gf hX (p2 := 197) (v := vR (ca 635 0)) rfl rfl (hc6 0 (by decide)) rfl rfl rfl ?_
          refine r_iload hX (p2 := 199) rfl rfl rfl ?_
          refine r_aload_n hX (p2 := 200) rfl rfl rfl ⟨_, Or.inl rfl⟩ ?_
          refine r_gf hX (p2 := 203) (v := vR (ca 635 0)) rfl rfl (hc6 0 (by decide)) rfl rfl rfl ?_
          refine r_iload hX (p2 := 205) rfl rfl rfl ?_
          obtain ⟨c6, h⟩ := ck_some h
          refine r_faload hX (p2 := 206) (j := v4.toNat) rfl rfl (ha635 0 (by decide)) rfl rfl c6 rfl ?_
          refine r_fload hX (p2 := 208) rfl rfl rfl ?_
          obtain ⟨c7, h⟩ := ck_some h
          refine r_fadd hX (p2 := 209) rfl rfl c7 ?_
          obtain ⟨c8, h⟩ := ck_some h
          obtain ⟨s9, hs9, h⟩ := bs_some h
          refine r_fastore hX (p2 := 210) (j := v4.toNat) rfl rfl (ha635 0 (by decide)) rfl rfl c8 rfl hs9 ?_
          exact t_X6_spread_210 xs e q X hX _ _ ih hK248 x1 x4 x5 x6 x9 x10 v4 d2 d3 d7 d8 s9 h
noncomputable def f_X6_spread (a1 : Int) (a2 : Int) (a3 : UInt32) (a4 : Int) (s : pS) : Option (pS) := (f_X6_firstOf a1 a2 s).bind (fun q1 => ck (inR (2 * a2)) (ck (inR ((2 * a2) + a1)) (ck (0 ≤ ((2 * a2) + a1) ∧ ((2 * a2) + a1) < 20) (bs ((sA q1.2 621 0 ((2 * a2) + a1).toNat)) (fun v5 => f_X6_spread_30 (fun x1 x4 x5 x6 x7 x8 s6 => f_X6_spread_115 (fun x1 x4 x5 x6 x7 x8 s7 => (if 0 < (pm_fc .l x7 FP.fconst0) then ck (vf_n32 (FP.fdiv x7 (FP.i2f (Int32.ofInt x8)))) (bs ((FP.fdiv x7 (FP.i2f (Int32.ofInt x8)))) (fun v9 => f_X6_spread_159 (fun s10 => some s10) 400 x1 x4 x5 x6 v9 x5 s7)) else some s7)) 400 x1 x4 x5 x6 x7 x8 1 s6) 400 a1 a4 q1.1 v5 a3 0 q1.1 q1.2)))))
set_option maxRecDepth 10000 in
theorem c_X6_spread (xs : Nat → Int) (e : Nat) (a1 : Int) (a2 : Int) (a3 : UInt32) (a4 : Int) (s : pS) (q : pS) (h : f_X6_spread a1 a2 a3 a4 s = some q) : pCall pm_tx 1001 xs pm_P (e + 1 + 1) 144 [vR (cc 6 0), vI a1, vI a2, vF a3, vI a4] (pW s) (.inl none) (pW q) := by
  refine pCall_of mX6_spread rfl rfl (fun X hX => ?_)
  show X [some (vR (cc 6 0)), some (vI a1), some (vI a2), some (vF a3), some (vI a4), none, none, none, none, none, none, none] [] 0 (pW s)
  replace hX : pm_clo 1001 xs (pCall pm_tx 1001 xs pm_P (e + 1)) (e + 1) mX6_spread (eU q) X := hX
  unfold f_X6_spread at h
  refine r_aload_n hX (p2 := 1) rfl rfl rfl ⟨_, Or.inl rfl⟩ ?_
  refine r_iload_n hX (p2 := 2) rfl rfl rfl ?_
  refine r_iload_n hX (p2 := 3) rfl rfl rfl ?_
  obtain ⟨q1, hq1, h⟩ := bd_some h
  refine r_callv hX (p2 := 6) (v := some (vI q1.1)) (as := [vI a1, vI a2]) (r := []) (st2 := [vI q1.1]) rfl rfl rfl rfl rfl (hc6 0 (by decide)) rfl rfl (c_X6_firstOf xs e a1 a2 s q1 hq1) ?_
  refine r_istore hX (p2 := 8) (ls2 := [some (vR (cc 6 0)), some (vI a1), some (vI a2), some (vF a3), some (vI a4), some (vI q1.1), none, none, none, none, none, none]) rfl rfl rfl rfl ?_
  refine r_aload_n hX (p2 := 9) rfl rfl rfl ⟨_, Or.inl rfl⟩ ?_
  refine r_gf hX (p2 := 12) (v := vR (ca 621 0)) rfl rfl (hc6 0 (by decide)) rfl rfl rfl ?_
  refine r_iconst hX (p2 := 13) rfl rfl rfl ?_
  refine r_iload_n hX (p2 := 14) rfl rfl rfl ?_
  obtain ⟨c2, h⟩ := ck_some h
  refine r_imul hX (p2 := 15) rfl rfl c2 ?_
  refine r_iload_n hX (p2 := 16) rfl rfl rfl ?_
  obtain ⟨c3, h⟩ := ck_some h
  refine r_iadd hX (p2 := 17) rfl rfl c3 ?_
  obtain ⟨c4, h⟩ := ck_some h
  refine r_iaload hX (p2 := 18) (j := ((2 * a2) + a1).toNat) rfl rfl (ha621 0 (by decide)) rfl rfl c4 rfl ?_
  obtain ⟨v5, hv5, h⟩ := bs_some h
  refine r_istoreE hX (p2 := 20) (ls2 := [some (vR (cc 6 0)), some (vI a1), some (vI a2), some (vF a3), some (vI a4), some (vI q1.1), some (vI v5), none, none, none, none, none]) rfl rfl hv5 rfl rfl ?_
  refine r_fload_n hX (p2 := 21) rfl rfl rfl ?_
  refine r_fstore hX (p2 := 23) (ls2 := [some (vR (cc 6 0)), some (vI a1), some (vI a2), some (vF a3), some (vI a4), some (vI q1.1), some (vI v5), some (vF a3), none, none, none, none]) rfl rfl rfl rfl ?_
  refine r_iconst hX (p2 := 24) rfl rfl rfl ?_
  refine r_istore hX (p2 := 26) (ls2 := [some (vR (cc 6 0)), some (vI a1), some (vI a2), some (vF a3), some (vI a4), some (vI q1.1), some (vI v5), some (vF a3), some (vI 0), none, none, none]) rfl rfl rfl rfl ?_
  refine r_iload hX (p2 := 28) rfl rfl rfl ?_
  refine r_istore hX (p2 := 30) (ls2 := [some (vR (cc 6 0)), some (vI a1), some (vI a2), some (vF a3), some (vI a4), some (vI q1.1), some (vI v5), some (vF a3), some (vI 0), some (vI q1.1), none, none]) rfl rfl rfl rfl ?_
  refine t_X6_spread_30 xs e q X hX _ (fun x1 x4 x5 x6 x7 x8 d2 d3 d9 d10 d11 s6 h => ?_) 400 a1 a4 q1.1 v5 a3 0 q1.1 (some (vI a2)) (some (vF a3)) none none q1.2 h
  refine r_iconst hX (p2 := 113) rfl rfl rfl ?_
  refine r_istore hX (p2 := 115) (ls2 := [some (vR (cc 6 0)), some (vI x1), d2, d3, some (vI x4), some (vI x5), some (vI x6), some (vF x7), some (vI x8), some (vI 1), d10, d11]) rfl rfl rfl rfl ?_
  refine t_X6_spread_115 xs e q X hX _ (fun x1 x4 x5 x6 x7 x8 d2 d3 d9 d10 d11 s7 h => ?_) 400 x1 x4 x5 x6 x7 x8 1 d2 d3 d10 d11 s6 h
  refine r_fload hX (p2 := 141) rfl rfl rfl ?_
  refine r_fconst0 hX (p2 := 142) rfl rfl ?_
  refine r_fcmp hX (p2 := 143) rfl rfl ?_
  refine r_if hX (p2 := 147) (p3 := 146) (P := 0 < (pm_fc .l x7 FP.fconst0)) rfl (by decide) rfl rfl (fun p11 => ?_) (fun p11 => ?_)
  · have h := it_pos h p11
    refine r_fload hX (p2 := 149) rfl rfl rfl ?_
    refine r_iload hX (p2 := 151) rfl rfl rfl ?_
    refine r_i2f hX (p2 := 152) rfl rfl ?_
    obtain ⟨c8, h⟩ := ck_some h
    refine r_fdiv hX (p2 := 153) rfl rfl c8 ?_
    obtain ⟨v9, hv9, h⟩ := bs_some h
    refine r_fstoreE hX (p2 := 155) (ls2 := [some (vR (cc 6 0)), some (vI x1), d2, d3, some (vI x4), some (vI x5), some (vI x6), some (vF x7), some (vI x8), some (vF v9), d10, d11]) rfl rfl hv9 rfl rfl ?_
    refine r_iload hX (p2 := 157) rfl rfl rfl ?_
    refine r_istore hX (p2 := 159) (ls2 := [some (vR (cc 6 0)), some (vI x1), d2, d3, some (vI x4), some (vI x5), some (vI x6), some (vF x7), some (vI x8), some (vF v9), some (vI x5), d11]) rfl rfl rfl rfl ?_
    refine t_X6_spread_159 xs e q X hX _ (fun d0 d1 d2 d3 d4 d5 d6 d7 d8 d9 d10 d11 s10 h => ?_) 400 x1 x4 x5 x6 v9 x5 d2 d3 (some (vF x7)) (some (vI x8)) d11 s7 h
    exact r_return hX rfl rfl (eU_ok h)
  · have h := it_neg h p11
    exact r_return hX rfl rfl (eU_ok h)
noncomputable def f_X6_needy_83 (K13 : Int → Int → Int → Int → Int → pS → Option (pS)) (K91 : Int → Int → Int → Int → pS → Option (pS)) (x1 : Int) (x2 : Int) (x3 : Int) (x5 : Int) (y0 : Int) (s : pS) : Option (pS) := ck (inR (x5 + 1)) (K13 x1 x2 x3 y0 (x5 + 1) s)
set_option maxRecDepth 10000 in
theorem t_X6_needy_83 (xs : Nat → Int) (e : Nat) (q : pS) (X : List (Option pV) → List pV → Nat → pH → Prop) (hX : pm_clo 1001 xs (pCall pm_tx 1001 xs pm_P (e + 2)) (e + 2) mX6_needy (eU q) X) (K13 : Int → Int → Int → Int → Int → pS → Option (pS)) (K91 : Int → Int → Int → Int → pS → Option (pS)) (hK13 : ∀ (x1 : Int) (x2 : Int) (x3 : Int) (x4 : Int) (x5 : Int) (s : pS), K13 x1 x2 x3 x4 x5 s = some q → X [some (vR (cc 6 0)), some (vI x1), some (vI x2), some (vI x3), some (vI x4), some (vI x5)] [] 13 (pW s)) (hK91 : ∀ (x1 : Int) (x2 : Int) (x3 : Int) (x4 : Int) (d5 : Option pV) (s : pS), K91 x1 x2 x3 x4 s = some q → X [some (vR (cc 6 0)), some (vI x1), some (vI x2), some (vI x3), some (vI x4), d5] [] 91 (pW s)) : ∀  (x1 : Int) (x2 : Int) (x3 : Int) (x5 : Int) (y0 : Int) (d4 : Option pV) (s : pS), f_X6_needy_83 K13 K91 x1 x2 x3 x5 y0 s = some q → X [some (vR (cc 6 0)), some (vI x1), some (vI x2), some (vI x3), d4, some (vI x5)] [vI y0] 83 (pW s) := by
  intro x1 x2 x3 x5 y0 d4 s h
  unfold f_X6_needy_83 at h
  refine r_istore hX (p2 := 85) (ls2 := [some (vR (cc 6 0)), some (vI x1), some (vI x2), some (vI x3), some (vI y0), some (vI x5)]) rfl rfl rfl rfl ?_
  obtain ⟨c1, h⟩ := ck_some h
  refine r_iinc hX (p2 := 88) (ls2 := [some (vR (cc 6 0)), some (vI x1), some (vI x2), some (vI x3), some (vI y0), some (vI (x5 + 1))]) rfl rfl rfl rfl c1 rfl ?_
  refine r_goto hX (p2 := 13) rfl (by decide) ?_
  exact hK13 x1 x2 x3 y0 (x5 + 1) s h
noncomputable def f_X6_needy_78 (K13 : Int → Int → Int → Int → Int → pS → Option (pS)) (K91 : Int → Int → Int → Int → pS → Option (pS)) (x1 : Int) (x2 : Int) (x3 : Int) (x5 : Int) (s : pS) : Option (pS) := f_X6_needy_83 K13 K91 x1 x2 x3 x5 1 s
set_option maxRecDepth 10000 in
theorem t_X6_needy_78 (xs : Nat → Int) (e : Nat) (q : pS) (X : List (Option pV) → List pV → Nat → pH → Prop) (hX : pm_clo 1001 xs (pCall pm_tx 1001 xs pm_P (e + 2)) (e + 2) mX6_needy (eU q) X) (K13 : Int → Int → Int → Int → Int → pS → Option (pS)) (K91 : Int → Int → Int → Int → pS → Option (pS)) (hK13 : ∀ (x1 : Int) (x2 : Int) (x3 : Int) (x4 : Int) (x5 : Int) (s : pS), K13 x1 x2 x3 x4 x5 s = some q → X [some (vR (cc 6 0)), some (vI x1), some (vI x2), some (vI x3), some (vI x4), some (vI x5)] [] 13 (pW s)) (hK91 : ∀ (x1 : Int) (x2 : Int) (x3 : Int) (x4 : Int) (d5 : Option pV) (s : pS), K91 x1 x2 x3 x4 s = some q → X [some (vR (cc 6 0)), some (vI x1), some (vI x2), some (vI x3), some (vI x4), d5] [] 91 (pW s)) : ∀  (x1 : Int) (x2 : Int) (x3 : Int) (x5 : Int) (d4 : Option pV) (s : pS), f_X6_needy_78 K13 K91 x1 x2 x3 x5 s = some q → X [some (vR (cc 6 0)), some (vI x1), some (vI x2), some (vI x3), d4, some (vI x5)] [] 78 (pW s) := by
  intro x1 x2 x3 x5 d4 s h
  unfold f_X6_needy_78 at h
  refine r_iconst hX (p2 := 79) rfl rfl rfl ?_
  refine r_goto hX (p2 := 83) rfl (by decide) ?_
  exact t_X6_needy_83 xs e q X hX _ _ hK13 hK91 x1 x2 x3 x5 1 d4 s h
noncomputable def f_X6_needy_62 (K13 : Int → Int → Int → Int → Int → pS → Option (pS)) (K91 : Int → Int → Int → Int → pS → Option (pS)) (x1 : Int) (x2 : Int) (x3 : Int) (x4 : Int) (x5 : Int) (y1 : Int) (y2 : Int) (s : pS) : Option (pS) := ck (0 ≤ y1 ∧ y1 < 12) (ck (y2 = 0 ∨ y2 = 1) (bs (wA s 643 0 (pm_up (sA s 643 0) y1.toNat y2)) (fun s3 => (if x4 ≠ 0 then f_X6_needy_78 K13 K91 x1 x2 x3 x5 s3 else ck (0 ≤ x5 ∧ x5 < 12) ((if (sA s3 643 0 x5.toNat) = 0 then f_X6_needy_83 K13 K91 x1 x2 x3 x5 0 s3 else f_X6_needy_78 K13 K91 x1 x2 x3 x5 s3))))))
set_option maxRecDepth 10000 in
theorem t_X6_needy_62 (xs : Nat → Int) (e : Nat) (q : pS) (X : List (Option pV) → List pV → Nat → pH → Prop) (hX : pm_clo 1001 xs (pCall pm_tx 1001 xs pm_P (e + 2)) (e + 2) mX6_needy (eU q) X) (K13 : Int → Int → Int → Int → Int → pS → Option (pS)) (K91 : Int → Int → Int → Int → pS → Option (pS)) (hK13 : ∀ (x1 : Int) (x2 : Int) (x3 : Int) (x4 : Int) (x5 : Int) (s : pS), K13 x1 x2 x3 x4 x5 s = some q → X [some (vR (cc 6 0)), some (vI x1), some (vI x2), some (vI x3), some (vI x4), some (vI x5)] [] 13 (pW s)) (hK91 : ∀ (x1 : Int) (x2 : Int) (x3 : Int) (x4 : Int) (d5 : Option pV) (s : pS), K91 x1 x2 x3 x4 s = some q → X [some (vR (cc 6 0)), some (vI x1), some (vI x2), some (vI x3), some (vI x4), d5] [] 91 (pW s)) : ∀  (x1 : Int) (x2 : Int) (x3 : Int) (x4 : Int) (x5 : Int) (y1 : Int) (y2 : Int) (s : pS), f_X6_needy_62 K13 K91 x1 x2 x3 x4 x5 y1 y2 s = some q → X [some (vR (cc 6 0)), some (vI x1), some (vI x2), some (vI x3), some (vI x4), some (vI x5)] [vI y2, vI y1, vR (ca 643 0)] 62 (pW s) := by
  intro x1 x2 x3 x4 x5 y1 y2 s h
  unfold f_X6_needy_62 at h
  obtain ⟨c1, h⟩ := ck_some h
  obtain ⟨c2, h⟩ := ck_some h
  obtain ⟨s3, hs3, h⟩ := bs_some h
  refine r_bastore hX (p2 := 63) (j := y1.toNat) rfl rfl (ha643 0 (by decide)) rfl rfl c1 rfl c2 hs3 ?_
  refine r_iload hX (p2 := 65) rfl rfl rfl ?_
  refine r_if hX (p2 := 78) (p3 := 68) (P := x4 ≠ 0) rfl (by decide) rfl rfl (fun p6 => ?_) (fun p6 => ?_)
  · have h := it_pos h p6
    exact t_X6_needy_78 xs e q X hX _ _ hK13 hK91 x1 x2 x3 x5 (some (vI x4)) s3 h
  · have h := it_neg h p6
    refine r_aload_n hX (p2 := 69) rfl rfl rfl ⟨_, Or.inl rfl⟩ ?_
    refine r_gf hX (p2 := 72) (v := vR (ca 643 0)) rfl rfl (hc6 0 (by decide)) rfl rfl rfl ?_
    refine r_iload hX (p2 := 74) rfl rfl rfl ?_
    obtain ⟨c4, h⟩ := ck_some h
    refine r_baload hX (p2 := 75) (j := x5.toNat) rfl rfl (ha643 0 (by decide)) rfl rfl c4 rfl ?_
    refine r_if hX (p2 := 82) (p3 := 78) (P := (sA s3 643 0 x5.toNat) = 0) rfl (by decide) rfl rfl (fun p5 => ?_) (fun p5 => ?_)
    · have h := it_pos h p5
      refine r_iconst hX (p2 := 83) rfl rfl rfl ?_
      exact t_X6_needy_83 xs e q X hX _ _ hK13 hK91 x1 x2 x3 x5 0 (some (vI x4)) s3 h
    · have h := it_neg h p5
      exact t_X6_needy_78 xs e q X hX _ _ hK13 hK91 x1 x2 x3 x5 (some (vI x4)) s3 h
noncomputable def f_X6_needy_61 (K13 : Int → Int → Int → Int → Int → pS → Option (pS)) (K91 : Int → Int → Int → Int → pS → Option (pS)) (x1 : Int) (x2 : Int) (x3 : Int) (x4 : Int) (x5 : Int) (y1 : Int) (s : pS) : Option (pS) := f_X6_needy_62 K13 K91 x1 x2 x3 x4 x5 y1 0 s
set_option maxRecDepth 10000 in
theorem t_X6_needy_61 (xs : Nat → Int) (e : Nat) (q : pS) (X : List (Option pV) → List pV → Nat → pH → Prop) (hX : pm_clo 1001 xs (pCall pm_tx 1001 xs pm_P (e + 2)) (e + 2) mX6_needy (eU q) X) (K13 : Int → Int → Int → Int → Int → pS → Option (pS)) (K91 : Int → Int → Int → Int → pS → Option (pS)) (hK13 : ∀ (x1 : Int) (x2 : Int) (x3 : Int) (x4 : Int) (x5 : Int) (s : pS), K13 x1 x2 x3 x4 x5 s = some q → X [some (vR (cc 6 0)), some (vI x1), some (vI x2), some (vI x3), some (vI x4), some (vI x5)] [] 13 (pW s)) (hK91 : ∀ (x1 : Int) (x2 : Int) (x3 : Int) (x4 : Int) (d5 : Option pV) (s : pS), K91 x1 x2 x3 x4 s = some q → X [some (vR (cc 6 0)), some (vI x1), some (vI x2), some (vI x3), some (vI x4), d5] [] 91 (pW s)) : ∀  (x1 : Int) (x2 : Int) (x3 : Int) (x4 : Int) (x5 : Int) (y1 : Int) (s : pS), f_X6_needy_61 K13 K91 x1 x2 x3 x4 x5 y1 s = some q → X [some (vR (cc 6 0)), some (vI x1), some (vI x2), some (vI x3), some (vI x4), some (vI x5)] [vI y1, vR (ca 643 0)] 61 (pW s) := by
  intro x1 x2 x3 x4 x5 y1 s h
  unfold f_X6_needy_61 at h
  refine r_iconst hX (p2 := 62) rfl rfl rfl ?_
  exact t_X6_needy_62 xs e q X hX _ _ hK13 hK91 x1 x2 x3 x4 x5 y1 0 s h
noncomputable def f_X6_needy_13 (K91 : Int → Int → Int → Int → pS → Option (pS)) : Nat → Int → Int → Int → Int → Int → pS → Option (pS)
  | 0, _, _, _, _, _, _ => none
  | n + 1, x1, x2, x3, x4, x5, s => ck (inR (2 * x2)) (ck (inR ((2 * x2) + x1)) (ck (0 ≤ ((2 * x2) + x1) ∧ ((2 * x2) + x1) < 20) (ck (inR (x3 + (sA s 621 0 ((2 * x2) + x1).toNat))) ((if (x3 + (sA s 621 0 ((2 * x2) + x1).toNat)) ≤ x5 then K91 x1 x2 x3 x4 s else (f_X6_lowOf x1 x5 s).bind (fun q5 => (if q5.1 = 0 then f_X6_needy_61 (f_X6_needy_13 K91 n) K91 x1 x2 x3 x4 x5 x5 q5.2 else (f_X6_highOf x1 x5 q5.2).bind (fun q6 => (if q6.1 = 4 then f_X6_needy_61 (f_X6_needy_13 K91 n) K91 x1 x2 x3 x4 x5 x5 q6.2 else f_X6_needy_62 (f_X6_needy_13 K91 n) K91 x1 x2 x3 x4 x5 x5 1 q6.2)))))))))
set_option maxRecDepth 10000 in
theorem t_X6_needy_13 (xs : Nat → Int) (e : Nat) (q : pS) (X : List (Option pV) → List pV → Nat → pH → Prop) (hX : pm_clo 1001 xs (pCall pm_tx 1001 xs pm_P (e + 2)) (e + 2) mX6_needy (eU q) X) (K91 : Int → Int → Int → Int → pS → Option (pS)) (hK91 : ∀ (x1 : Int) (x2 : Int) (x3 : Int) (x4 : Int) (d5 : Option pV) (s : pS), K91 x1 x2 x3 x4 s = some q → X [some (vR (cc 6 0)), some (vI x1), some (vI x2), some (vI x3), some (vI x4), d5] [] 91 (pW s)) : ∀ (n : Nat) (x1 : Int) (x2 : Int) (x3 : Int) (x4 : Int) (x5 : Int) (s : pS), f_X6_needy_13 K91 n x1 x2 x3 x4 x5 s = some q → X [some (vR (cc 6 0)), some (vI x1), some (vI x2), some (vI x3), some (vI x4), some (vI x5)] [] 13 (pW s) := by
  intro n
  induction n with
  | zero =>
    intro x1 x2 x3 x4 x5 s h
    rw [f_X6_needy_13] at h
    cases h
  | succ n ih =>
    intro x1 x2 x3 x4 x5 s h
    rw [f_X6_needy_13] at h
    refine r_iload hX (p2 := 15) rfl rfl rfl ?_
    refine r_iload_n hX (p2 := 16) rfl rfl rfl ?_
    refine r_aload_n hX (p2 := 17) rfl rfl rfl ⟨_, Or.inl rfl⟩ ?_
    refine r_gf hX (p2 := 20) (v := vR (ca 621 0)) rfl rfl (hc6 0 (by decide)) rfl rfl rfl ?_
    refine r_iconst hX (p2 := 21) rfl rfl rfl ?_
    refine r_iload_n hX (p2 := 22) rfl rfl rfl ?_
    obtain ⟨c1, h⟩ := ck_some h
    refine r_imul hX (p2 := 23) rfl rfl c1 ?_
    refine r_iload_n hX (p2 := 24) rfl rfl rfl ?_
    obtain ⟨c2, h⟩ := ck_some h
    refine r_iadd hX (p2 := 25) rfl rfl c2 ?_
    obtain ⟨c3, h⟩ := ck_some h
    refine r_iaload hX (p2 := 26) (j := ((2 * x2) + x1).toNat) rfl rfl (ha621 0 (by decide)) rfl rfl c3 rfl ?_
    obtain ⟨c4, h⟩ := ck_some h
    refine r_iadd hX (p2 := 27) rfl rfl c4 ?_
    refine r_icmp hX (p2 := 91) (p3 := 30) (P := (x3 + (sA s 621 0 ((2 * x2) + x1).toNat)) ≤ x5) rfl (by decide) rfl rfl (fun p9 => ?_) (fun p9 => ?_)
    · have h := it_pos h p9
      exact hK91 x1 x2 x3 x4 (some (vI x5)) s h
    · have h := it_neg h p9
      refine r_aload_n hX (p2 := 31) rfl rfl rfl ⟨_, Or.inl rfl⟩ ?_
      refine r_gf hX (p2 := 34) (v := vR (ca 643 0)) rfl rfl (hc6 0 (by decide)) rfl rfl rfl ?_
      refine r_iload hX (p2 := 36) rfl rfl rfl ?_
      refine r_aload_n hX (p2 := 37) rfl rfl rfl ⟨_, Or.inl rfl⟩ ?_
      refine r_iload_n hX (p2 := 38) rfl rfl rfl ?_
      refine r_iload hX (p2 := 40) rfl rfl rfl ?_
      obtain ⟨q5, hq5, h⟩ := bd_some h
      refine r_callv hX (p2 := 43) (v := some (vI q5.1)) (as := [vI x1, vI x5]) (r := [vI x5, vR (ca 643 0)]) (st2 := [vI q5.1, vI x5, vR (ca 643 0)]) rfl rfl rfl rfl rfl (hc6 0 (by decide)) rfl rfl (c_X6_lowOf xs (e + 1) x1 x5 s q5 hq5) ?_
      refine r_if hX (p2 := 61) (p3 := 46) (P := q5.1 = 0) rfl (by decide) rfl rfl (fun p8 => ?_) (fun p8 => ?_)
      · have h := it_pos h p8
        exact t_X6_needy_61 xs e q X hX _ _ ih hK91 x1 x2 x3 x4 x5 x5 q5.2 h
      · have h := it_neg h p8
        refine r_aload_n hX (p2 := 47) rfl rfl rfl ⟨_, Or.inl rfl⟩ ?_
        refine r_iload_n hX (p2 := 48) rfl rfl rfl ?_
        refine r_iload hX (p2 := 50) rfl rfl rfl ?_
        obtain ⟨q6, hq6, h⟩ := bd_some h
        refine r_callv hX (p2 := 53) (v := some (vI q6.1)) (as := [vI x1, vI x5]) (r := [vI x5, vR (ca 643 0)]) (st2 := [vI q6.1, vI x5, vR (ca 643 0)]) rfl rfl rfl rfl rfl (hc6 0 (by decide)) rfl rfl (c_X6_highOf xs (e + 1) x1 x5 q5.2 q6 hq6) ?_
        refine r_iconst hX (p2 := 54) rfl rfl rfl ?_
        refine r_icmp hX (p2 := 61) (p3 := 57) (P := q6.1 = 4) rfl (by decide) rfl rfl (fun p7 => ?_) (fun p7 => ?_)
        · have h := it_pos h p7
          exact t_X6_needy_61 xs e q X hX _ _ ih hK91 x1 x2 x3 x4 x5 x5 q6.2 h
        · have h := it_neg h p7
          refine r_iconst hX (p2 := 58) rfl rfl rfl ?_
          refine r_goto hX (p2 := 62) rfl (by decide) ?_
          exact t_X6_needy_62 xs e q X hX _ _ ih hK91 x1 x2 x3 x4 x5 x5 1 q6.2 h
noncomputable def f_X6_needy_116 (K150 : pS → Option (pS)) : Nat → Int → Int → Int → Int → pS → Option (pS)
  | 0, _, _, _, _, _ => none
  | n + 1, x1, x2, x3, x5, s => ck (inR (2 * x2)) (ck (inR ((2 * x2) + x1)) (ck (0 ≤ ((2 * x2) + x1) ∧ ((2 * x2) + x1) < 20) (ck (inR (x3 + (sA s 621 0 ((2 * x2) + x1).toNat))) ((if (x3 + (sA s 621 0 ((2 * x2) + x1).toNat)) ≤ x5 then K150 s else ck (inR (12 * x1)) (ck (inR ((12 * x1) + x5)) ((f_X6_raise ((12 * x1) + x5) s).bind (fun q7 => ck (inR (x5 + 1)) (f_X6_needy_116 K150 n x1 x2 x3 (x5 + 1) q7)))))))))
set_option maxRecDepth 10000 in
theorem t_X6_needy_116 (xs : Nat → Int) (e : Nat) (q : pS) (X : List (Option pV) → List pV → Nat → pH → Prop) (hX : pm_clo 1001 xs (pCall pm_tx 1001 xs pm_P (e + 2)) (e + 2) mX6_needy (eU q) X) (K150 : pS → Option (pS)) (hK150 : ∀ (d0 : Option pV) (d1 : Option pV) (d2 : Option pV) (d3 : Option pV) (d4 : Option pV) (d5 : Option pV) (s : pS), K150 s = some q → X [d0, d1, d2, d3, d4, d5] [] 150 (pW s)) : ∀ (n : Nat) (x1 : Int) (x2 : Int) (x3 : Int) (x5 : Int) (d4 : Option pV) (hd4 : pm_nc d4) (s : pS), f_X6_needy_116 K150 n x1 x2 x3 x5 s = some q → X [some (vR (cc 6 0)), some (vI x1), some (vI x2), some (vI x3), d4, some (vI x5)] [] 116 (pW s) := by
  intro n
  induction n with
  | zero =>
    intro x1 x2 x3 x5 d4 hd4 s h
    rw [f_X6_needy_116] at h
    cases h
  | succ n ih =>
    intro x1 x2 x3 x5 d4 hd4 s h
    rw [f_X6_needy_116] at h
    refine r_iload hX (p2 := 118) rfl rfl rfl ?_
    refine r_iload_n hX (p2 := 119) rfl rfl rfl ?_
    refine r_aload_n hX (p2 := 120) rfl rfl rfl ⟨_, Or.inl rfl⟩ ?_
    refine r_gf hX (p2 := 123) (v := vR (ca 621 0)) rfl rfl (hc6 0 (by decide)) rfl rfl rfl ?_
    refine r_iconst hX (p2 := 124) rfl rfl rfl ?_
    refine r_iload_n hX (p2 := 125) rfl rfl rfl ?_
    obtain ⟨c1, h⟩ := ck_some h
    refine r_imul hX (p2 := 126) rfl rfl c1 ?_
    refine r_iload_n hX (p2 := 127) rfl rfl rfl ?_
    obtain ⟨c2, h⟩ := ck_some h
    refine r_iadd hX (p2 := 128) rfl rfl c2 ?_
    obtain ⟨c3, h⟩ := ck_some h
    refine r_iaload hX (p2 := 129) (j := ((2 * x2) + x1).toNat) rfl rfl (ha621 0 (by decide)) rfl rfl c3 rfl ?_
    obtain ⟨c4, h⟩ := ck_some h
    refine r_iadd hX (p2 := 130) rfl rfl c4 ?_
    refine r_icmp hX (p2 := 150) (p3 := 133) (P := (x3 + (sA s 621 0 ((2 * x2) + x1).toNat)) ≤ x5) rfl (by decide) rfl rfl (fun p9 => ?_) (fun p9 => ?_)
    · have h := it_pos h p9
      exact hK150 (some (vR (cc 6 0))) (some (vI x1)) (some (vI x2)) (some (vI x3)) d4 (some (vI x5)) s h
    · have h := it_neg h p9
      refine r_aload_n hX (p2 := 134) rfl rfl rfl ⟨_, Or.inl rfl⟩ ?_
      refine r_bipush hX (p2 := 136) rfl rfl rfl ?_
      refine r_iload_n hX (p2 := 137) rfl rfl rfl ?_
      obtain ⟨c5, h⟩ := ck_some h
      refine r_imul hX (p2 := 138) rfl rfl c5 ?_
      refine r_iload hX (p2 := 140) rfl rfl rfl ?_
      obtain ⟨c6, h⟩ := ck_some h
      refine r_iadd hX (p2 := 141) rfl rfl c6 ?_
      obtain ⟨q7, hq7, h⟩ := bd_some h
      refine r_callv hX (p2 := 144) (v := none) (as := [vI ((12 * x1) + x5)]) (r := []) (st2 := []) rfl rfl rfl rfl rfl (hc6 0 (by decide)) rfl rfl (c_X6_raise xs (e + 1) ((12 * x1) + x5) s q7 hq7) ?_
      obtain ⟨c8, h⟩ := ck_some h
      refine r_iinc hX (p2 := 147) (ls2 := [some (vR (cc 6 0)), some (vI x1), some (vI x2), some (vI x3), d4, some (vI (x5 + 1))]) rfl rfl rfl rfl c8 (st1_nc rfl hd4 rfl) ?_
      refine r_goto hX (p2 := 116) rfl (by decide) ?_
      exact ih x1 x2 x3 (x5 + 1) d4 hd4 q7 h
noncomputable def f_X6_needy_113 (x1 : Int) (x2 : Int) (x3 : Int) (s : pS) : Option (pS) := f_X6_needy_116 (fun s1 => some s1) 400 x1 x2 x3 x3 s
set_option maxRecDepth 10000 in
theorem t_X6_needy_113 (xs : Nat → Int) (e : Nat) (q : pS) (X : List (Option pV) → List pV → Nat → pH → Prop) (hX : pm_clo 1001 xs (pCall pm_tx 1001 xs pm_P (e + 2)) (e + 2) mX6_needy (eU q) X) : ∀  (x1 : Int) (x2 : Int) (x3 : Int) (d4 : Option pV) (d5 : Option pV) (hd4 : pm_nc d4) (s : pS), f_X6_needy_113 x1 x2 x3 s = some q → X [some (vR (cc 6 0)), some (vI x1), some (vI x2), some (vI x3), d4, d5] [] 113 (pW s) := by
  intro x1 x2 x3 d4 d5 hd4 s h
  unfold f_X6_needy_113 at h
  refine r_iload_n hX (p2 := 114) rfl rfl rfl ?_
  refine r_istore hX (p2 := 116) (ls2 := [some (vR (cc 6 0)), some (vI x1), some (vI x2), some (vI x3), d4, some (vI x3)]) rfl rfl rfl (st1_nc rfl hd4 rfl) ?_
  refine t_X6_needy_116 xs e q X hX _ (fun d0 d1 d2 d3 d4 d5 s1 h => ?_) 400 x1 x2 x3 x3 d4 hd4 s h
  exact r_return hX rfl rfl (eU_ok h)
noncomputable def f_X6_needy (a1 : Int) (a2 : Int) (s : pS) : Option (pS) := (f_X6_firstOf a1 a2 s).bind (fun q1 => f_X6_needy_13 (fun x1 x2 x3 x4 s2 => (if x4 = 0 then f_X6_needy_113 x1 x2 x3 s2 else ck (inR (2 * x2)) (ck (inR ((2 * x2) + x1)) (ck (0 ≤ ((2 * x2) + x1) ∧ ((2 * x2) + x1) < 20) ((f_X6_spread x1 x2 (sB s2 622 0 ((2 * x2) + x1).toNat) 0 s2).bind (fun q6 => f_X6_needy_113 x1 x2 x3 q6)))))) 400 a1 a2 q1.1 0 q1.1 q1.2)
set_option maxRecDepth 10000 in
theorem c_X6_needy (xs : Nat → Int) (e : Nat) (a1 : Int) (a2 : Int) (s : pS) (q : pS) (h : f_X6_needy a1 a2 s = some q) : pCall pm_tx 1001 xs pm_P (e + 2 + 1) 145 [vR (cc 6 0), vI a1, vI a2] (pW s) (.inl none) (pW q) := by
  refine pCall_of mX6_needy rfl rfl (fun X hX => ?_)
  show X [some (vR (cc 6 0)), some (vI a1), some (vI a2), none, none, none] [] 0 (pW s)
  replace hX : pm_clo 1001 xs (pCall pm_tx 1001 xs pm_P (e + 2)) (e + 2) mX6_needy (eU q) X := hX
  unfold f_X6_needy at h
  refine r_aload_n hX (p2 := 1) rfl rfl rfl ⟨_, Or.inl rfl⟩ ?_
  refine r_iload_n hX (p2 := 2) rfl rfl rfl ?_
  refine r_iload_n hX (p2 := 3) rfl rfl rfl ?_
  obtain ⟨q1, hq1, h⟩ := bd_some h
  refine r_callv hX (p2 := 6) (v := some (vI q1.1)) (as := [vI a1, vI a2]) (r := []) (st2 := [vI q1.1]) rfl rfl rfl rfl rfl (hc6 0 (by decide)) rfl rfl (c_X6_firstOf xs (e + 1) a1 a2 s q1 hq1) ?_
  refine r_istore_n hX (p2 := 7) (ls2 := [some (vR (cc 6 0)), some (vI a1), some (vI a2), some (vI q1.1), none, none]) rfl rfl rfl rfl ?_
  refine r_iconst hX (p2 := 8) rfl rfl rfl ?_
  refine r_istore hX (p2 := 10) (ls2 := [some (vR (cc 6 0)), some (vI a1), some (vI a2), some (vI q1.1), some (vI 0), none]) rfl rfl rfl rfl ?_
  refine r_iload_n hX (p2 := 11) rfl rfl rfl ?_
  refine r_istore hX (p2 := 13) (ls2 := [some (vR (cc 6 0)), some (vI a1), some (vI a2), some (vI q1.1), some (vI 0), some (vI q1.1)]) rfl rfl rfl rfl ?_
  refine t_X6_needy_13 xs e q X hX _ (fun x1 x2 x3 x4 d5 s2 h => ?_) 400 a1 a2 q1.1 0 q1.1 q1.2 h
  refine r_iload hX (p2 := 93) rfl rfl rfl ?_
  refine r_if hX (p2 := 113) (p3 := 96) (P := x4 = 0) rfl (by decide) rfl rfl (fun p7 => ?_) (fun p7 => ?_)
  · have h := it_pos h p7
    exact t_X6_needy_113 xs e q X hX x1 x2 x3 (some (vI x4)) d5 rfl s2 h
  · have h := it_neg h p7
    refine r_aload_n hX (p2 := 97) rfl rfl rfl ⟨_, Or.inl rfl⟩ ?_
    refine r_iload_n hX (p2 := 98) rfl rfl rfl ?_
    refine r_iload_n hX (p2 := 99) rfl rfl rfl ?_
    refine r_aload_n hX (p2 := 100) rfl rfl rfl ⟨_, Or.inl rfl⟩ ?_
    refine r_gf hX (p2 := 103) (v := vR (ca 622 0)) rfl rfl (hc6 0 (by decide)) rfl rfl rfl ?_
    refine r_iconst hX (p2 := 104) rfl rfl rfl ?_
    refine r_iload_n hX (p2 := 105) rfl rfl rfl ?_
    obtain ⟨c3, h⟩ := ck_some h
    refine r_imul hX (p2 := 106) rfl rfl c3 ?_
    refine r_iload_n hX (p2 := 107) rfl rfl rfl ?_
    obtain ⟨c4, h⟩ := ck_some h
    refine r_iadd hX (p2 := 108) rfl rfl c4 ?_
    obtain ⟨c5, h⟩ := ck_some h
    refine r_faload hX (p2 := 109) (j := ((2 * x2) + x1).toNat) rfl rfl (ha622 0 (by decide)) rfl rfl c5 rfl ?_
    refine r_iconst hX (p2 := 110) rfl rfl rfl ?_
    obtain ⟨q6, hq6, h⟩ := bd_some h
    refine r_callv hX (p2 := 113) (v := none) (as := [vI x1, vI x2, vF (sB s2 622 0 ((2 * x2) + x1).toNat), vI 0]) (r := []) (st2 := []) rfl rfl rfl rfl rfl (hc6 0 (by decide)) rfl rfl (c_X6_spread xs e x1 x2 (sB s2 622 0 ((2 * x2) + x1).toNat) 0 s2 q6 hq6) ?_
    exact t_X6_needy_113 xs e q X hX x1 x2 x3 (some (vI x4)) d5 rfl q6 h
noncomputable def f_X6_growing_142 (K13 : Int → Int → Int → Int → Int → pS → Option (pS)) (K148 : Int → Int → Int → pS → Option (pS)) (x1 : Int) (x2 : Int) (x3 : Int) (x4 : Int) (x5 : Int) (s : pS) : Option (pS) := ck (inR (x5 + 1)) (K13 x1 x2 x3 x4 (x5 + 1) s)
set_option maxRecDepth 10000 in
theorem t_X6_growing_142 (xs : Nat → Int) (e : Nat) (q : pS) (X : List (Option pV) → List pV → Nat → pH → Prop) (hX : pm_clo 1001 xs (pCall pm_tx 1001 xs pm_P (e + 2)) (e + 2) mX6_growing (eU q) X) (K13 : Int → Int → Int → Int → Int → pS → Option (pS)) (K148 : Int → Int → Int → pS → Option (pS)) (hK13 : ∀ (x1 : Int) (x2 : Int) (x3 : Int) (x4 : Int) (x5 : Int) (d6 : Option pV) (d7 : Option pV) (s : pS), K13 x1 x2 x3 x4 x5 s = some q → X [some (vR (cc 6 0)), some (vI x1), some (vI x2), some (vI x3), some (vI x4), some (vI x5), d6, d7] [] 13 (pW s)) (hK148 : ∀ (x1 : Int) (x2 : Int) (x4 : Int) (d3 : Option pV) (d5 : Option pV) (d6 : Option pV) (d7 : Option pV) (s : pS), K148 x1 x2 x4 s = some q → X [some (vR (cc 6 0)), some (vI x1), some (vI x2), d3, some (vI x4), d5, d6, d7] [] 148 (pW s)) : ∀  (x1 : Int) (x2 : Int) (x3 : Int) (x4 : Int) (x5 : Int) (d6 : Option pV) (d7 : Option pV) (s : pS), f_X6_growing_142 K13 K148 x1 x2 x3 x4 x5 s = some q → X [some (vR (cc 6 0)), some (vI x1), some (vI x2), some (vI x3), some (vI x4), some (vI x5), d6, d7] [] 142 (pW s) := by
  intro x1 x2 x3 x4 x5 d6 d7 s h
  unfold f_X6_growing_142 at h
  obtain ⟨c1, h⟩ := ck_some h
  refine r_iinc hX (p2 := 145) (ls2 := [some (vR (cc 6 0)), some (vI x1), some (vI x2), some (vI x3), some (vI x4), some (vI (x5 + 1)), d6, d7]) rfl rfl rfl rfl c1 rfl ?_
  refine r_goto hX (p2 := 13) rfl (by decide) ?_
  exact hK13 x1 x2 x3 x4 (x5 + 1) d6 d7 s h
noncomputable def f_X6_growing_98 (K13 : Int → Int → Int → Int → Int → pS → Option (pS)) (K148 : Int → Int → Int → pS → Option (pS)) (x1 : Int) (x2 : Int) (x3 : Int) (x5 : Int) (x7 : Int) (y0 : Int) (s : pS) : Option (pS) := ck (0 ≤ x5 ∧ x5 < 12) ((if (sA s 643 0 x5.toNat) = 0 then f_X6_growing_142 K13 K148 x1 x2 x3 y0 x5 s else ck (0 ≤ x7 ∧ x7 < 24) ((if (sA s 636 0 x7.toNat) = 0 then f_X6_growing_142 K13 K148 x1 x2 x3 y0 x5 s else ck (0 ≤ x7 ∧ x7 < 24) (bs (wA s 636 0 (pm_up (sA s 636 0) x7.toNat 0)) (fun s4 => ck (0 ≤ x7 ∧ x7 < 24) (ck (0 ≤ x7 ∧ x7 < 24) (bs (wB s4 635 0 (pm_up (sB s4 635 0) x7.toNat (sB s4 634 0 x7.toNat))) (fun s7 => f_X6_growing_142 K13 K148 x1 x2 x3 y0 x5 s7)))))))))
set_option maxRecDepth 10000 in
theorem t_X6_growing_98 (xs : Nat → Int) (e : Nat) (q : pS) (X : List (Option pV) → List pV → Nat → pH → Prop) (hX : pm_clo 1001 xs (pCall pm_tx 1001 xs pm_P (e + 2)) (e + 2) mX6_growing (eU q) X) (K13 : Int → Int → Int → Int → Int → pS → Option (pS)) (K148 : Int → Int → Int → pS → Option (pS)) (hK13 : ∀ (x1 : Int) (x2 : Int) (x3 : Int) (x4 : Int) (x5 : Int) (d6 : Option pV) (d7 : Option pV) (s : pS), K13 x1 x2 x3 x4 x5 s = some q → X [some (vR (cc 6 0)), some (vI x1), some (vI x2), some (vI x3), some (vI x4), some (vI x5), d6, d7] [] 13 (pW s)) (hK148 : ∀ (x1 : Int) (x2 : Int) (x4 : Int) (d3 : Option pV) (d5 : Option pV) (d6 : Option pV) (d7 : Option pV) (s : pS), K148 x1 x2 x4 s = some q → X [some (vR (cc 6 0)), some (vI x1), some (vI x2), d3, some (vI x4), d5, d6, d7] [] 148 (pW s)) : ∀  (x1 : Int) (x2 : Int) (x3 : Int) (x5 : Int) (x7 : Int) (y0 : Int) (d4 : Option pV) (d6 : Option pV) (s : pS), f_X6_growing_98 K13 K148 x1 x2 x3 x5 x7 y0 s = some q → X [some (vR (cc 6 0)), some (vI x1), some (vI x2), some (vI x3), d4, some (vI x5), d6, some (vI x7)] [vI y0] 98 (pW s) := by
  intro x1 x2 x3 x5 x7 y0 d4 d6 s h
  unfold f_X6_growing_98 at h
  refine r_istore hX (p2 := 100) (ls2 := [some (vR (cc 6 0)), some (vI x1), some (vI x2), some (vI x3), some (vI y0), some (vI x5), d6, some (vI x7)]) rfl rfl rfl rfl ?_
  refine r_aload_n hX (p2 := 101) rfl rfl rfl ⟨_, Or.inl rfl⟩ ?_
  refine r_gf hX (p2 := 104) (v := vR (ca 643 0)) rfl rfl (hc6 0 (by decide)) rfl rfl rfl ?_
  refine r_iload hX (p2 := 106) rfl rfl rfl ?_
  obtain ⟨c1, h⟩ := ck_some h
  refine r_baload hX (p2 := 107) (j := x5.toNat) rfl rfl (ha643 0 (by decide)) rfl rfl c1 rfl ?_
  refine r_if hX (p2 := 142) (p3 := 110) (P := (sA s 643 0 x5.toNat) = 0) rfl (by decide) rfl rfl (fun p9 => ?_) (fun p9 => ?_)
  · have h := it_pos h p9
    exact t_X6_growing_142 xs e q X hX _ _ hK13 hK148 x1 x2 x3 y0 x5 d6 (some (vI x7)) s h
  · have h := it_neg h p9
    refine r_aload_n hX (p2 := 111) rfl rfl rfl ⟨_, Or.inl rfl⟩ ?_
    refine r_gf hX (p2 := 114) (v := vR (ca 636 0)) rfl rfl (hc6 0 (by decide)) rfl rfl rfl ?_
    refine r_iload hX (p2 := 116) rfl rfl rfl ?_
    obtain ⟨c2, h⟩ := ck_some h
    refine r_baload hX (p2 := 117) (j := x7.toNat) rfl rfl (ha636 0 (by decide)) rfl rfl c2 rfl ?_
    refine r_if hX (p2 := 142) (p3 := 120) (P := (sA s 636 0 x7.toNat) = 0) rfl (by decide) rfl rfl (fun p8 => ?_) (fun p8 => ?_)
    · have h := it_pos h p8
      exact t_X6_growing_142 xs e q X hX _ _ hK13 hK148 x1 x2 x3 y0 x5 d6 (some (vI x7)) s h
    · have h := it_neg h p8
      refine r_aload_n hX (p2 := 121) rfl rfl rfl ⟨_, Or.inl rfl⟩ ?_
      refine r_gf hX (p2 := 124) (v := vR (ca 636 0)) rfl rfl (hc6 0 (by decide)) rfl rfl rfl ?_
      refine r_iload hX (p2 := 126) rfl rfl rfl ?_
      refine r_iconst hX (p2 := 127) rfl rfl rfl ?_
      obtain ⟨c3, h⟩ := ck_some h
      obtain ⟨s4, hs4, h⟩ := bs_some h
      refine r_bastore hX (p2 := 128) (j := x7.toNat) rfl rfl (ha636 0 (by decide)) rfl rfl c3 rfl (Or.inl rfl) hs4 ?_
      refine r_aload_n hX (p2 := 129) rfl rfl rfl ⟨_, Or.inl rfl⟩ ?_
      refine r_gf hX (p2 := 132) (v := vR (ca 635 0)) rfl rfl (hc6 0 (by decide)) rfl rfl rfl ?_
      refine r_iload hX (p2 := 134) rfl rfl rfl ?_
      refine r_aload_n hX (p2 := 135) rfl rfl rfl ⟨_, Or.inl rfl⟩ ?_
      refine r_gf hX (p2 := 138) (v := vR (ca 634 0)) rfl rfl (hc6 0 (by decide)) rfl rfl rfl ?_
      refine r_iload hX (p2 := 140) rfl rfl rfl ?_
      obtain ⟨c5, h⟩ := ck_some h
      refine r_faload hX (p2 := 141) (j := x7.toNat) rfl rfl (ha634 0 (by decide)) rfl rfl c5 rfl ?_
      obtain ⟨c6, h⟩ := ck_some h
      obtain ⟨s7, hs7, h⟩ := bs_some h
      refine r_fastore hX (p2 := 142) (j := x7.toNat) rfl rfl (ha635 0 (by decide)) rfl rfl c6 rfl hs7 ?_
      exact t_X6_growing_142 xs e q X hX _ _ hK13 hK148 x1 x2 x3 y0 x5 d6 (some (vI x7)) s7 h
noncomputable def f_X6_growing_93 (K13 : Int → Int → Int → Int → Int → pS → Option (pS)) (K148 : Int → Int → Int → pS → Option (pS)) (x1 : Int) (x2 : Int) (x3 : Int) (x5 : Int) (x7 : Int) (s : pS) : Option (pS) := f_X6_growing_98 K13 K148 x1 x2 x3 x5 x7 1 s
set_option maxRecDepth 10000 in
theorem t_X6_growing_93 (xs : Nat → Int) (e : Nat) (q : pS) (X : List (Option pV) → List pV → Nat → pH → Prop) (hX : pm_clo 1001 xs (pCall pm_tx 1001 xs pm_P (e + 2)) (e + 2) mX6_growing (eU q) X) (K13 : Int → Int → Int → Int → Int → pS → Option (pS)) (K148 : Int → Int → Int → pS → Option (pS)) (hK13 : ∀ (x1 : Int) (x2 : Int) (x3 : Int) (x4 : Int) (x5 : Int) (d6 : Option pV) (d7 : Option pV) (s : pS), K13 x1 x2 x3 x4 x5 s = some q → X [some (vR (cc 6 0)), some (vI x1), some (vI x2), some (vI x3), some (vI x4), some (vI x5), d6, d7] [] 13 (pW s)) (hK148 : ∀ (x1 : Int) (x2 : Int) (x4 : Int) (d3 : Option pV) (d5 : Option pV) (d6 : Option pV) (d7 : Option pV) (s : pS), K148 x1 x2 x4 s = some q → X [some (vR (cc 6 0)), some (vI x1), some (vI x2), d3, some (vI x4), d5, d6, d7] [] 148 (pW s)) : ∀  (x1 : Int) (x2 : Int) (x3 : Int) (x5 : Int) (x7 : Int) (d4 : Option pV) (d6 : Option pV) (s : pS), f_X6_growing_93 K13 K148 x1 x2 x3 x5 x7 s = some q → X [some (vR (cc 6 0)), some (vI x1), some (vI x2), some (vI x3), d4, some (vI x5), d6, some (vI x7)] [] 93 (pW s) := by
  intro x1 x2 x3 x5 x7 d4 d6 s h
  unfold f_X6_growing_93 at h
  refine r_iconst hX (p2 := 94) rfl rfl rfl ?_
  refine r_goto hX (p2 := 98) rfl (by decide) ?_
  exact t_X6_growing_98 xs e q X hX _ _ hK13 hK148 x1 x2 x3 x5 x7 1 d4 d6 s h
noncomputable def f_X6_growing_77 (K13 : Int → Int → Int → Int → Int → pS → Option (pS)) (K148 : Int → Int → Int → pS → Option (pS)) (x1 : Int) (x2 : Int) (x3 : Int) (x4 : Int) (x5 : Int) (x7 : Int) (y1 : Int) (y2 : Int) (s : pS) : Option (pS) := ck (0 ≤ y1 ∧ y1 < 12) (ck (y2 = 0 ∨ y2 = 1) (bs (wA s 643 0 (pm_up (sA s 643 0) y1.toNat y2)) (fun s3 => (if x4 ≠ 0 then f_X6_growing_93 K13 K148 x1 x2 x3 x5 x7 s3 else ck (0 ≤ x5 ∧ x5 < 12) ((if (sA s3 643 0 x5.toNat) = 0 then f_X6_growing_98 K13 K148 x1 x2 x3 x5 x7 0 s3 else f_X6_growing_93 K13 K148 x1 x2 x3 x5 x7 s3))))))
set_option maxRecDepth 10000 in
theorem t_X6_growing_77 (xs : Nat → Int) (e : Nat) (q : pS) (X : List (Option pV) → List pV → Nat → pH → Prop) (hX : pm_clo 1001 xs (pCall pm_tx 1001 xs pm_P (e + 2)) (e + 2) mX6_growing (eU q) X) (K13 : Int → Int → Int → Int → Int → pS → Option (pS)) (K148 : Int → Int → Int → pS → Option (pS)) (hK13 : ∀ (x1 : Int) (x2 : Int) (x3 : Int) (x4 : Int) (x5 : Int) (d6 : Option pV) (d7 : Option pV) (s : pS), K13 x1 x2 x3 x4 x5 s = some q → X [some (vR (cc 6 0)), some (vI x1), some (vI x2), some (vI x3), some (vI x4), some (vI x5), d6, d7] [] 13 (pW s)) (hK148 : ∀ (x1 : Int) (x2 : Int) (x4 : Int) (d3 : Option pV) (d5 : Option pV) (d6 : Option pV) (d7 : Option pV) (s : pS), K148 x1 x2 x4 s = some q → X [some (vR (cc 6 0)), some (vI x1), some (vI x2), d3, some (vI x4), d5, d6, d7] [] 148 (pW s)) : ∀  (x1 : Int) (x2 : Int) (x3 : Int) (x4 : Int) (x5 : Int) (x7 : Int) (y1 : Int) (y2 : Int) (d6 : Option pV) (s : pS), f_X6_growing_77 K13 K148 x1 x2 x3 x4 x5 x7 y1 y2 s = some q → X [some (vR (cc 6 0)), some (vI x1), some (vI x2), some (vI x3), some (vI x4), some (vI x5), d6, some (vI x7)] [vI y2, vI y1, vR (ca 643 0)] 77 (pW s) := by
  intro x1 x2 x3 x4 x5 x7 y1 y2 d6 s h
  unfold f_X6_growing_77 at h
  obtain ⟨c1, h⟩ := ck_some h
  obtain ⟨c2, h⟩ := ck_some h
  obtain ⟨s3, hs3, h⟩ := bs_some h
  refine r_bastore hX (p2 := 78) (j := y1.toNat) rfl rfl (ha643 0 (by decide)) rfl rfl c1 rfl c2 hs3 ?_
  refine r_iload hX (p2 := 80) rfl rfl rfl ?_
  refine r_if hX (p2 := 93) (p3 := 83) (P := x4 ≠ 0) rfl (by decide) rfl rfl (fun p6 => ?_) (fun p6 => ?_)
  · have h := it_pos h p6
    exact t_X6_growing_93 xs e q X hX _ _ hK13 hK148 x1 x2 x3 x5 x7 (some (vI x4)) d6 s3 h
  · have h := it_neg h p6
    refine r_aload_n hX (p2 := 84) rfl rfl rfl ⟨_, Or.inl rfl⟩ ?_
    refine r_gf hX (p2 := 87) (v := vR (ca 643 0)) rfl rfl (hc6 0 (by decide)) rfl rfl rfl ?_
    refine r_iload hX (p2 := 89) rfl rfl rfl ?_
    obtain ⟨c4, h⟩ := ck_some h
    refine r_baload hX (p2 := 90) (j := x5.toNat) rfl rfl (ha643 0 (by decide)) rfl rfl c4 rfl ?_
    refine r_if hX (p2 := 97) (p3 := 93) (P := (sA s3 643 0 x5.toNat) = 0) rfl (by decide) rfl rfl (fun p5 => ?_) (fun p5 => ?_)
    · have h := it_pos h p5
      refine r_iconst hX (p2 := 98) rfl rfl rfl ?_
      exact t_X6_growing_98 xs e q X hX _ _ hK13 hK148 x1 x2 x3 x5 x7 0 (some (vI x4)) d6 s3 h
    · have h := it_neg h p5
      exact t_X6_growing_93 xs e q X hX _ _ hK13 hK148 x1 x2 x3 x5 x7 (some (vI x4)) d6 s3 h
noncomputable def f_X6_growing_72 (K13 : Int → Int → Int → Int → Int → pS → Option (pS)) (K148 : Int → Int → Int → pS → Option (pS)) (x1 : Int) (x2 : Int) (x3 : Int) (x4 : Int) (x5 : Int) (x7 : Int) (y1 : Int) (s : pS) : Option (pS) := f_X6_growing_77 K13 K148 x1 x2 x3 x4 x5 x7 y1 1 s
set_option maxRecDepth 10000 in
theorem t_X6_growing_72 (xs : Nat → Int) (e : Nat) (q : pS) (X : List (Option pV) → List pV → Nat → pH → Prop) (hX : pm_clo 1001 xs (pCall pm_tx 1001 xs pm_P (e + 2)) (e + 2) mX6_growing (eU q) X) (K13 : Int → Int → Int → Int → Int → pS → Option (pS)) (K148 : Int → Int → Int → pS → Option (pS)) (hK13 : ∀ (x1 : Int) (x2 : Int) (x3 : Int) (x4 : Int) (x5 : Int) (d6 : Option pV) (d7 : Option pV) (s : pS), K13 x1 x2 x3 x4 x5 s = some q → X [some (vR (cc 6 0)), some (vI x1), some (vI x2), some (vI x3), some (vI x4), some (vI x5), d6, d7] [] 13 (pW s)) (hK148 : ∀ (x1 : Int) (x2 : Int) (x4 : Int) (d3 : Option pV) (d5 : Option pV) (d6 : Option pV) (d7 : Option pV) (s : pS), K148 x1 x2 x4 s = some q → X [some (vR (cc 6 0)), some (vI x1), some (vI x2), d3, some (vI x4), d5, d6, d7] [] 148 (pW s)) : ∀  (x1 : Int) (x2 : Int) (x3 : Int) (x4 : Int) (x5 : Int) (x7 : Int) (y1 : Int) (d6 : Option pV) (s : pS), f_X6_growing_72 K13 K148 x1 x2 x3 x4 x5 x7 y1 s = some q → X [some (vR (cc 6 0)), some (vI x1), some (vI x2), some (vI x3), some (vI x4), some (vI x5), d6, some (vI x7)] [vI y1, vR (ca 643 0)] 72 (pW s) := by
  intro x1 x2 x3 x4 x5 x7 y1 d6 s h
  unfold f_X6_growing_72 at h
  refine r_iconst hX (p2 := 73) rfl rfl rfl ?_
  refine r_goto hX (p2 := 77) rfl (by decide) ?_
  exact t_X6_growing_77 xs e q X hX _ _ hK13 hK148 x1 x2 x3 x4 x5 x7 y1 1 d6 s h
noncomputable def f_X6_growing_13 (K148 : Int → Int → Int → pS → Option (pS)) : Nat → Int → Int → Int → Int → Int → pS → Option (pS)
  | 0, _, _, _, _, _, _ => none
  | n + 1, x1, x2, x3, x4, x5, s => ck (inR (2 * x2)) (ck (inR ((2 * x2) + x1)) (ck (0 ≤ ((2 * x2) + x1) ∧ ((2 * x2) + x1) < 20) (ck (inR (x3 + (sA s 621 0 ((2 * x2) + x1).toNat))) ((if (x3 + (sA s 621 0 ((2 * x2) + x1).toNat)) ≤ x5 then K148 x1 x2 x4 s else (f_X6_highOf x1 x5 s).bind (fun q5 => ck (inR (12 * x1)) (ck (inR ((12 * x1) + x5)) (bs (((12 * x1) + x5)) (fun v8 => (if q5.1 = 2 then f_X6_growing_72 (f_X6_growing_13 K148 n) K148 x1 x2 x3 x4 x5 v8 x5 q5.2 else (if q5.1 = 3 then f_X6_growing_72 (f_X6_growing_13 K148 n) K148 x1 x2 x3 x4 x5 v8 x5 q5.2 else (if q5.1 ≠ 5 then f_X6_growing_77 (f_X6_growing_13 K148 n) K148 x1 x2 x3 x4 x5 v8 x5 0 q5.2 else f_X6_growing_72 (f_X6_growing_13 K148 n) K148 x1 x2 x3 x4 x5 v8 x5 q5.2))))))))))))
set_option maxRecDepth 10000 in
theorem t_X6_growing_13 (xs : Nat → Int) (e : Nat) (q : pS) (X : List (Option pV) → List pV → Nat → pH → Prop) (hX : pm_clo 1001 xs (pCall pm_tx 1001 xs pm_P (e + 2)) (e + 2) mX6_growing (eU q) X) (K148 : Int → Int → Int → pS → Option (pS)) (hK148 : ∀ (x1 : Int) (x2 : Int) (x4 : Int) (d3 : Option pV) (d5 : Option pV) (d6 : Option pV) (d7 : Option pV) (s : pS), K148 x1 x2 x4 s = some q → X [some (vR (cc 6 0)), some (vI x1), some (vI x2), d3, some (vI x4), d5, d6, d7] [] 148 (pW s)) : ∀ (n : Nat) (x1 : Int) (x2 : Int) (x3 : Int) (x4 : Int) (x5 : Int) (d6 : Option pV) (d7 : Option pV) (s : pS), f_X6_growing_13 K148 n x1 x2 x3 x4 x5 s = some q → X [some (vR (cc 6 0)), some (vI x1), some (vI x2), some (vI x3), some (vI x4), some (vI x5), d6, d7] [] 13 (pW s) := by
  intro n
  induction n with
  | zero =>
    intro x1 x2 x3 x4 x5 d6 d7 s h
    rw [f_X6_growing_13] at h
    cases h
  | succ n ih =>
    intro x1 x2 x3 x4 x5 d6 d7 s h
    rw [f_X6_growing_13] at h
    refine r_iload hX (p2 := 15) rfl rfl rfl ?_
    refine r_iload_n hX (p2 := 16) rfl rfl rfl ?_
    refine r_aload_n hX (p2 := 17) rfl rfl rfl ⟨_, Or.inl rfl⟩ ?_
    refine r_gf hX (p2 := 20) (v := vR (ca 621 0)) rfl rfl (hc6 0 (by decide)) rfl rfl rfl ?_
    refine r_iconst hX (p2 := 21) rfl rfl rfl ?_
    refine r_iload_n hX (p2 := 22) rfl rfl rfl ?_
    obtain ⟨c1, h⟩ := ck_some h
    refine r_imul hX (p2 := 23) rfl rfl c1 ?_
    refine r_iload_n hX (p2 := 24) rfl rfl rfl ?_
    obtain ⟨c2, h⟩ := ck_some h
    refine r_iadd hX (p2 := 25) rfl rfl c2 ?_
    obtain ⟨c3, h⟩ := ck_some h
    refine r_iaload hX (p2 := 26) (j := ((2 * x2) + x1).toNat) rfl rfl (ha621 0 (by decide)) rfl rfl c3 rfl ?_
    obtain ⟨c4, h⟩ := ck_some h
    refine r_iadd hX (p2 := 27) rfl rfl c4 ?_
    refine r_icmp hX (p2 := 148) (p3 := 30) (P := (x3 + (sA s 621 0 ((2 * x2) + x1).toNat)) ≤ x5) rfl (by decide) rfl rfl (fun p12 => ?_) (fun p12 => ?_)
    · have h := it_pos h p12
      exact hK148 x1 x2 x4 (some (vI x3)) (some (vI x5)) d6 d7 s h
    · have h := it_neg h p12
      refine r_aload_n hX (p2 := 31) rfl rfl rfl ⟨_, Or.inl rfl⟩ ?_
      refine r_iload_n hX (p2 := 32) rfl rfl rfl ?_
      refine r_iload hX (p2 := 34) rfl rfl rfl ?_
      obtain ⟨q5, hq5, h⟩ := bd_some h
      refine r_callv hX (p2 := 37) (v := some (vI q5.1)) (as := [vI x1, vI x5]) (r := []) (st2 := [vI q5.1]) rfl rfl rfl rfl rfl (hc6 0 (by decide)) rfl rfl (c_X6_highOf xs (e + 1) x1 x5 s q5 hq5) ?_
      refine r_istore hX (p2 := 39) (ls2 := [some (vR (cc 6 0)), some (vI x1), some (vI x2), some (vI x3), some (vI x4), some (vI x5), some (vI q5.1), d7]) rfl rfl rfl rfl ?_
      refine r_bipush hX (p2 := 41) rfl rfl rfl ?_
      refine r_iload_n hX (p2 := 42) rfl rfl rfl ?_
      obtain ⟨c6, h⟩ := ck_some h
      refine r_imul hX (p2 := 43) rfl rfl c6 ?_
      refine r_iload hX (p2 := 45) rfl rfl rfl ?_
      obtain ⟨c7, h⟩ := ck_some h
      refine r_iadd hX (p2 := 46) rfl rfl c7 ?_
      obtain ⟨v8, hv8, h⟩ := bs_some h
      refine r_istoreE hX (p2 := 48) (ls2 := [some (vR (cc 6 0)), some (vI x1), some (vI x2), some (vI x3), some (vI x4), some (vI x5), some (vI q5.1), some (vI v8)]) rfl rfl hv8 rfl rfl ?_
      refine r_aload_n hX (p2 := 49) rfl rfl rfl ⟨_, Or.inl rfl⟩ ?_
      refine r_gf hX (p2 := 52) (v := vR (ca 643 0)) rfl rfl (hc6 0 (by decide)) rfl rfl rfl ?_
      refine r_iload hX (p2 := 54) rfl rfl rfl ?_
      refine r_iload hX (p2 := 56) rfl rfl rfl ?_
      refine r_iconst hX (p2 := 57) rfl rfl rfl ?_
      refine r_icmp hX (p2 := 72) (p3 := 60) (P := q5.1 = 2) rfl (by decide) rfl rfl (fun p11 => ?_) (fun p11 => ?_)
      · have h := it_pos h p11
        exact t_X6_growing_72 xs e q X hX _ _ ih hK148 x1 x2 x3 x4 x5 v8 x5 (some (vI q5.1)) q5.2 h
      · have h := it_neg h p11
        refine r_iload hX (p2 := 62) rfl rfl rfl ?_
        refine r_iconst hX (p2 := 63) rfl rfl rfl ?_
        refine r_icmp hX (p2 := 72) (p3 := 66) (P := q5.1 = 3) rfl (by decide) rfl rfl (fun p10 => ?_) (fun p10 => ?_)
        · have h := it_pos h p10
          exact t_X6_growing_72 xs e q X hX _ _ ih hK148 x1 x2 x3 x4 x5 v8 x5 (some (vI q5.1)) q5.2 h
        · have h := it_neg h p10
          refine r_iload hX (p2 := 68) rfl rfl rfl ?_
          refine r_iconst hX (p2 := 69) rfl rfl rfl ?_
          refine r_icmp hX (p2 := 76) (p3 := 72) (P := q5.1 ≠ 5) rfl (by decide) rfl rfl (fun p9 => ?_) (fun p9 => ?_)
          · have h := it_pos h p9
            refine r_iconst hX (p2 := 77) rfl rfl rfl ?_
            exact t_X6_growing_77 xs e q X hX _ _ ih hK148 x1 x2 x3 x4 x5 v8 x5 0 (some (vI q5.1)) q5.2 h
          · have h := it_neg h p9
            exact t_X6_growing_72 xs e q X hX _ _ ih hK148 x1 x2 x3 x4 x5 v8 x5 (some (vI q5.1)) q5.2 h
noncomputable def f_X6_growing_170 (s : pS) : Option (pS) := some s
set_option maxRecDepth 10000 in
theorem t_X6_growing_170 (xs : Nat → Int) (e : Nat) (q : pS) (X : List (Option pV) → List pV → Nat → pH → Prop) (hX : pm_clo 1001 xs (pCall pm_tx 1001 xs pm_P (e + 2)) (e + 2) mX6_growing (eU q) X) : ∀  (d0 : Option pV) (d1 : Option pV) (d2 : Option pV) (d3 : Option pV) (d4 : Option pV) (d5 : Option pV) (d6 : Option pV) (d7 : Option pV) (s : pS), f_X6_growing_170 s = some q → X [d0, d1, d2, d3, d4, d5, d6, d7] [] 170 (pW s) := by
  intro d0 d1 d2 d3 d4 d5 d6 d7 s h
  unfold f_X6_growing_170 at h
  exact r_return hX rfl rfl (eU_ok h)
noncomputable def f_X6_growing (a1 : Int) (a2 : Int) (s : pS) : Option (pS) := (f_X6_firstOf a1 a2 s).bind (fun q1 => f_X6_growing_13 (fun x1 x2 x4 s2 => (if x4 = 0 then f_X6_growing_170 s2 else ck (inR (2 * x2)) (ck (inR ((2 * x2) + x1)) (ck (0 ≤ ((2 * x2) + x1) ∧ ((2 * x2) + x1) < 20) ((f_X6_spread x1 x2 (sB s2 623 0 ((2 * x2) + x1).toNat) 1 s2).bind (fun q6 => f_X6_growing_170 q6)))))) 400 a1 a2 q1.1 0 q1.1 q1.2)
set_option maxRecDepth 10000 in
theorem c_X6_growing (xs : Nat → Int) (e : Nat) (a1 : Int) (a2 : Int) (s : pS) (q : pS) (h : f_X6_growing a1 a2 s = some q) : pCall pm_tx 1001 xs pm_P (e + 2 + 1) 146 [vR (cc 6 0), vI a1, vI a2] (pW s) (.inl none) (pW q) := by
  refine pCall_of mX6_growing rfl rfl (fun X hX => ?_)
  show X [some (vR (cc 6 0)), some (vI a1), some (vI a2), none, none, none, none, none] [] 0 (pW s)
  replace hX : pm_clo 1001 xs (pCall pm_tx 1001 xs pm_P (e + 2)) (e + 2) mX6_growing (eU q) X := hX
  unfold f_X6_growing at h
  refine r_aload_n hX (p2 := 1) rfl rfl rfl ⟨_, Or.inl rfl⟩ ?_
  refine r_iload_n hX (p2 := 2) rfl rfl rfl ?_
  refine r_iload_n hX (p2 := 3) rfl rfl rfl ?_
  obtain ⟨q1, hq1, h⟩ := bd_some h
  refine r_callv hX (p2 := 6) (v := some (vI q1.1)) (as := [vI a1, vI a2]) (r := []) (st2 := [vI q1.1]) rfl rfl rfl rfl rfl (hc6 0 (by decide)) rfl rfl (c_X6_firstOf xs (e + 1) a1 a2 s q1 hq1) ?_
  refine r_istore_n hX (p2 := 7) (ls2 := [some (vR (cc 6 0)), some (vI a1), some (vI a2), some (vI q1.1), none, none, none, none]) rfl rfl rfl rfl ?_
  refine r_iconst hX (p2 := 8) rfl rfl rfl ?_
  refine r_istore hX (p2 := 10) (ls2 := [some (vR (cc 6 0)), some (vI a1), some (vI a2), some (vI q1.1), some (vI 0), none, none, none]) rfl rfl rfl rfl ?_
  refine r_iload_n hX (p2 := 11) rfl rfl rfl ?_
  refine r_istore hX (p2 := 13) (ls2 := [some (vR (cc 6 0)), some (vI a1), some (vI a2), some (vI q1.1), some (vI 0), some (vI q1.1), none, none]) rfl rfl rfl rfl ?_
  refine t_X6_growing_13 xs e q X hX _ (fun x1 x2 x4 d3 d5 d6 d7 s2 h => ?_) 400 a1 a2 q1.1 0 q1.1 none none q1.2 h
  refine r_iload hX (p2 := 150) rfl rfl rfl ?_
  refine r_if hX (p2 := 170) (p3 := 153) (P := x4 = 0) rfl (by decide) rfl rfl (fun p7 => ?_) (fun p7 => ?_)
  · have h := it_pos h p7
    exact t_X6_growing_170 xs e q X hX (some (vR (cc 6 0))) (some (vI x1)) (some (vI x2)) d3 (some (vI x4)) d5 d6 d7 s2 h
  · have h := it_neg h p7
    refine r_aload_n hX (p2 := 154) rfl rfl rfl ⟨_, Or.inl rfl⟩ ?_
    refine r_iload_n hX (p2 := 155) rfl rfl rfl ?_
    refine r_iload_n hX (p2 := 156) rfl rfl rfl ?_
    refine r_aload_n hX (p2 := 157) rfl rfl rfl ⟨_, Or.inl rfl⟩ ?_
    refine r_gf hX (p2 := 160) (v := vR (ca 623 0)) rfl rfl (hc6 0 (by decide)) rfl rfl rfl ?_
    refine r_iconst hX (p2 := 161) rfl rfl rfl ?_
    refine r_iload_n hX (p2 := 162) rfl rfl rfl ?_
    obtain ⟨c3, h⟩ := ck_some h
    refine r_imul hX (p2 := 163) rfl rfl c3 ?_
    refine r_iload_n hX (p2 := 164) rfl rfl rfl ?_
    obtain ⟨c4, h⟩ := ck_some h
    refine r_iadd hX (p2 := 165) rfl rfl c4 ?_
    obtain ⟨c5, h⟩ := ck_some h
    refine r_faload hX (p2 := 166) (j := ((2 * x2) + x1).toNat) rfl rfl (ha623 0 (by decide)) rfl rfl c5 rfl ?_
    refine r_iconst hX (p2 := 167) rfl rfl rfl ?_
    obtain ⟨q6, hq6, h⟩ := bd_some h
    refine r_callv hX (p2 := 170) (v := none) (as := [vI x1, vI x2, vF (sB s2 623 0 ((2 * x2) + x1).toNat), vI 1]) (r := []) (st2 := []) rfl rfl rfl rfl rfl (hc6 0 (by decide)) rfl rfl (c_X6_spread xs e x1 x2 (sB s2 623 0 ((2 * x2) + x1).toNat) 1 s2 q6 hq6) ?_
    exact t_X6_growing_170 xs e q X hX (some (vR (cc 6 0))) (some (vI x1)) (some (vI x2)) d3 (some (vI x4)) d5 d6 d7 q6 h
noncomputable def f_X6_sizes_31 (K7 : Int → Int → pS → Option (pS)) (K37 : Int → pS → Option (pS)) (x1 : Int) (x2 : Int) (s : pS) : Option (pS) := ck (inR (x2 + 1)) (K7 x1 (x2 + 1) s)
set_option maxRecDepth 10000 in
theorem t_X6_sizes_31 (xs : Nat → Int) (e : Nat) (q : pS) (X : List (Option pV) → List pV → Nat → pH → Prop) (hX : pm_clo 1001 xs (pCall pm_tx 1001 xs pm_P (e + 3)) (e + 3) mX6_sizes (eU q) X) (K7 : Int → Int → pS → Option (pS)) (K37 : Int → pS → Option (pS)) (hK7 : ∀ (x1 : Int) (x2 : Int) (d3 : Option pV) (d4 : Option pV) (d5 : Option pV) (d6 : Option pV) (s : pS), K7 x1 x2 s = some q → X [some (vR (cc 6 0)), some (vI x1), some (vI x2), d3, d4, d5, d6] [] 7 (pW s)) (hK37 : ∀ (x1 : Int) (d2 : Option pV) (d3 : Option pV) (d4 : Option pV) (d5 : Option pV) (d6 : Option pV) (s : pS), K37 x1 s = some q → X [some (vR (cc 6 0)), some (vI x1), d2, d3, d4, d5, d6] [] 37 (pW s)) : ∀  (x1 : Int) (x2 : Int) (d3 : Option pV) (d4 : Option pV) (d5 : Option pV) (d6 : Option pV) (s : pS), f_X6_sizes_31 K7 K37 x1 x2 s = some q → X [some (vR (cc 6 0)), some (vI x1), some (vI x2), d3, d4, d5, d6] [] 31 (pW s) := by
  intro x1 x2 d3 d4 d5 d6 s h
  unfold f_X6_sizes_31 at h
  obtain ⟨c1, h⟩ := ck_some h
  refine r_iinc hX (p2 := 34) (ls2 := [some (vR (cc 6 0)), some (vI x1), some (vI (x2 + 1)), d3, d4, d5, d6]) rfl rfl rfl rfl c1 rfl ?_
  refine r_goto hX (p2 := 7) rfl (by decide) ?_
  exact hK7 x1 (x2 + 1) d3 d4 d5 d6 s h
noncomputable def f_X6_sizes_7 (K37 : Int → pS → Option (pS)) : Nat → Int → Int → pS → Option (pS)
  | 0, _, _, _ => none
  | n + 1, x1, x2, s => (if (sI s 619 0) ≤ x2 then K37 x1 s else (f_X6_spans x1 x2 1 s).bind (fun q1 => (if q1.1 = 0 then f_X6_sizes_31 (f_X6_sizes_7 K37 n) K37 x1 x2 q1.2 else (f_X6_single x1 x2 q1.2).bind (fun q2 => f_X6_sizes_31 (f_X6_sizes_7 K37 n) K37 x1 x2 q2))))
set_option maxRecDepth 10000 in
theorem t_X6_sizes_7 (xs : Nat → Int) (e : Nat) (q : pS) (X : List (Option pV) → List pV → Nat → pH → Prop) (hX : pm_clo 1001 xs (pCall pm_tx 1001 xs pm_P (e + 3)) (e + 3) mX6_sizes (eU q) X) (K37 : Int → pS → Option (pS)) (hK37 : ∀ (x1 : Int) (d2 : Option pV) (d3 : Option pV) (d4 : Option pV) (d5 : Option pV) (d6 : Option pV) (s : pS), K37 x1 s = some q → X [some (vR (cc 6 0)), some (vI x1), d2, d3, d4, d5, d6] [] 37 (pW s)) : ∀ (n : Nat) (x1 : Int) (x2 : Int) (d3 : Option pV) (d4 : Option pV) (d5 : Option pV) (d6 : Option pV) (s : pS), f_X6_sizes_7 K37 n x1 x2 s = some q → X [some (vR (cc 6 0)), some (vI x1), some (vI x2), d3, d4, d5, d6] [] 7 (pW s) := by
  intro n
  induction n with
  | zero =>
    intro x1 x2 d3 d4 d5 d6 s h
    rw [f_X6_sizes_7] at h
    cases h
  | succ n ih =>
    intro x1 x2 d3 d4 d5 d6 s h
    rw [f_X6_sizes_7] at h
    refine r_iload_n hX (p2 := 8) rfl rfl rfl ?_
    refine r_aload_n hX (p2 := 9) rfl rfl rfl ⟨_, Or.inl rfl⟩ ?_
    refine r_gf hX (p2 := 12) (v := vI (sI s 619 0)) rfl rfl (hc6 0 (by decide)) rfl rfl rfl ?_
    refine r_icmp hX (p2 := 37) (p3 := 15) (P := (sI s 619 0) ≤ x2) rfl (by decide) rfl rfl (fun p4 => ?_) (fun p4 => ?_)
    · have h := it_pos h p4
      exact hK37 x1 (some (vI x2)) d3 d4 d5 d6 s h
    · have h := it_neg h p4
      refine r_aload_n hX (p2 := 16) rfl rfl rfl ⟨_, Or.inl rfl⟩ ?_
      refine r_iload_n hX (p2 := 17) rfl rfl rfl ?_
      refine r_iload_n hX (p2 := 18) rfl rfl rfl ?_
      refine r_iconst hX (p2 := 19) rfl rfl rfl ?_
      obtain ⟨q1, hq1, h⟩ := bd_some h
      refine r_callv hX (p2 := 22) (v := some (vI q1.1)) (as := [vI x1, vI x2, vI 1]) (r := []) (st2 := [vI q1.1]) rfl rfl rfl rfl rfl (hc6 0 (by decide)) rfl rfl (c_X6_spans xs (e + 2) x1 x2 1 s q1 hq1) ?_
      refine r_if hX (p2 := 31) (p3 := 25) (P := q1.1 = 0) rfl (by decide) rfl rfl (fun p3 => ?_) (fun p3 => ?_)
      · have h := it_pos h p3
        exact t_X6_sizes_31 xs e q X hX _ _ ih hK37 x1 x2 d3 d4 d5 d6 q1.2 h
      · have h := it_neg h p3
        refine r_aload_n hX (p2 := 26) rfl rfl rfl ⟨_, Or.inl rfl⟩ ?_
        refine r_iload_n hX (p2 := 27) rfl rfl rfl ?_
        refine r_iload_n hX (p2 := 28) rfl rfl rfl ?_
        obtain ⟨q2, hq2, h⟩ := bd_some h
        refine r_callv hX (p2 := 31) (v := none) (as := [vI x1, vI x2]) (r := []) (st2 := []) rfl rfl rfl rfl rfl (hc6 0 (by decide)) rfl rfl (c_X6_single xs (e + 1) x1 x2 q1.2 q2 hq2) ?_
        exact t_X6_sizes_31 xs e q X hX _ _ ih hK37 x1 x2 d3 d4 d5 d6 q2 h
noncomputable def f_X6_sizes_70 (K46 : Int → Int → Int → pS → Option (pS)) (K76 : Int → Int → pS → Option (pS)) (x1 : Int) (x2 : Int) (x3 : Int) (s : pS) : Option (pS) := ck (inR (x3 + 1)) (K46 x1 x2 (x3 + 1) s)
set_option maxRecDepth 10000 in
theorem t_X6_sizes_70 (xs : Nat → Int) (e : Nat) (q : pS) (X : List (Option pV) → List pV → Nat → pH → Prop) (hX : pm_clo 1001 xs (pCall pm_tx 1001 xs pm_P (e + 3)) (e + 3) mX6_sizes (eU q) X) (K46 : Int → Int → Int → pS → Option (pS)) (K76 : Int → Int → pS → Option (pS)) (hK46 : ∀ (x1 : Int) (x2 : Int) (x3 : Int) (d4 : Option pV) (d5 : Option pV) (d6 : Option pV) (s : pS), K46 x1 x2 x3 s = some q → X [some (vR (cc 6 0)), some (vI x1), some (vI x2), some (vI x3), d4, d5, d6] [] 46 (pW s)) (hK76 : ∀ (x1 : Int) (x2 : Int) (d3 : Option pV) (d4 : Option pV) (d5 : Option pV) (d6 : Option pV) (s : pS), K76 x1 x2 s = some q → X [some (vR (cc 6 0)), some (vI x1), some (vI x2), d3, d4, d5, d6] [] 76 (pW s)) : ∀  (x1 : Int) (x2 : Int) (x3 : Int) (d4 : Option pV) (d5 : Option pV) (d6 : Option pV) (s : pS), f_X6_sizes_70 K46 K76 x1 x2 x3 s = some q → X [some (vR (cc 6 0)), some (vI x1), some (vI x2), some (vI x3), d4, d5, d6] [] 70 (pW s) := by
  intro x1 x2 x3 d4 d5 d6 s h
  unfold f_X6_sizes_70 at h
  obtain ⟨c1, h⟩ := ck_some h
  refine r_iinc hX (p2 := 73) (ls2 := [some (vR (cc 6 0)), some (vI x1), some (vI x2), some (vI (x3 + 1)), d4, d5, d6]) rfl rfl rfl rfl c1 rfl ?_
  refine r_goto hX (p2 := 46) rfl (by decide) ?_
  exact hK46 x1 x2 (x3 + 1) d4 d5 d6 s h
noncomputable def f_X6_sizes_46 (K76 : Int → Int → pS → Option (pS)) : Nat → Int → Int → Int → pS → Option (pS)
  | 0, _, _, _, _ => none
  | n + 1, x1, x2, x3, s => (if (sI s 619 0) ≤ x3 then K76 x1 x2 s else (f_X6_spans x1 x3 x2 s).bind (fun q1 => (if q1.1 = 0 then f_X6_sizes_70 (f_X6_sizes_46 K76 n) K76 x1 x2 x3 q1.2 else (f_X6_needy x1 x3 q1.2).bind (fun q2 => f_X6_sizes_70 (f_X6_sizes_46 K76 n) K76 x1 x2 x3 q2))))
set_option maxRecDepth 10000 in
theorem t_X6_sizes_46 (xs : Nat → Int) (e : Nat) (q : pS) (X : List (Option pV) → List pV → Nat → pH → Prop) (hX : pm_clo 1001 xs (pCall pm_tx 1001 xs pm_P (e + 3)) (e + 3) mX6_sizes (eU q) X) (K76 : Int → Int → pS → Option (pS)) (hK76 : ∀ (x1 : Int) (x2 : Int) (d3 : Option pV) (d4 : Option pV) (d5 : Option pV) (d6 : Option pV) (s : pS), K76 x1 x2 s = some q → X [some (vR (cc 6 0)), some (vI x1), some (vI x2), d3, d4, d5, d6] [] 76 (pW s)) : ∀ (n : Nat) (x1 : Int) (x2 : Int) (x3 : Int) (d4 : Option pV) (d5 : Option pV) (d6 : Option pV) (s : pS), f_X6_sizes_46 K76 n x1 x2 x3 s = some q → X [some (vR (cc 6 0)), some (vI x1), some (vI x2), some (vI x3), d4, d5, d6] [] 46 (pW s) := by
  intro n
  induction n with
  | zero =>
    intro x1 x2 x3 d4 d5 d6 s h
    rw [f_X6_sizes_46] at h
    cases h
  | succ n ih =>
    intro x1 x2 x3 d4 d5 d6 s h
    rw [f_X6_sizes_46] at h
    refine r_iload_n hX (p2 := 47) rfl rfl rfl ?_
    refine r_aload_n hX (p2 := 48) rfl rfl rfl ⟨_, Or.inl rfl⟩ ?_
    refine r_gf hX (p2 := 51) (v := vI (sI s 619 0)) rfl rfl (hc6 0 (by decide)) rfl rfl rfl ?_
    refine r_icmp hX (p2 := 76) (p3 := 54) (P := (sI s 619 0) ≤ x3) rfl (by decide) rfl rfl (fun p4 => ?_) (fun p4 => ?_)
    · have h := it_pos h p4
      exact hK76 x1 x2 (some (vI x3)) d4 d5 d6 s h
    · have h := it_neg h p4
      refine r_aload_n hX (p2 := 55) rfl rfl rfl ⟨_, Or.inl rfl⟩ ?_
      refine r_iload_n hX (p2 := 56) rfl rfl rfl ?_
      refine r_iload_n hX (p2 := 57) rfl rfl rfl ?_
      refine r_iload_n hX (p2 := 58) rfl rfl rfl ?_
      obtain ⟨q1, hq1, h⟩ := bd_some h
      refine r_callv hX (p2 := 61) (v := some (vI q1.1)) (as := [vI x1, vI x3, vI x2]) (r := []) (st2 := [vI q1.1]) rfl rfl rfl rfl rfl (hc6 0 (by decide)) rfl rfl (c_X6_spans xs (e + 2) x1 x3 x2 s q1 hq1) ?_
      refine r_if hX (p2 := 70) (p3 := 64) (P := q1.1 = 0) rfl (by decide) rfl rfl (fun p3 => ?_) (fun p3 => ?_)
      · have h := it_pos h p3
        exact t_X6_sizes_70 xs e q X hX _ _ ih hK76 x1 x2 x3 d4 d5 d6 q1.2 h
      · have h := it_neg h p3
        refine r_aload_n hX (p2 := 65) rfl rfl rfl ⟨_, Or.inl rfl⟩ ?_
        refine r_iload_n hX (p2 := 66) rfl rfl rfl ?_
        refine r_iload_n hX (p2 := 67) rfl rfl rfl ?_
        obtain ⟨q2, hq2, h⟩ := bd_some h
        refine r_callv hX (p2 := 70) (v := none) (as := [vI x1, vI x3]) (r := []) (st2 := []) rfl rfl rfl rfl rfl (hc6 0 (by decide)) rfl rfl (c_X6_needy xs e x1 x3 q1.2 q2 hq2) ?_
        exact t_X6_sizes_70 xs e q X hX _ _ ih hK76 x1 x2 x3 d4 d5 d6 q2 h
noncomputable def f_X6_sizes_39 (K82 : Int → pS → Option (pS)) : Nat → Int → Int → pS → Option (pS)
  | 0, _, _, _ => none
  | n + 1, x1, x2, s => (if 5 ≤ x2 then K82 x1 s else f_X6_sizes_46 (fun x1 x2 s1 => ck (inR (x2 + 1)) (f_X6_sizes_39 K82 n x1 (x2 + 1) s1)) 400 x1 x2 0 s)
set_option maxRecDepth 10000 in
theorem t_X6_sizes_39 (xs : Nat → Int) (e : Nat) (q : pS) (X : List (Option pV) → List pV → Nat → pH → Prop) (hX : pm_clo 1001 xs (pCall pm_tx 1001 xs pm_P (e + 3)) (e + 3) mX6_sizes (eU q) X) (K82 : Int → pS → Option (pS)) (hK82 : ∀ (x1 : Int) (d2 : Option pV) (d3 : Option pV) (d4 : Option pV) (d5 : Option pV) (d6 : Option pV) (s : pS), K82 x1 s = some q → X [some (vR (cc 6 0)), some (vI x1), d2, d3, d4, d5, d6] [] 82 (pW s)) : ∀ (n : Nat) (x1 : Int) (x2 : Int) (d3 : Option pV) (d4 : Option pV) (d5 : Option pV) (d6 : Option pV) (s : pS), f_X6_sizes_39 K82 n x1 x2 s = some q → X [some (vR (cc 6 0)), some (vI x1), some (vI x2), d3, d4, d5, d6] [] 39 (pW s) := by
  intro n
  induction n with
  | zero =>
    intro x1 x2 d3 d4 d5 d6 s h
    rw [f_X6_sizes_39] at h
    cases h
  | succ n ih =>
    intro x1 x2 d3 d4 d5 d6 s h
    rw [f_X6_sizes_39] at h
    refine r_iload_n hX (p2 := 40) rfl rfl rfl ?_
    refine r_iconst hX (p2 := 41) rfl rfl rfl ?_
    refine r_icmp hX (p2 := 82) (p3 := 44) (P := 5 ≤ x2) rfl (by decide) rfl rfl (fun p3 => ?_) (fun p3 => ?_)
    · have h := it_pos h p3
      exact hK82 x1 (some (vI x2)) d3 d4 d5 d6 s h
    · have h := it_neg h p3
      refine r_iconst hX (p2 := 45) rfl rfl rfl ?_
      refine r_istore_n hX (p2 := 46) (ls2 := [some (vR (cc 6 0)), some (vI x1), some (vI x2), some (vI 0), d4, d5, d6]) rfl rfl rfl rfl ?_
      refine t_X6_sizes_46 xs e q X hX _ (fun x1 x2 d3 d4 d5 d6 s1 h => ?_) 400 x1 x2 0 d4 d5 d6 s h
      obtain ⟨c2, h⟩ := ck_some h
      refine r_iinc hX (p2 := 79) (ls2 := [some (vR (cc 6 0)), some (vI x1), some (vI (x2 + 1)), d3, d4, d5, d6]) rfl rfl rfl rfl c2 rfl ?_
      refine r_goto hX (p2 := 39) rfl (by decide) ?_
      exact ih x1 (x2 + 1) d3 d4 d5 d6 s1 h
noncomputable def f_X6_sizes_115 (K91 : Int → Int → Int → pS → Option (pS)) (K121 : Int → Int → pS → Option (pS)) (x1 : Int) (x2 : Int) (x3 : Int) (s : pS) : Option (pS) := ck (inR (x3 + 1)) (K91 x1 x2 (x3 + 1) s)
set_option maxRecDepth 10000 in
theorem t_X6_sizes_115 (xs : Nat → Int) (e : Nat) (q : pS) (X : List (Option pV) → List pV → Nat → pH → Prop) (hX : pm_clo 1001 xs (pCall pm_tx 1001 xs pm_P (e + 3)) (e + 3) mX6_sizes (eU q) X) (K91 : Int → Int → Int → pS → Option (pS)) (K121 : Int → Int → pS → Option (pS)) (hK91 : ∀ (x1 : Int) (x2 : Int) (x3 : Int) (d4 : Option pV) (d5 : Option pV) (d6 : Option pV) (s : pS), K91 x1 x2 x3 s = some q → X [some (vR (cc 6 0)), some (vI x1), some (vI x2), some (vI x3), d4, d5, d6] [] 91 (pW s)) (hK121 : ∀ (x1 : Int) (x2 : Int) (d3 : Option pV) (d4 : Option pV) (d5 : Option pV) (d6 : Option pV) (s : pS), K121 x1 x2 s = some q → X [some (vR (cc 6 0)), some (vI x1), some (vI x2), d3, d4, d5, d6] [] 121 (pW s)) : ∀  (x1 : Int) (x2 : Int) (x3 : Int) (d4 : Option pV) (d5 : Option pV) (d6 : Option pV) (s : pS), f_X6_sizes_115 K91 K121 x1 x2 x3 s = some q → X [some (vR (cc 6 0)), some (vI x1), some (vI x2), some (vI x3), d4, d5, d6] [] 115 (pW s) := by
  intro x1 x2 x3 d4 d5 d6 s h
  unfold f_X6_sizes_115 at h
  obtain ⟨c1, h⟩ := ck_some h
  refine r_iinc hX (p2 := 118) (ls2 := [some (vR (cc 6 0)), some (vI x1), some (vI x2), some (vI (x3 + 1)), d4, d5, d6]) rfl rfl rfl rfl c1 rfl ?_
  refine r_goto hX (p2 := 91) rfl (by decide) ?_
  exact hK91 x1 x2 (x3 + 1) d4 d5 d6 s h
noncomputable def f_X6_sizes_91 (K121 : Int → Int → pS → Option (pS)) : Nat → Int → Int → Int → pS → Option (pS)
  | 0, _, _, _, _ => none
  | n + 1, x1, x2, x3, s => (if (sI s 619 0) ≤ x3 then K121 x1 x2 s else (f_X6_spans x1 x3 x2 s).bind (fun q1 => (if q1.1 = 0 then f_X6_sizes_115 (f_X6_sizes_91 K121 n) K121 x1 x2 x3 q1.2 else (f_X6_growing x1 x3 q1.2).bind (fun q2 => f_X6_sizes_115 (f_X6_sizes_91 K121 n) K121 x1 x2 x3 q2))))
set_option maxRecDepth 10000 in
theorem t_X6_sizes_91 (xs : Nat → Int) (e : Nat) (q : pS) (X : List (Option pV) → List pV → Nat → pH → Prop) (hX : pm_clo 1001 xs (pCall pm_tx 1001 xs pm_P (e + 3)) (e + 3) mX6_sizes (eU q) X) (K121 : Int → Int → pS → Option (pS)) (hK121 : ∀ (x1 : Int) (x2 : Int) (d3 : Option pV) (d4 : Option pV) (d5 : Option pV) (d6 : Option pV) (s : pS), K121 x1 x2 s = some q → X [some (vR (cc 6 0)), some (vI x1), some (vI x2), d3, d4, d5, d6] [] 121 (pW s)) : ∀ (n : Nat) (x1 : Int) (x2 : Int) (x3 : Int) (d4 : Option pV) (d5 : Option pV) (d6 : Option pV) (s : pS), f_X6_sizes_91 K121 n x1 x2 x3 s = some q → X [some (vR (cc 6 0)), some (vI x1), some (vI x2), some (vI x3), d4, d5, d6] [] 91 (pW s) := by
  intro n
  induction n with
  | zero =>
    intro x1 x2 x3 d4 d5 d6 s h
    rw [f_X6_sizes_91] at h
    cases h
  | succ n ih =>
    intro x1 x2 x3 d4 d5 d6 s h
    rw [f_X6_sizes_91] at h
    refine r_iload_n hX (p2 := 92) rfl rfl rfl ?_
    refine r_aload_n hX (p2 := 93) rfl rfl rfl ⟨_, Or.inl rfl⟩ ?_
    refine r_gf hX (p2 := 96) (v := vI (sI s 619 0)) rfl rfl (hc6 0 (by decide)) rfl rfl rfl ?_
    refine r_icmp hX (p2 := 121) (p3 := 99) (P := (sI s 619 0) ≤ x3) rfl (by decide) rfl rfl (fun p4 => ?_) (fun p4 => ?_)
    · have h := it_pos h p4
      exact hK121 x1 x2 (some (vI x3)) d4 d5 d6 s h
    · have h := it_neg h p4
      refine r_aload_n hX (p2 := 100) rfl rfl rfl ⟨_, Or.inl rfl⟩ ?_
      refine r_iload_n hX (p2 := 101) rfl rfl rfl ?_
      refine r_iload_n hX (p2 := 102) rfl rfl rfl ?_
      refine r_iload_n hX (p2 := 103) rfl rfl rfl ?_
      obtain ⟨q1, hq1, h⟩ := bd_some h
      refine r_callv hX (p2 := 106) (v := some (vI q1.1)) (as := [vI x1, vI x3, vI x2]) (r := []) (st2 := [vI q1.1]) rfl rfl rfl rfl rfl (hc6 0 (by decide)) rfl rfl (c_X6_spans xs (e + 2) x1 x3 x2 s q1 hq1) ?_
      refine r_if hX (p2 := 115) (p3 := 109) (P := q1.1 = 0) rfl (by decide) rfl rfl (fun p3 => ?_) (fun p3 => ?_)
      · have h := it_pos h p3
        exact t_X6_sizes_115 xs e q X hX _ _ ih hK121 x1 x2 x3 d4 d5 d6 q1.2 h
      · have h := it_neg h p3
        refine r_aload_n hX (p2 := 110) rfl rfl rfl ⟨_, Or.inl rfl⟩ ?_
        refine r_iload_n hX (p2 := 111) rfl rfl rfl ?_
        refine r_iload_n hX (p2 := 112) rfl rfl rfl ?_
        obtain ⟨q2, hq2, h⟩ := bd_some h
        refine r_callv hX (p2 := 115) (v := none) (as := [vI x1, vI x3]) (r := []) (st2 := []) rfl rfl rfl rfl rfl (hc6 0 (by decide)) rfl rfl (c_X6_growing xs e x1 x3 q1.2 q2 hq2) ?_
        exact t_X6_sizes_115 xs e q X hX _ _ ih hK121 x1 x2 x3 d4 d5 d6 q2 h
noncomputable def f_X6_sizes_84 (K127 : Int → pS → Option (pS)) : Nat → Int → Int → pS → Option (pS)
  | 0, _, _, _ => none
  | n + 1, x1, x2, s => (if 5 ≤ x2 then K127 x1 s else f_X6_sizes_91 (fun x1 x2 s1 => ck (inR (x2 + 1)) (f_X6_sizes_84 K127 n x1 (x2 + 1) s1)) 400 x1 x2 0 s)
set_option maxRecDepth 10000 in
theorem t_X6_sizes_84 (xs : Nat → Int) (e : Nat) (q : pS) (X : List (Option pV) → List pV → Nat → pH → Prop) (hX : pm_clo 1001 xs (pCall pm_tx 1001 xs pm_P (e + 3)) (e + 3) mX6_sizes (eU q) X) (K127 : Int → pS → Option (pS)) (hK127 : ∀ (x1 : Int) (d2 : Option pV) (d3 : Option pV) (d4 : Option pV) (d5 : Option pV) (d6 : Option pV) (s : pS), K127 x1 s = some q → X [some (vR (cc 6 0)), some (vI x1), d2, d3, d4, d5, d6] [] 127 (pW s)) : ∀ (n : Nat) (x1 : Int) (x2 : Int) (d3 : Option pV) (d4 : Option pV) (d5 : Option pV) (d6 : Option pV) (s : pS), f_X6_sizes_84 K127 n x1 x2 s = some q → X [some (vR (cc 6 0)), some (vI x1), some (vI x2), d3, d4, d5, d6] [] 84 (pW s) := by
  intro n
  induction n with
  | zero =>
    intro x1 x2 d3 d4 d5 d6 s h
    rw [f_X6_sizes_84] at h
    cases h
  | succ n ih =>
    intro x1 x2 d3 d4 d5 d6 s h
    rw [f_X6_sizes_84] at h
    refine r_iload_n hX (p2 := 85) rfl rfl rfl ?_
    refine r_iconst hX (p2 := 86) rfl rfl rfl ?_
    refine r_icmp hX (p2 := 127) (p3 := 89) (P := 5 ≤ x2) rfl (by decide) rfl rfl (fun p3 => ?_) (fun p3 => ?_)
    · have h := it_pos h p3
      exact hK127 x1 (some (vI x2)) d3 d4 d5 d6 s h
    · have h := it_neg h p3
      refine r_iconst hX (p2 := 90) rfl rfl rfl ?_
      refine r_istore_n hX (p2 := 91) (ls2 := [some (vR (cc 6 0)), some (vI x1), some (vI x2), some (vI 0), d4, d5, d6]) rfl rfl rfl rfl ?_
      refine t_X6_sizes_91 xs e q X hX _ (fun x1 x2 d3 d4 d5 d6 s1 h => ?_) 400 x1 x2 0 d4 d5 d6 s h
      obtain ⟨c2, h⟩ := ck_some h
      refine r_iinc hX (p2 := 124) (ls2 := [some (vR (cc 6 0)), some (vI x1), some (vI (x2 + 1)), d3, d4, d5, d6]) rfl rfl rfl rfl c2 rfl ?_
      refine r_goto hX (p2 := 84) rfl (by decide) ?_
      exact ih x1 (x2 + 1) d3 d4 d5 d6 s1 h
noncomputable def f_X6_sizes_175 (K129 : Int → Int → pS → Option (pS)) (K193 : Int → pS → Option (pS)) (x1 : Int) (x2 : Int) (s : pS) : Option (pS) := ck (inR (12 * x1)) (ck (inR ((12 * x1) + x2)) (ck (0 ≤ ((12 * x1) + x2) ∧ ((12 * x1) + x2) < 24) (bs (wA s 636 0 (pm_up (sA s 636 0) ((12 * x1) + x2).toNat 0)) (fun s4 => ck (inR (x2 + 1)) (K129 x1 (x2 + 1) s4)))))
set_option maxRecDepth 10000 in
theorem t_X6_sizes_175 (xs : Nat → Int) (e : Nat) (q : pS) (X : List (Option pV) → List pV → Nat → pH → Prop) (hX : pm_clo 1001 xs (pCall pm_tx 1001 xs pm_P (e + 3)) (e + 3) mX6_sizes (eU q) X) (K129 : Int → Int → pS → Option (pS)) (K193 : Int → pS → Option (pS)) (hK129 : ∀ (x1 : Int) (x2 : Int) (d3 : Option pV) (d4 : Option pV) (d5 : Option pV) (d6 : Option pV) (s : pS), K129 x1 x2 s = some q → X [some (vR (cc 6 0)), some (vI x1), some (vI x2), d3, d4, d5, d6] [] 129 (pW s)) (hK193 : ∀ (x1 : Int) (d2 : Option pV) (d3 : Option pV) (d4 : Option pV) (d5 : Option pV) (d6 : Option pV) (s : pS), K193 x1 s = some q → X [some (vR (cc 6 0)), some (vI x1), d2, d3, d4, d5, d6] [] 193 (pW s)) : ∀  (x1 : Int) (x2 : Int) (d3 : Option pV) (d4 : Option pV) (d5 : Option pV) (d6 : Option pV) (s : pS), f_X6_sizes_175 K129 K193 x1 x2 s = some q → X [some (vR (cc 6 0)), some (vI x1), some (vI x2), d3, d4, d5, d6] [] 175 (pW s) := by
  intro x1 x2 d3 d4 d5 d6 s h
  unfold f_X6_sizes_175 at h
  refine r_aload_n hX (p2 := 176) rfl rfl rfl ⟨_, Or.inl rfl⟩ ?_
  refine r_gf hX (p2 := 179) (v := vR (ca 636 0)) rfl rfl (hc6 0 (by decide)) rfl rfl rfl ?_
  refine r_bipush hX (p2 := 181) rfl rfl rfl ?_
  refine r_iload_n hX (p2 := 182) rfl rfl rfl ?_
  obtain ⟨c1, h⟩ := ck_some h
  refine r_imul hX (p2 := 183) rfl rfl c1 ?_
  refine r_iload_n hX (p2 := 184) rfl rfl rfl ?_
  obtain ⟨c2, h⟩ := ck_some h
  refine r_iadd hX (p2 := 185) rfl rfl c2 ?_
  refine r_iconst hX (p2 := 186) rfl rfl rfl ?_
  obtain ⟨c3, h⟩ := ck_some h
  obtain ⟨s4, hs4, h⟩ := bs_some h
  refine r_bastore hX (p2 := 187) (j := ((12 * x1) + x2).toNat) rfl rfl (ha636 0 (by decide)) rfl rfl c3 rfl (Or.inl rfl) hs4 ?_
  obtain ⟨c5, h⟩ := ck_some h
  refine r_iinc hX (p2 := 190) (ls2 := [some (vR (cc 6 0)), some (vI x1), some (vI (x2 + 1)), d3, d4, d5, d6]) rfl rfl rfl rfl c5 rfl ?_
  refine r_goto hX (p2 := 129) rfl (by decide) ?_
  exact hK129 x1 (x2 + 1) d3 d4 d5 d6 s4 h
noncomputable def f_X6_sizes_129 (K193 : Int → pS → Option (pS)) : Nat → Int → Int → pS → Option (pS)
  | 0, _, _, _ => none
  | n + 1, x1, x2, s => ck (0 ≤ x1 ∧ x1 < 2) ((if (sA s 633 0 x1.toNat) ≤ x2 then K193 x1 s else ck (inR (12 * x1)) (ck (inR ((12 * x1) + x2)) (ck (0 ≤ ((12 * x1) + x2) ∧ ((12 * x1) + x2) < 24) ((if (sA s 636 0 ((12 * x1) + x2).toNat) = 0 then f_X6_sizes_175 (f_X6_sizes_129 K193 n) K193 x1 x2 s else ck (inR (12 * x1)) (ck (inR ((12 * x1) + x2)) (ck (inR (12 * x1)) (ck (inR ((12 * x1) + x2)) (ck (0 ≤ ((12 * x1) + x2) ∧ ((12 * x1) + x2) < 24) (ck (0 ≤ ((12 * x1) + x2) ∧ ((12 * x1) + x2) < 24) (bs (wB s 635 0 (pm_up (sB s 635 0) ((12 * x1) + x2).toNat (sB s 634 0 ((12 * x1) + x2).toNat))) (fun s11 => f_X6_sizes_175 (f_X6_sizes_129 K193 n) K193 x1 x2 s11)))))))))))))
set_option maxRecDepth 10000 in
theorem t_X6_sizes_129 (xs : Nat → Int) (e : Nat) (q : pS) (X : List (Option pV) → List pV → Nat → pH → Prop) (hX : pm_clo 1001 xs (pCall pm_tx 1001 xs pm_P (e + 3)) (e + 3) mX6_sizes (eU q) X) (K193 : Int → pS → Option (pS)) (hK193 : ∀ (x1 : Int) (d2 : Option pV) (d3 : Option pV) (d4 : Option pV) (d5 : Option pV) (d6 : Option pV) (s : pS), K193 x1 s = some q → X [some (vR (cc 6 0)), some (vI x1), d2, d3, d4, d5, d6] [] 193 (pW s)) : ∀ (n : Nat) (x1 : Int) (x2 : Int) (d3 : Option pV) (d4 : Option pV) (d5 : Option pV) (d6 : Option pV) (s : pS), f_X6_sizes_129 K193 n x1 x2 s = some q → X [some (vR (cc 6 0)), some (vI x1), some (vI x2), d3, d4, d5, d6] [] 129 (pW s) := by
  intro n
  induction n with
  | zero =>
    intro x1 x2 d3 d4 d5 d6 s h
    rw [f_X6_sizes_129] at h
    cases h
  | succ n ih =>
    intro x1 x2 d3 d4 d5 d6 s h
    rw [f_X6_sizes_129] at h
    refine r_iload_n hX (p2 := 130) rfl rfl rfl ?_
    refine r_aload_n hX (p2 := 131) rfl rfl rfl ⟨_, Or.inl rfl⟩ ?_
    refine r_gf hX (p2 := 134) (v := vR (ca 633 0)) rfl rfl (hc6 0 (by decide)) rfl rfl rfl ?_
    refine r_iload_n hX (p2 := 135) rfl rfl rfl ?_
    obtain ⟨c1, h⟩ := ck_some h
    refine r_iaload hX (p2 := 136) (j := x1.toNat) rfl rfl (ha633 0 (by decide)) rfl rfl c1 rfl ?_
    refine r_icmp hX (p2 := 193) (p3 := 139) (P := (sA s 633 0 x1.toNat) ≤ x2) rfl (by decide) rfl rfl (fun p13 => ?_) (fun p13 => ?_)
    · have h := it_pos h p13
      exact hK193 x1 (some (vI x2)) d3 d4 d5 d6 s h
    · have h := it_neg h p13
      refine r_aload_n hX (p2 := 140) rfl rfl rfl ⟨_, Or.inl rfl⟩ ?_
      refine r_gf hX (p2 := 143) (v := vR (ca 636 0)) rfl rfl (hc6 0 (by decide)) rfl rfl rfl ?_
      refine r_bipush hX (p2 := 145) rfl rfl rfl ?_
      refine r_iload_n hX (p2 := 146) rfl rfl rfl ?_
      obtain ⟨c2, h⟩ := ck_some h
      refine r_imul hX (p2 := 147) rfl rfl c2 ?_
      refine r_iload_n hX (p2 := 148) rfl rfl rfl ?_
      obtain ⟨c3, h⟩ := ck_some h
      refine r_iadd hX (p2 := 149) rfl rfl c3 ?_
      obtain ⟨c4, h⟩ := ck_some h
      refine r_baload hX (p2 := 150) (j := ((12 * x1) + x2).toNat) rfl rfl (ha636 0 (by decide)) rfl rfl c4 rfl ?_
      refine r_if hX (p2 := 175) (p3 := 153) (P := (sA s 636 0 ((12 * x1) + x2).toNat) = 0) rfl (by decide) rfl rfl (fun p12 => ?_) (fun p12 => ?_)
      · have h := it_pos h p12
        exact t_X6_sizes_175 xs e q X hX _ _ ih hK193 x1 x2 d3 d4 d5 d6 s h
      · have h := it_neg h p12
        refine r_aload_n hX (p2 := 154) rfl rfl rfl ⟨_, Or.inl rfl⟩ ?_
        refine r_gf hX (p2 := 157) (v := vR (ca 635 0)) rfl rfl (hc6 0 (by decide)) rfl rfl rfl ?_
        refine r_bipush hX (p2 := 159) rfl rfl rfl ?_
        refine r_iload_n hX (p2 := 160) rfl rfl rfl ?_
        obtain ⟨c5, h⟩ := ck_some h
        refine r_imul hX (p2 := 161) rfl rfl c5 ?_
        refine r_iload_n hX (p2 := 162) rfl rfl rfl ?_
        obtain ⟨c6, h⟩ := ck_some h
        refine r_iadd hX (p2 := 163) rfl rfl c6 ?_
        refine r_aload_n hX (p2 := 164) rfl rfl rfl ⟨_, Or.inl rfl⟩ ?_
        refine r_gf hX (p2 := 167) (v := vR (ca 634 0)) rfl rfl (hc6 0 (by decide)) rfl rfl rfl ?_
        refine r_bipush hX (p2 := 169) rfl rfl rfl ?_
        refine r_iload_n hX (p2 := 170) rfl rfl rfl ?_
        obtain ⟨c7, h⟩ := ck_some h
        refine r_imul hX (p2 := 171) rfl rfl c7 ?_
        refine r_iload_n hX (p2 := 172) rfl rfl rfl ?_
        obtain ⟨c8, h⟩ := ck_some h
        refine r_iadd hX (p2 := 173) rfl rfl c8 ?_
        obtain ⟨c9, h⟩ := ck_some h
        refine r_faload hX (p2 := 174) (j := ((12 * x1) + x2).toNat) rfl rfl (ha634 0 (by decide)) rfl rfl c9 rfl ?_
        obtain ⟨c10, h⟩ := ck_some h
        obtain ⟨s11, hs11, h⟩ := bs_some h
        refine r_fastore hX (p2 := 175) (j := ((12 * x1) + x2).toNat) rfl rfl (ha635 0 (by decide)) rfl rfl c10 rfl hs11 ?_
        exact t_X6_sizes_175 xs e q X hX _ _ ih hK193 x1 x2 d3 d4 d5 d6 s11 h
noncomputable def f_X6_sizes_265 (K319 : Int → pS → Option (pS)) : Nat → Int → UInt32 → Int → pS → Option (pS)
  | 0, _, _, _, _ => none
  | n + 1, x1, x3, x4, s => ck (0 ≤ x1 ∧ x1 < 2) ((if (sA s 633 0 x1.toNat) ≤ x4 then K319 x1 s else ck (inR (12 * x1)) (ck (inR ((12 * x1) + x4)) (ck (0 ≤ ((12 * x1) + x4) ∧ ((12 * x1) + x4) < 24) (bs (wB s 637 0 (pm_up (sB s 637 0) ((12 * x1) + x4).toNat x3)) (fun s5 => ck (inR (12 * x1)) (ck (inR ((12 * x1) + x4)) (ck (0 ≤ ((12 * x1) + x4) ∧ ((12 * x1) + x4) < 24) (ck (vf_n32 (FP.fadd x3 (sB s5 634 0 ((12 * x1) + x4).toNat))) (bs ((FP.fadd x3 (sB s5 634 0 ((12 * x1) + x4).toNat))) (fun v10 => ck (0 ≤ x1 ∧ x1 < 2) (ck (vf_n32 (FP.fadd v10 (sB s5 627 0 x1.toNat))) (bs ((FP.fadd v10 (sB s5 627 0 x1.toNat))) (fun v13 => ck (inR (x4 + 1)) (f_X6_sizes_265 K319 n x1 v13 (x4 + 1) s5)))))))))))))))
set_option maxRecDepth 10000 in
theorem t_X6_sizes_265 (xs : Nat → Int) (e : Nat) (q : pS) (X : List (Option pV) → List pV → Nat → pH → Prop) (hX : pm_clo 1001 xs (pCall pm_tx 1001 xs pm_P (e + 3)) (e + 3) mX6_sizes (eU q) X) (K319 : Int → pS → Option (pS)) (hK319 : ∀ (x1 : Int) (d2 : Option pV) (d3 : Option pV) (d4 : Option pV) (d5 : Option pV) (d6 : Option pV) (hd3 : pm_nc d3) (s : pS), K319 x1 s = some q → X [some (vR (cc 6 0)), some (vI x1), d2, d3, d4, d5, d6] [] 319 (pW s)) : ∀ (n : Nat) (x1 : Int) (x3 : UInt32) (x4 : Int) (d2 : Option pV) (d5 : Option pV) (d6 : Option pV) (hd2 : pm_nc d2) (s : pS), f_X6_sizes_265 K319 n x1 x3 x4 s = some q → X [some (vR (cc 6 0)), some (vI x1), d2, some (vF x3), some (vI x4), d5, d6] [] 265 (pW s) := by
  intro n
  induction n with
  | zero =>
    intro x1 x3 x4 d2 d5 d6 hd2 s h
    rw [f_X6_sizes_265] at h
    cases h
  | succ n ih =>
    intro x1 x3 x4 d2 d5 d6 hd2 s h
    rw [f_X6_sizes_265] at h
    refine r_iload hX (p2 := 267) rfl rfl rfl ?_
    refine r_aload_n hX (p2 := 268) rfl rfl rfl ⟨_, Or.inl rfl⟩ ?_
    refine r_gf hX (p2 := 271) (v := vR (ca 633 0)) rfl rfl (hc6 0 (by decide)) rfl rfl rfl ?_
    refine r_iload_n hX (p2 := 272) rfl rfl rfl ?_
    obtain ⟨c1, h⟩ := ck_some h
    refine r_iaload hX (p2 := 273) (j := x1.toNat) rfl rfl (ha633 0 (by decide)) rfl rfl c1 rfl ?_
    refine r_icmp hX (p2 := 319) (p3 := 276) (P := (sA s 633 0 x1.toNat) ≤ x4) rfl (by decide) rfl rfl (fun p15 => ?_) (fun p15 => ?_)
    · have h := it_pos h p15
      exact hK319 x1 d2 (some (vF x3)) (some (vI x4)) d5 d6 rfl s h
    · have h := it_neg h p15
      refine r_aload_n hX (p2 := 277) rfl rfl rfl ⟨_, Or.inl rfl⟩ ?_
      refine r_gf hX (p2 := 280) (v := vR (ca 637 0)) rfl rfl (hc6 0 (by decide)) rfl rfl rfl ?_
      refine r_bipush hX (p2 := 282) rfl rfl rfl ?_
      refine r_iload_n hX (p2 := 283) rfl rfl rfl ?_
      obtain ⟨c2, h⟩ := ck_some h
      refine r_imul hX (p2 := 284) rfl rfl c2 ?_
      refine r_iload hX (p2 := 286) rfl rfl rfl ?_
      obtain ⟨c3, h⟩ := ck_some h
      refine r_iadd hX (p2 := 287) rfl rfl c3 ?_
      refine r_fload_n hX (p2 := 288) rfl rfl rfl ?_
      obtain ⟨c4, h⟩ := ck_some h
      obtain ⟨s5, hs5, h⟩ := bs_some h
      refine r_fastore hX (p2 := 289) (j := ((12 * x1) + x4).toNat) rfl rfl (ha637 0 (by decide)) rfl rfl c4 rfl hs5 ?_
      refine r_fload_n hX (p2 := 290) rfl rfl rfl ?_
      refine r_aload_n hX (p2 := 291) rfl rfl rfl ⟨_, Or.inl rfl⟩ ?_
      refine r_gf hX (p2 := 294) (v := vR (ca 634 0)) rfl rfl (hc6 0 (by decide)) rfl rfl rfl ?_
      refine r_bipush hX (p2 := 296) rfl rfl rfl ?_
      refine r_iload_n hX (p2 := 297) rfl rfl rfl ?_
      obtain ⟨c6, h⟩ := ck_some h
      refine r_imul hX (p2 := 298) rfl rfl c6 ?_
      refine r_iload hX (p2 := 300) rfl rfl rfl ?_
      obtain ⟨c7, h⟩ := ck_some h
      refine r_iadd hX (p2 := 301) rfl rfl c7 ?_
      obtain ⟨c8, h⟩ := ck_some h
      refine r_faload hX (p2 := 302) (j := ((12 * x1) + x4).toNat) rfl rfl (ha634 0 (by decide)) rfl rfl c8 rfl ?_
      obtain ⟨c9, h⟩ := ck_some h
      refine r_fadd hX (p2 := 303) rfl rfl c9 ?_
      obtain ⟨v10, hv10, h⟩ := bs_some h
      refine r_fstoreE_n hX (p2 := 304) (ls2 := [some (vR (cc 6 0)), some (vI x1), d2, some (vF v10), some (vI x4), d5, d6]) rfl rfl hv10 rfl (st1_nc rfl hd2 rfl) ?_
      refine r_fload_n hX (p2 := 305) rfl rfl rfl ?_
      refine r_aload_n hX (p2 := 306) rfl rfl rfl ⟨_, Or.inl rfl⟩ ?_
      refine r_gf hX (p2 := 309) (v := vR (ca 627 0)) rfl rfl (hc6 0 (by decide)) rfl rfl rfl ?_
      refine r_iload_n hX (p2 := 310) rfl rfl rfl ?_
      obtain ⟨c11, h⟩ := ck_some h
      refine r_faload hX (p2 := 311) (j := x1.toNat) rfl rfl (ha627 0 (by decide)) rfl rfl c11 rfl ?_
      obtain ⟨c12, h⟩ := ck_some h
      refine r_fadd hX (p2 := 312) rfl rfl c12 ?_
      obtain ⟨v13, hv13, h⟩ := bs_some h
      refine r_fstoreE_n hX (p2 := 313) (ls2 := [some (vR (cc 6 0)), some (vI x1), d2, some (vF v13), some (vI x4), d5, d6]) rfl rfl hv13 rfl (st1_nc rfl hd2 rfl) ?_
      obtain ⟨c14, h⟩ := ck_some h
      refine r_iinc hX (p2 := 316) (ls2 := [some (vR (cc 6 0)), some (vI x1), d2, some (vF v13), some (vI (x4 + 1)), d5, d6]) rfl rfl rfl rfl c14 rfl ?_
      refine r_goto hX (p2 := 265) rfl (by decide) ?_
      exact ih x1 v13 (x4 + 1) d2 d5 d6 hd2 s5 h
noncomputable def f_X6_sizes_337 (K398 : Int → Int → UInt32 → pS → Option (pS)) : Nat → Int → Int → UInt32 → Int → pS → Option (pS)
  | 0, _, _, _, _, _ => none
  | n + 1, x1, x4, x5, x6, s => ck (inR (2 * x4)) (ck (inR ((2 * x4) + x1)) (ck (0 ≤ ((2 * x4) + x1) ∧ ((2 * x4) + x1) < 20) ((if (sA s 621 0 ((2 * x4) + x1).toNat) ≤ x6 then K398 x1 x4 x5 s else ck (inR (2 * x4)) (ck (inR ((2 * x4) + x1)) (ck (0 ≤ ((2 * x4) + x1) ∧ ((2 * x4) + x1) < 20) ((if (sA s 631 0 ((2 * x4) + x1).toNat) ≤ 0 then K398 x1 x4 x5 s else ck (inR (12 * x1)) ((f_X6_firstOf x1 x4 s).bind (fun q8 => ck (inR ((12 * x1) + q8.1)) (ck (inR (((12 * x1) + q8.1) + x6)) (ck (0 ≤ (((12 * x1) + q8.1) + x6) ∧ (((12 * x1) + q8.1) + x6) < 24) (ck (vf_n32 (FP.fadd x5 (sB q8.2 634 0 (((12 * x1) + q8.1) + x6).toNat))) (bs ((FP.fadd x5 (sB q8.2 634 0 (((12 * x1) + q8.1) + x6).toNat))) (fun v13 => ck (inR (x6 + 1)) (f_X6_sizes_337 K398 n x1 x4 v13 (x6 + 1) q8.2))))))))))))))))
set_option maxRecDepth 10000 in
theorem t_X6_sizes_337 (xs : Nat → Int) (e : Nat) (q : pS) (X : List (Option pV) → List pV → Nat → pH → Prop) (hX : pm_clo 1001 xs (pCall pm_tx 1001 xs pm_P (e + 3)) (e + 3) mX6_sizes (eU q) X) (K398 : Int → Int → UInt32 → pS → Option (pS)) (hK398 : ∀ (x1 : Int) (x4 : Int) (x5 : UInt32) (d2 : Option pV) (d3 : Option pV) (d6 : Option pV) (hd3 : pm_nc d3) (s : pS), K398 x1 x4 x5 s = some q → X [some (vR (cc 6 0)), some (vI x1), d2, d3, some (vI x4), some (vF x5), d6] [] 398 (pW s)) : ∀ (n : Nat) (x1 : Int) (x4 : Int) (x5 : UInt32) (x6 : Int) (d2 : Option pV) (d3 : Option pV) (hd3 : pm_nc d3) (s : pS), f_X6_sizes_337 K398 n x1 x4 x5 x6 s = some q → X [some (vR (cc 6 0)), some (vI x1), d2, d3, some (vI x4), some (vF x5), some (vI x6)] [] 337 (pW s) := by
  intro n
  induction n with
  | zero =>
    intro x1 x4 x5 x6 d2 d3 hd3 s h
    rw [f_X6_sizes_337] at h
    cases h
  | succ n ih =>
    intro x1 x4 x5 x6 d2 d3 hd3 s h
    rw [f_X6_sizes_337] at h
    refine r_iload hX (p2 := 339) rfl rfl rfl ?_
    refine r_aload_n hX (p2 := 340) rfl rfl rfl ⟨_, Or.inl rfl⟩ ?_
    refine r_gf hX (p2 := 343) (v := vR (ca 621 0)) rfl rfl (hc6 0 (by decide)) rfl rfl rfl ?_
    refine r_iconst hX (p2 := 344) rfl rfl rfl ?_
    refine r_iload hX (p2 := 346) rfl rfl rfl ?_
    obtain ⟨c1, h⟩ := ck_some h
    refine r_imul hX (p2 := 347) rfl rfl c1 ?_
    refine r_iload_n hX (p2 := 348) rfl rfl rfl ?_
    obtain ⟨c2, h⟩ := ck_some h
    refine r_iadd hX (p2 := 349) rfl rfl c2 ?_
    obtain ⟨c3, h⟩ := ck_some h
    refine r_iaload hX (p2 := 350) (j := ((2 * x4) + x1).toNat) rfl rfl (ha621 0 (by decide)) rfl rfl c3 rfl ?_
    refine r_icmp hX (p2 := 398) (p3 := 353) (P := (sA s 621 0 ((2 * x4) + x1).toNat) ≤ x6) rfl (by decide) rfl rfl (fun p16 => ?_) (fun p16 => ?_)
    · have h := it_pos h p16
      exact hK398 x1 x4 x5 d2 d3 (some (vI x6)) hd3 s h
    · have h := it_neg h p16
      refine r_aload_n hX (p2 := 354) rfl rfl rfl ⟨_, Or.inl rfl⟩ ?_
      refine r_gf hX (p2 := 357) (v := vR (ca 631 0)) rfl rfl (hc6 0 (by decide)) rfl rfl rfl ?_
      refine r_iconst hX (p2 := 358) rfl rfl rfl ?_
      refine r_iload hX (p2 := 360) rfl rfl rfl ?_
      obtain ⟨c4, h⟩ := ck_some h
      refine r_imul hX (p2 := 361) rfl rfl c4 ?_
      refine r_iload_n hX (p2 := 362) rfl rfl rfl ?_
      obtain ⟨c5, h⟩ := ck_some h
      refine r_iadd hX (p2 := 363) rfl rfl c5 ?_
      obtain ⟨c6, h⟩ := ck_some h
      refine r_iaload hX (p2 := 364) (j := ((2 * x4) + x1).toNat) rfl rfl (ha631 0 (by decide)) rfl rfl c6 rfl ?_
      refine r_if hX (p2 := 398) (p3 := 367) (P := (sA s 631 0 ((2 * x4) + x1).toNat) ≤ 0) rfl (by decide) rfl rfl (fun p15 => ?_) (fun p15 => ?_)
      · have h := it_pos h p15
        exact hK398 x1 x4 x5 d2 d3 (some (vI x6)) hd3 s h
      · have h := it_neg h p15
        refine r_fload hX (p2 := 369) rfl rfl rfl ?_
        refine r_aload_n hX (p2 := 370) rfl rfl rfl ⟨_, Or.inl rfl⟩ ?_
        refine r_gf hX (p2 := 373) (v := vR (ca 634 0)) rfl rfl (hc6 0 (by decide)) rfl rfl rfl ?_
        refine r_bipush hX (p2 := 375) rfl rfl rfl ?_
        refine r_iload_n hX (p2 := 376) rfl rfl rfl ?_
        obtain ⟨c7, h⟩ := ck_some h
        refine r_imul hX (p2 := 377) rfl rfl c7 ?_
        refine r_aload_n hX (p2 := 378) rfl rfl rfl ⟨_, Or.inl rfl⟩ ?_
        refine r_iload_n hX (p2 := 379) rfl rfl rfl ?_
        refine r_iload hX (p2 := 381) rfl rfl rfl ?_
        obtain ⟨q8, hq8, h⟩ := bd_some h
        refine r_callv hX (p2 := 384) (v := some (vI q8.1)) (as := [vI x1, vI x4]) (r := [vI (12 * x1), vR (ca 634 0), vF x5]) (st2 := [vI q8.1, vI (12 * x1), vR (ca 634 0), vF x5]) rfl rfl rfl rfl rfl (hc6 0 (by decide)) rfl rfl (c_X6_firstOf xs (e + 2) x1 x4 s q8 hq8) ?_
        obtain ⟨c9, h⟩ := ck_some h
        refine r_iadd hX (p2 := 385) rfl rfl c9 ?_
        refine r_iload hX (p2 := 387) rfl rfl rfl ?_
        obtain ⟨c10, h⟩ := ck_some h
        refine r_iadd hX (p2 := 388) rfl rfl c10 ?_
        obtain ⟨c11, h⟩ := ck_some h
        refine r_faload hX (p2 := 389) (j := (((12 * x1) + q8.1) + x6).toNat) rfl rfl (ha634 0 (by decide)) rfl rfl c11 rfl ?_
        obtain ⟨c12, h⟩ := ck_some h
        refine r_fadd hX (p2 := 390) rfl rfl c12 ?_
        obtain ⟨v13, hv13, h⟩ := bs_some h
        refine r_fstoreE hX (p2 := 392) (ls2 := [some (vR (cc 6 0)), some (vI x1), d2, d3, some (vI x4), some (vF v13), some (vI x6)]) rfl rfl hv13 rfl rfl ?_
        obtain ⟨c14, h⟩ := ck_some h
        refine r_iinc hX (p2 := 395) (ls2 := [some (vR (cc 6 0)), some (vI x1), d2, d3, some (vI x4), some (vF v13), some (vI (x6 + 1))]) rfl rfl rfl rfl c14 rfl ?_
        refine r_goto hX (p2 := 337) rfl (by decide) ?_
        exact ih x1 x4 v13 (x6 + 1) d2 d3 hd3 q8.2 h
noncomputable def f_X6_sizes_401 (K448 : Int → Int → UInt32 → pS → Option (pS)) : Nat → Int → Int → UInt32 → Int → pS → Option (pS)
  | 0, _, _, _, _, _ => none
  | n + 1, x1, x4, x5, x6, s => ck (inR (2 * x4)) (ck (inR ((2 * x4) + x1)) (ck (0 ≤ ((2 * x4) + x1) ∧ ((2 * x4) + x1) < 20) ((if (sA s 621 0 ((2 * x4) + x1).toNat) ≤ x6 then K448 x1 x4 x5 s else ck (inR (2 * x4)) (ck (inR ((2 * x4) + x1)) (ck (0 ≤ ((2 * x4) + x1) ∧ ((2 * x4) + x1) < 20) ((if (sA s 631 0 ((2 * x4) + x1).toNat) ≤ 0 then K448 x1 x4 x5 s else ck (0 ≤ x1 ∧ x1 < 2) (ck (vf_n32 (FP.fadd x5 (sB s 627 0 x1.toNat))) (bs ((FP.fadd x5 (sB s 627 0 x1.toNat))) (fun v9 => ck (inR (x6 + 1)) (f_X6_sizes_401 K448 n x1 x4 v9 (x6 + 1) s))))))))))))
set_option maxRecDepth 10000 in
theorem t_X6_sizes_401 (xs : Nat → Int) (e : Nat) (q : pS) (X : List (Option pV) → List pV → Nat → pH → Prop) (hX : pm_clo 1001 xs (pCall pm_tx 1001 xs pm_P (e + 3)) (e + 3) mX6_sizes (eU q) X) (K448 : Int → Int → UInt32 → pS → Option (pS)) (hK448 : ∀ (x1 : Int) (x4 : Int) (x5 : UInt32) (d2 : Option pV) (d3 : Option pV) (d6 : Option pV) (hd3 : pm_nc d3) (s : pS), K448 x1 x4 x5 s = some q → X [some (vR (cc 6 0)), some (vI x1), d2, d3, some (vI x4), some (vF x5), d6] [] 448 (pW s)) : ∀ (n : Nat) (x1 : Int) (x4 : Int) (x5 : UInt32) (x6 : Int) (d2 : Option pV) (d3 : Option pV) (hd3 : pm_nc d3) (s : pS), f_X6_sizes_401 K448 n x1 x4 x5 x6 s = some q → X [some (vR (cc 6 0)), some (vI x1), d2, d3, some (vI x4), some (vF x5), some (vI x6)] [] 401 (pW s) := by
  intro n
  induction n with
  | zero =>
    intro x1 x4 x5 x6 d2 d3 hd3 s h
    rw [f_X6_sizes_401] at h
    cases h
  | succ n ih =>
    intro x1 x4 x5 x6 d2 d3 hd3 s h
    rw [f_X6_sizes_401] at h
    refine r_iload hX (p2 := 403) rfl rfl rfl ?_
    refine r_aload_n hX (p2 := 404) rfl rfl rfl ⟨_, Or.inl rfl⟩ ?_
    refine r_gf hX (p2 := 407) (v := vR (ca 621 0)) rfl rfl (hc6 0 (by decide)) rfl rfl rfl ?_
    refine r_iconst hX (p2 := 408) rfl rfl rfl ?_
    refine r_iload hX (p2 := 410) rfl rfl rfl ?_
    obtain ⟨c1, h⟩ := ck_some h
    refine r_imul hX (p2 := 411) rfl rfl c1 ?_
    refine r_iload_n hX (p2 := 412) rfl rfl rfl ?_
    obtain ⟨c2, h⟩ := ck_some h
    refine r_iadd hX (p2 := 413) rfl rfl c2 ?_
    obtain ⟨c3, h⟩ := ck_some h
    refine r_iaload hX (p2 := 414) (j := ((2 * x4) + x1).toNat) rfl rfl (ha621 0 (by decide)) rfl rfl c3 rfl ?_
    refine r_icmp hX (p2 := 448) (p3 := 417) (P := (sA s 621 0 ((2 * x4) + x1).toNat) ≤ x6) rfl (by decide) rfl rfl (fun p12 => ?_) (fun p12 => ?_)
    · have h := it_pos h p12
      exact hK448 x1 x4 x5 d2 d3 (some (vI x6)) hd3 s h
    · have h := it_neg h p12
      refine r_aload_n hX (p2 := 418) rfl rfl rfl ⟨_, Or.inl rfl⟩ ?_
      refine r_gf hX (p2 := 421) (v := vR (ca 631 0)) rfl rfl (hc6 0 (by decide)) rfl rfl rfl ?_
      refine r_iconst hX (p2 := 422) rfl rfl rfl ?_
      refine r_iload hX (p2 := 424) rfl rfl rfl ?_
      obtain ⟨c4, h⟩ := ck_some h
      refine r_imul hX (p2 := 425) rfl rfl c4 ?_
      refine r_iload_n hX (p2 := 426) rfl rfl rfl ?_
      obtain ⟨c5, h⟩ := ck_some h
      refine r_iadd hX (p2 := 427) rfl rfl c5 ?_
      obtain ⟨c6, h⟩ := ck_some h
      refine r_iaload hX (p2 := 428) (j := ((2 * x4) + x1).toNat) rfl rfl (ha631 0 (by decide)) rfl rfl c6 rfl ?_
      refine r_if hX (p2 := 448) (p3 := 431) (P := (sA s 631 0 ((2 * x4) + x1).toNat) ≤ 0) rfl (by decide) rfl rfl (fun p11 => ?_) (fun p11 => ?_)
      · have h := it_pos h p11
        exact hK448 x1 x4 x5 d2 d3 (some (vI x6)) hd3 s h
      · have h := it_neg h p11
        refine r_fload hX (p2 := 433) rfl rfl rfl ?_
        refine r_aload_n hX (p2 := 434) rfl rfl rfl ⟨_, Or.inl rfl⟩ ?_
        refine r_gf hX (p2 := 437) (v := vR (ca 627 0)) rfl rfl (hc6 0 (by decide)) rfl rfl rfl ?_
        refine r_iload_n hX (p2 := 438) rfl rfl rfl ?_
        obtain ⟨c7, h⟩ := ck_some h
        refine r_faload hX (p2 := 439) (j := x1.toNat) rfl rfl (ha627 0 (by decide)) rfl rfl c7 rfl ?_
        obtain ⟨c8, h⟩ := ck_some h
        refine r_fadd hX (p2 := 440) rfl rfl c8 ?_
        obtain ⟨v9, hv9, h⟩ := bs_some h
        refine r_fstoreE hX (p2 := 442) (ls2 := [some (vR (cc 6 0)), some (vI x1), d2, d3, some (vI x4), some (vF v9), some (vI x6)]) rfl rfl hv9 rfl rfl ?_
        obtain ⟨c10, h⟩ := ck_some h
        refine r_iinc hX (p2 := 445) (ls2 := [some (vR (cc 6 0)), some (vI x1), d2, d3, some (vI x4), some (vF v9), some (vI (x6 + 1))]) rfl rfl rfl rfl c10 rfl ?_
        refine r_goto hX (p2 := 401) rfl (by decide) ?_
        exact ih x1 x4 v9 (x6 + 1) d2 d3 hd3 s h
noncomputable def f_X6_sizes_448 (K322 : Int → Int → pS → Option (pS)) (K467 : pS → Option (pS)) (x1 : Int) (x4 : Int) (x5 : UInt32) (s : pS) : Option (pS) := ck (inR (2 * x4)) (ck (inR ((2 * x4) + x1)) (ck (0 ≤ ((2 * x4) + x1) ∧ ((2 * x4) + x1) < 20) (bs (wB s 632 0 (pm_up (sB s 632 0) ((2 * x4) + x1).toNat x5)) (fun s4 => ck (inR (x4 + 1)) (K322 x1 (x4 + 1) s4)))))
set_option maxRecDepth 10000 in
theorem t_X6_sizes_448 (xs : Nat → Int) (e : Nat) (q : pS) (X : List (Option pV) → List pV → Nat → pH → Prop) (hX : pm_clo 1001 xs (pCall pm_tx 1001 xs pm_P (e + 3)) (e + 3) mX6_sizes (eU q) X) (K322 : Int → Int → pS → Option (pS)) (K467 : pS → Option (pS)) (hK322 : ∀ (x1 : Int) (x4 : Int) (d2 : Option pV) (d3 : Option pV) (d5 : Option pV) (d6 : Option pV) (hd3 : pm_nc d3) (s : pS), K322 x1 x4 s = some q → X [some (vR (cc 6 0)), some (vI x1), d2, d3, some (vI x4), d5, d6] [] 322 (pW s)) (hK467 : ∀ (d0 : Option pV) (d1 : Option pV) (d2 : Option pV) (d3 : Option pV) (d4 : Option pV) (d5 : Option pV) (d6 : Option pV) (s : pS), K467 s = some q → X [d0, d1, d2, d3, d4, d5, d6] [] 467 (pW s)) : ∀  (x1 : Int) (x4 : Int) (x5 : UInt32) (d2 : Option pV) (d3 : Option pV) (d6 : Option pV) (hd3 : pm_nc d3) (s : pS), f_X6_sizes_448 K322 K467 x1 x4 x5 s = some q → X [some (vR (cc 6 0)), some (vI x1), d2, d3, some (vI x4), some (vF x5), d6] [] 448 (pW s) := by
  intro x1 x4 x5 d2 d3 d6 hd3 s h
  unfold f_X6_sizes_448 at h
  refine r_aload_n hX (p2 := 449) rfl rfl rfl ⟨_, Or.inl rfl⟩ ?_
  refine r_gf hX (p2 := 452) (v := vR (ca 632 0)) rfl rfl (hc6 0 (by decide)) rfl rfl rfl ?_
  refine r_iconst hX (p2 := 453) rfl rfl rfl ?_
  refine r_iload hX (p2 := 455) rfl rfl rfl ?_
  obtain ⟨c1, h⟩ := ck_some h
  refine r_imul hX (p2 := 456) rfl rfl c1 ?_
  refine r_iload_n hX (p2 := 457) rfl rfl rfl ?_
  obtain ⟨c2, h⟩ := ck_some h
  refine r_iadd hX (p2 := 458) rfl rfl c2 ?_
  refine r_fload hX (p2 := 460) rfl rfl rfl ?_
  obtain ⟨c3, h⟩ := ck_some h
  obtain ⟨s4, hs4, h⟩ := bs_some h
  refine r_fastore hX (p2 := 461) (j := ((2 * x4) + x1).toNat) rfl rfl (ha632 0 (by decide)) rfl rfl c3 rfl hs4 ?_
  obtain ⟨c5, h⟩ := ck_some h
  refine r_iinc hX (p2 := 464) (ls2 := [some (vR (cc 6 0)), some (vI x1), d2, d3, some (vI (x4 + 1)), some (vF x5), d6]) rfl rfl rfl rfl c5 (st1_nc rfl hd3 rfl) ?_
  refine r_goto hX (p2 := 322) rfl (by decide) ?_
  exact hK322 x1 (x4 + 1) d2 d3 (some (vF x5)) d6 hd3 s4 h
noncomputable def f_X6_sizes_398 (K322 : Int → Int → pS → Option (pS)) (K467 : pS → Option (pS)) (x1 : Int) (x4 : Int) (x5 : UInt32) (s : pS) : Option (pS) := f_X6_sizes_401 (fun x1 x4 x5 s1 => f_X6_sizes_448 K322 K467 x1 x4 x5 s1) 400 x1 x4 x5 1 s
set_option maxRecDepth 10000 in
theorem t_X6_sizes_398 (xs : Nat → Int) (e : Nat) (q : pS) (X : List (Option pV) → List pV → Nat → pH → Prop) (hX : pm_clo 1001 xs (pCall pm_tx 1001 xs pm_P (e + 3)) (e + 3) mX6_sizes (eU q) X) (K322 : Int → Int → pS → Option (pS)) (K467 : pS → Option (pS)) (hK322 : ∀ (x1 : Int) (x4 : Int) (d2 : Option pV) (d3 : Option pV) (d5 : Option pV) (d6 : Option pV) (hd3 : pm_nc d3) (s : pS), K322 x1 x4 s = some q → X [some (vR (cc 6 0)), some (vI x1), d2, d3, some (vI x4), d5, d6] [] 322 (pW s)) (hK467 : ∀ (d0 : Option pV) (d1 : Option pV) (d2 : Option pV) (d3 : Option pV) (d4 : Option pV) (d5 : Option pV) (d6 : Option pV) (s : pS), K467 s = some q → X [d0, d1, d2, d3, d4, d5, d6] [] 467 (pW s)) : ∀  (x1 : Int) (x4 : Int) (x5 : UInt32) (d2 : Option pV) (d3 : Option pV) (d6 : Option pV) (hd3 : pm_nc d3) (s : pS), f_X6_sizes_398 K322 K467 x1 x4 x5 s = some q → X [some (vR (cc 6 0)), some (vI x1), d2, d3, some (vI x4), some (vF x5), d6] [] 398 (pW s) := by
  intro x1 x4 x5 d2 d3 d6 hd3 s h
  unfold f_X6_sizes_398 at h
  refine r_iconst hX (p2 := 399) rfl rfl rfl ?_
  refine r_istore hX (p2 := 401) (ls2 := [some (vR (cc 6 0)), some (vI x1), d2, d3, some (vI x4), some (vF x5), some (vI 1)]) rfl rfl rfl rfl ?_
  refine t_X6_sizes_401 xs e q X hX _ (fun x1 x4 x5 d2 d3 d6 hd3 s1 h => ?_) 400 x1 x4 x5 1 d2 d3 hd3 s h
  exact t_X6_sizes_448 xs e q X hX _ _ hK322 hK467 x1 x4 x5 d2 d3 d6 hd3 s1 h
noncomputable def f_X6_sizes_322 (K467 : pS → Option (pS)) : Nat → Int → Int → pS → Option (pS)
  | 0, _, _, _ => none
  | n + 1, x1, x4, s => (if (sI s 619 0) ≤ x4 then K467 s else f_X6_sizes_337 (fun x1 x4 x5 s1 => f_X6_sizes_398 (f_X6_sizes_322 K467 n) K467 x1 x4 x5 s1) 400 x1 x4 FP.fconst0 0 s)
set_option maxRecDepth 10000 in
theorem t_X6_sizes_322 (xs : Nat → Int) (e : Nat) (q : pS) (X : List (Option pV) → List pV → Nat → pH → Prop) (hX : pm_clo 1001 xs (pCall pm_tx 1001 xs pm_P (e + 3)) (e + 3) mX6_sizes (eU q) X) (K467 : pS → Option (pS)) (hK467 : ∀ (d0 : Option pV) (d1 : Option pV) (d2 : Option pV) (d3 : Option pV) (d4 : Option pV) (d5 : Option pV) (d6 : Option pV) (s : pS), K467 s = some q → X [d0, d1, d2, d3, d4, d5, d6] [] 467 (pW s)) : ∀ (n : Nat) (x1 : Int) (x4 : Int) (d2 : Option pV) (d3 : Option pV) (d5 : Option pV) (d6 : Option pV) (hd3 : pm_nc d3) (s : pS), f_X6_sizes_322 K467 n x1 x4 s = some q → X [some (vR (cc 6 0)), some (vI x1), d2, d3, some (vI x4), d5, d6] [] 322 (pW s) := by
  intro n
  induction n with
  | zero =>
    intro x1 x4 d2 d3 d5 d6 hd3 s h
    rw [f_X6_sizes_322] at h
    cases h
  | succ n ih =>
    intro x1 x4 d2 d3 d5 d6 hd3 s h
    rw [f_X6_sizes_322] at h
    refine r_iload hX (p2 := 324) rfl rfl rfl ?_
    refine r_aload_n hX (p2 := 325) rfl rfl rfl ⟨_, Or.inl rfl⟩ ?_
    refine r_gf hX (p2 := 328) (v := vI (sI s 619 0)) rfl rfl (hc6 0 (by decide)) rfl rfl rfl ?_
    refine r_icmp hX (p2 := 467) (p3 := 331) (P := (sI s 619 0) ≤ x4) rfl (by decide) rfl rfl (fun p2 => ?_) (fun p2 => ?_)
    · have h := it_pos h p2
      exact hK467 (some (vR (cc 6 0))) (some (vI x1)) d2 d3 (some (vI x4)) d5 d6 s h
    · have h := it_neg h p2
      refine r_fconst0 hX (p2 := 332) rfl rfl ?_
      refine r_fstore hX (p2 := 334) (ls2 := [some (vR (cc 6 0)), some (vI x1), d2, d3, some (vI x4), some (vF FP.fconst0), d6]) rfl rfl rfl rfl ?_
      refine r_iconst hX (p2 := 335) rfl rfl rfl ?_
      refine r_istore hX (p2 := 337) (ls2 := [some (vR (cc 6 0)), some (vI x1), d2, d3, some (vI x4), some (vF FP.fconst0), some (vI 0)]) rfl rfl rfl rfl ?_
      refine t_X6_sizes_337 xs e q X hX _ (fun x1 x4 x5 d2 d3 d6 hd3 s1 h => ?_) 400 x1 x4 FP.fconst0 0 d2 d3 hd3 s h
      exact t_X6_sizes_398 xs e q X hX _ _ ih hK467 x1 x4 x5 d2 d3 d6 hd3 s1 h
noncomputable def f_X6_sizes_261 (x1 : Int) (y0 : UInt32) (s : pS) : Option (pS) := f_X6_sizes_265 (fun x1 s1 => f_X6_sizes_322 (fun s2 => some s2) 400 x1 0 s1) 400 x1 y0 0 s
set_option maxRecDepth 10000 in
theorem t_X6_sizes_261 (xs : Nat → Int) (e : Nat) (q : pS) (X : List (Option pV) → List pV → Nat → pH → Prop) (hX : pm_clo 1001 xs (pCall pm_tx 1001 xs pm_P (e + 3)) (e + 3) mX6_sizes (eU q) X) : ∀  (x1 : Int) (y0 : UInt32) (d2 : Option pV) (d3 : Option pV) (d4 : Option pV) (d5 : Option pV) (d6 : Option pV) (hd2 : pm_nc d2) (s : pS), f_X6_sizes_261 x1 y0 s = some q → X [some (vR (cc 6 0)), some (vI x1), d2, d3, d4, d5, d6] [vF y0] 261 (pW s) := by
  intro x1 y0 d2 d3 d4 d5 d6 hd2 s h
  unfold f_X6_sizes_261 at h
  refine r_fstore_n hX (p2 := 262) (ls2 := [some (vR (cc 6 0)), some (vI x1), d2, some (vF y0), d4, d5, d6]) rfl rfl rfl (st1_nc rfl hd2 rfl) ?_
  refine r_iconst hX (p2 := 263) rfl rfl rfl ?_
  refine r_istore hX (p2 := 265) (ls2 := [some (vR (cc 6 0)), some (vI x1), d2, some (vF y0), some (vI 0), d5, d6]) rfl rfl rfl rfl ?_
  refine t_X6_sizes_265 xs e q X hX _ (fun x1 d2 d3 d4 d5 d6 hd3 s1 h => ?_) 400 x1 y0 0 d2 d5 d6 hd2 s h
  refine r_iconst hX (p2 := 320) rfl rfl rfl ?_
  refine r_istore hX (p2 := 322) (ls2 := [some (vR (cc 6 0)), some (vI x1), d2, d3, some (vI 0), d5, d6]) rfl rfl rfl (st1_nc rfl hd3 rfl) ?_
  refine t_X6_sizes_322 xs e q X hX _ (fun d0 d1 d2 d3 d4 d5 d6 s2 h => ?_) 400 x1 0 d2 d3 d5 d6 hd3 s1 h
  exact r_return hX rfl rfl (eU_ok h)
noncomputable def f_X6_sizes_229 (x1 : Int) (y0 : UInt32) (s : pS) : Option (pS) := ck (0 ≤ x1 ∧ x1 < 2) ((if (sA s 628 0 x1.toNat) ≠ 1 then ck (0 ≤ x1 ∧ x1 < 2) ((if (sA s 628 0 x1.toNat) ≠ 2 then f_X6_sizes_261 x1 FP.fconst0 s else f_X6_sizes_261 x1 y0 s)) else ck (vf_n32 (FP.fdiv y0 FP.fconst2)) (f_X6_sizes_261 x1 (FP.fdiv y0 FP.fconst2) s)))
set_option maxRecDepth 10000 in
theorem t_X6_sizes_229 (xs : Nat → Int) (e : Nat) (q : pS) (X : List (Option pV) → List pV → Nat → pH → Prop) (hX : pm_clo 1001 xs (pCall pm_tx 1001 xs pm_P (e + 3)) (e + 3) mX6_sizes (eU q) X) : ∀  (x1 : Int) (y0 : UInt32) (d2 : Option pV) (d3 : Option pV) (d4 : Option pV) (d5 : Option pV) (d6 : Option pV) (s : pS), f_X6_sizes_229 x1 y0 s = some q → X [some (vR (cc 6 0)), some (vI x1), d2, d3, d4, d5, d6] [vF y0] 229 (pW s) := by
  intro x1 y0 d2 d3 d4 d5 d6 s h
  unfold f_X6_sizes_229 at h
  refine r_fstore_n hX (p2 := 230) (ls2 := [some (vR (cc 6 0)), some (vI x1), some (vF y0), d3, d4, d5, d6]) rfl rfl rfl rfl ?_
  refine r_aload_n hX (p2 := 231) rfl rfl rfl ⟨_, Or.inl rfl⟩ ?_
  refine r_gf hX (p2 := 234) (v := vR (ca 628 0)) rfl rfl (hc6 0 (by decide)) rfl rfl rfl ?_
  refine r_iload_n hX (p2 := 235) rfl rfl rfl ?_
  obtain ⟨c1, h⟩ := ck_some h
  refine r_iaload hX (p2 := 236) (j := x1.toNat) rfl rfl (ha628 0 (by decide)) rfl rfl c1 rfl ?_
  refine r_iconst hX (p2 := 237) rfl rfl rfl ?_
  refine r_icmp hX (p2 := 246) (p3 := 240) (P := (sA s 628 0 x1.toNat) ≠ 1) rfl (by decide) rfl rfl (fun p5 => ?_) (fun p5 => ?_)
  · have h := it_pos h p5
    refine r_aload_n hX (p2 := 247) rfl rfl rfl ⟨_, Or.inl rfl⟩ ?_
    refine r_gf hX (p2 := 250) (v := vR (ca 628 0)) rfl rfl (hc6 0 (by decide)) rfl rfl rfl ?_
    refine r_iload_n hX (p2 := 251) rfl rfl rfl ?_
    obtain ⟨c2, h⟩ := ck_some h
    refine r_iaload hX (p2 := 252) (j := x1.toNat) rfl rfl (ha628 0 (by decide)) rfl rfl c2 rfl ?_
    refine r_iconst hX (p2 := 253) rfl rfl rfl ?_
    refine r_icmp hX (p2 := 260) (p3 := 256) (P := (sA s 628 0 x1.toNat) ≠ 2) rfl (by decide) rfl rfl (fun p3 => ?_) (fun p3 => ?_)
    · have h := it_pos h p3
      refine r_fconst0 hX (p2 := 261) rfl rfl ?_
      exact t_X6_sizes_261 xs e q X hX x1 FP.fconst0 (some (vF y0)) d3 d4 d5 d6 rfl s h
    · have h := it_neg h p3
      refine r_fload_n hX (p2 := 257) rfl rfl rfl ?_
      refine r_goto hX (p2 := 261) rfl (by decide) ?_
      exact t_X6_sizes_261 xs e q X hX x1 y0 (some (vF y0)) d3 d4 d5 d6 rfl s h
  · have h := it_neg h p5
    refine r_fload_n hX (p2 := 241) rfl rfl rfl ?_
    refine r_fconst2 hX (p2 := 242) rfl rfl ?_
    obtain ⟨c4, h⟩ := ck_some h
    refine r_fdiv hX (p2 := 243) rfl rfl c4 ?_
    refine r_goto hX (p2 := 261) rfl (by decide) ?_
    exact t_X6_sizes_261 xs e q X hX x1 (FP.fdiv y0 FP.fconst2) (some (vF y0)) d3 d4 d5 d6 rfl s h
noncomputable def f_X6_sizes (a1 : Int) (s : pS) : Option (pS) := (f_X6_begin a1 s).bind (fun q1 => f_X6_sizes_7 (fun x1 s2 => f_X6_sizes_39 (fun x1 s3 => f_X6_sizes_84 (fun x1 s4 => f_X6_sizes_129 (fun x1 s5 => (f_X6_fill x1 s5).bind (fun q6 => (f_X6_shares x1 q6).bind (fun q7 => (f_X6_stretch x1 q7).bind (fun q8 => ck (0 ≤ x1 ∧ x1 < 2) ((if (pm_fc .l (sB q8 638 0 x1.toNat) FP.fconst0) ≤ 0 then f_X6_sizes_229 x1 FP.fconst0 q8 else ck (0 ≤ x1 ∧ x1 < 2) (f_X6_sizes_229 x1 (sB q8 638 0 x1.toNat) q8))))))) 400 x1 0 s4) 400 x1 2 s3) 400 x1 2 s2) 400 a1 0 q1)
set_option maxRecDepth 10000 in
theorem c_X6_sizes (xs : Nat → Int) (e : Nat) (a1 : Int) (s : pS) (q : pS) (h : f_X6_sizes a1 s = some q) : pCall pm_tx 1001 xs pm_P (e + 3 + 1) 154 [vR (cc 6 0), vI a1] (pW s) (.inl none) (pW q) := by
  refine pCall_of mX6_sizes rfl rfl (fun X hX => ?_)
  show X [some (vR (cc 6 0)), some (vI a1), none, none, none, none, none] [] 0 (pW s)
  replace hX : pm_clo 1001 xs (pCall pm_tx 1001 xs pm_P (e + 3)) (e + 3) mX6_sizes (eU q) X := hX
  unfold f_X6_sizes at h
  refine r_aload_n hX (p2 := 1) rfl rfl rfl ⟨_, Or.inl rfl⟩ ?_
  refine r_iload_n hX (p2 := 2) rfl rfl rfl ?_
  obtain ⟨q1, hq1, h⟩ := bd_some h
  refine r_callv hX (p2 := 5) (v := none) (as := [vI a1]) (r := []) (st2 := []) rfl rfl rfl rfl rfl (hc6 0 (by decide)) rfl rfl (c_X6_begin xs (e + 1) a1 s q1 hq1) ?_
  refine r_iconst hX (p2 := 6) rfl rfl rfl ?_
  refine r_istore_n hX (p2 := 7) (ls2 := [some (vR (cc 6 0)), some (vI a1), some (vI 0), none, none, none, none]) rfl rfl rfl rfl ?_
  refine t_X6_sizes_7 xs e q X hX _ (fun x1 d2 d3 d4 d5 d6 s2 h => ?_) 400 a1 0 none none none none q1 h
  refine r_iconst hX (p2 := 38) rfl rfl rfl ?_
  refine r_istore_n hX (p2 := 39) (ls2 := [some (vR (cc 6 0)), some (vI x1), some (vI 2), d3, d4, d5, d6]) rfl rfl rfl rfl ?_
  refine t_X6_sizes_39 xs e q X hX _ (fun x1 d2 d3 d4 d5 d6 s3 h => ?_) 400 x1 2 d3 d4 d5 d6 s2 h
  refine r_iconst hX (p2 := 83) rfl rfl rfl ?_
  refine r_istore_n hX (p2 := 84) (ls2 := [some (vR (cc 6 0)), some (vI x1), some (vI 2), d3, d4, d5, d6]) rfl rfl rfl rfl ?_
  refine t_X6_sizes_84 xs e q X hX _ (fun x1 d2 d3 d4 d5 d6 s4 h => ?_) 400 x1 2 d3 d4 d5 d6 s3 h
  refine r_iconst hX (p2 := 128) rfl rfl rfl ?_
  refine r_istore_n hX (p2 := 129) (ls2 := [some (vR (cc 6 0)), some (vI x1), some (vI 0), d3, d4, d5, d6]) rfl rfl rfl rfl ?_
  refine t_X6_sizes_129 xs e q X hX _ (fun x1 d2 d3 d4 d5 d6 s5 h => ?_) 400 x1 0 d3 d4 d5 d6 s4 h
  refine r_aload_n hX (p2 := 194) rfl rfl rfl ⟨_, Or.inl rfl⟩ ?_
  refine r_iload_n hX (p2 := 195) rfl rfl rfl ?_
  obtain ⟨q6, hq6, h⟩ := bd_some h
  refine r_callv hX (p2 := 198) (v := none) (as := [vI x1]) (r := []) (st2 := []) rfl rfl rfl rfl rfl (hc6 0 (by decide)) rfl rfl (c_X6_fill xs (e + 1) x1 s5 q6 hq6) ?_
  refine r_aload_n hX (p2 := 199) rfl rfl rfl ⟨_, Or.inl rfl⟩ ?_
  refine r_iload_n hX (p2 := 200) rfl rfl rfl ?_
  obtain ⟨q7, hq7, h⟩ := bd_some h
  refine r_callv hX (p2 := 203) (v := none) (as := [vI x1]) (r := []) (st2 := []) rfl rfl rfl rfl rfl (hc6 0 (by decide)) rfl rfl (c_X6_shares xs e x1 q6 q7 hq7) ?_
  refine r_aload_n hX (p2 := 204) rfl rfl rfl ⟨_, Or.inl rfl⟩ ?_
  refine r_iload_n hX (p2 := 205) rfl rfl rfl ?_
  obtain ⟨q8, hq8, h⟩ := bd_some h
  refine r_callv hX (p2 := 208) (v := none) (as := [vI x1]) (r := []) (st2 := []) rfl rfl rfl rfl rfl (hc6 0 (by decide)) rfl rfl (c_X6_stretch xs (e + 1) x1 q7 q8 hq8) ?_
  refine r_aload_n hX (p2 := 209) rfl rfl rfl ⟨_, Or.inl rfl⟩ ?_
  refine r_gf hX (p2 := 212) (v := vR (ca 638 0)) rfl rfl (hc6 0 (by decide)) rfl rfl rfl ?_
  refine r_iload_n hX (p2 := 213) rfl rfl rfl ?_
  obtain ⟨c9, h⟩ := ck_some h
  refine r_faload hX (p2 := 214) (j := x1.toNat) rfl rfl (ha638 0 (by decide)) rfl rfl c9 rfl ?_
  refine r_fconst0 hX (p2 := 215) rfl rfl ?_
  refine r_fcmp hX (p2 := 216) rfl rfl ?_
  refine r_if hX (p2 := 228) (p3 := 219) (P := (pm_fc .l (sB q8 638 0 x1.toNat) FP.fconst0) ≤ 0) rfl (by decide) rfl rfl (fun p11 => ?_) (fun p11 => ?_)
  · have h := it_pos h p11
    refine r_fconst0 hX (p2 := 229) rfl rfl ?_
    exact t_X6_sizes_229 xs e q X hX x1 FP.fconst0 d2 d3 d4 d5 d6 q8 h
  · have h := it_neg h p11
    refine r_aload_n hX (p2 := 220) rfl rfl rfl ⟨_, Or.inl rfl⟩ ?_
    refine r_gf hX (p2 := 223) (v := vR (ca 638 0)) rfl rfl (hc6 0 (by decide)) rfl rfl rfl ?_
    refine r_iload_n hX (p2 := 224) rfl rfl rfl ?_
    obtain ⟨c10, h⟩ := ck_some h
    refine r_faload hX (p2 := 225) (j := x1.toNat) rfl rfl (ha638 0 (by decide)) rfl rfl c10 rfl ?_
    refine r_goto hX (p2 := 229) rfl (by decide) ?_
    exact t_X6_sizes_229 xs e q X hX x1 (sB q8 638 0 x1.toNat) d2 d3 d4 d5 d6 q8 h
noncomputable def f_X6_layout_61 (K36 : Int → Int → pS → Option (Int × pS)) (K69 : Int → pS → Option (Int × pS)) (x2 : Int) (y0 : Int) (y1 : Int) (s : pS) : Option (Int × pS) := ck (inR (y0 + y1)) (bs ((y0 + y1)) (fun v2 => ck (inR (x2 + 1)) (K36 v2 (x2 + 1) s)))
set_option maxRecDepth 10000 in
theorem t_X6_layout_61 (xs : Nat → Int) (e : Nat) (q : Int × pS) (X : List (Option pV) → List pV → Nat → pH → Prop) (hX : pm_clo 1001 xs (pCall pm_tx 1001 xs pm_P (e + 4)) (e + 4) mX6_layout (eI q) X) (K36 : Int → Int → pS → Option (Int × pS)) (K69 : Int → pS → Option (Int × pS)) (hK36 : ∀ (x1 : Int) (x2 : Int) (s : pS), K36 x1 x2 s = some q → X [some (vR (cc 6 0)), some (vI x1), some (vI x2)] [] 36 (pW s)) (hK69 : ∀ (x1 : Int) (d0 : Option pV) (d2 : Option pV) (s : pS), K69 x1 s = some q → X [d0, some (vI x1), d2] [] 69 (pW s)) : ∀  (x2 : Int) (y0 : Int) (y1 : Int) (d1 : Option pV) (s : pS), f_X6_layout_61 K36 K69 x2 y0 y1 s = some q → X [some (vR (cc 6 0)), d1, some (vI x2)] [vI y1, vI y0] 61 (pW s) := by
  intro x2 y0 y1 d1 s h
  unfold f_X6_layout_61 at h
  obtain ⟨c1, h⟩ := ck_some h
  refine r_iadd hX (p2 := 62) rfl rfl c1 ?_
  obtain ⟨v2, hv2, h⟩ := bs_some h
  refine r_istoreE_n hX (p2 := 63) (ls2 := [some (vR (cc 6 0)), some (vI v2), some (vI x2)]) rfl rfl hv2 rfl rfl ?_
  obtain ⟨c3, h⟩ := ck_some h
  refine r_iinc hX (p2 := 66) (ls2 := [some (vR (cc 6 0)), some (vI v2), some (vI (x2 + 1))]) rfl rfl rfl rfl c3 rfl ?_
  refine r_goto hX (p2 := 36) rfl (by decide) ?_
  exact hK36 v2 (x2 + 1) s h
noncomputable def f_X6_layout_36 (K69 : Int → pS → Option (Int × pS)) : Nat → Int → Int → pS → Option (Int × pS)
  | 0, _, _, _ => none
  | n + 1, x1, x2, s => (if (sI s 619 0) ≤ x2 then K69 x1 s else ck (inR (2 * x2)) (ck (0 ≤ (2 * x2) ∧ (2 * x2) < 20) ((if (sA s 631 0 (2 * x2).toNat) ≤ 0 then f_X6_layout_61 (f_X6_layout_36 K69 n) K69 x2 x1 0 s else f_X6_layout_61 (f_X6_layout_36 K69 n) K69 x2 x1 1 s))))
set_option maxRecDepth 10000 in
theorem t_X6_layout_36 (xs : Nat → Int) (e : Nat) (q : Int × pS) (X : List (Option pV) → List pV → Nat → pH → Prop) (hX : pm_clo 1001 xs (pCall pm_tx 1001 xs pm_P (e + 4)) (e + 4) mX6_layout (eI q) X) (K69 : Int → pS → Option (Int × pS)) (hK69 : ∀ (x1 : Int) (d0 : Option pV) (d2 : Option pV) (s : pS), K69 x1 s = some q → X [d0, some (vI x1), d2] [] 69 (pW s)) : ∀ (n : Nat) (x1 : Int) (x2 : Int) (s : pS), f_X6_layout_36 K69 n x1 x2 s = some q → X [some (vR (cc 6 0)), some (vI x1), some (vI x2)] [] 36 (pW s) := by
  intro n
  induction n with
  | zero =>
    intro x1 x2 s h
    rw [f_X6_layout_36] at h
    cases h
  | succ n ih =>
    intro x1 x2 s h
    rw [f_X6_layout_36] at h
    refine r_iload_n hX (p2 := 37) rfl rfl rfl ?_
    refine r_aload_n hX (p2 := 38) rfl rfl rfl ⟨_, Or.inl rfl⟩ ?_
    refine r_gf hX (p2 := 41) (v := vI (sI s 619 0)) rfl rfl (hc6 0 (by decide)) rfl rfl rfl ?_
    refine r_icmp hX (p2 := 69) (p3 := 44) (P := (sI s 619 0) ≤ x2) rfl (by decide) rfl rfl (fun p4 => ?_) (fun p4 => ?_)
    · have h := it_pos h p4
      exact hK69 x1 (some (vR (cc 6 0))) (some (vI x2)) s h
    · have h := it_neg h p4
      refine r_iload_n hX (p2 := 45) rfl rfl rfl ?_
      refine r_aload_n hX (p2 := 46) rfl rfl rfl ⟨_, Or.inl rfl⟩ ?_
      refine r_gf hX (p2 := 49) (v := vR (ca 631 0)) rfl rfl (hc6 0 (by decide)) rfl rfl rfl ?_
      refine r_iconst hX (p2 := 50) rfl rfl rfl ?_
      refine r_iload_n hX (p2 := 51) rfl rfl rfl ?_
      obtain ⟨c1, h⟩ := ck_some h
      refine r_imul hX (p2 := 52) rfl rfl c1 ?_
      obtain ⟨c2, h⟩ := ck_some h
      refine r_iaload hX (p2 := 53) (j := (2 * x2).toNat) rfl rfl (ha631 0 (by decide)) rfl rfl c2 rfl ?_
      refine r_if hX (p2 := 60) (p3 := 56) (P := (sA s 631 0 (2 * x2).toNat) ≤ 0) rfl (by decide) rfl rfl (fun p3 => ?_) (fun p3 => ?_)
      · have h := it_pos h p3
        refine r_iconst hX (p2 := 61) rfl rfl rfl ?_
        exact t_X6_layout_61 xs e q X hX _ _ ih hK69 x2 x1 0 (some (vI x1)) s h
      · have h := it_neg h p3
        refine r_iconst hX (p2 := 57) rfl rfl rfl ?_
        refine r_goto hX (p2 := 61) rfl (by decide) ?_
        exact t_X6_layout_61 xs e q X hX _ _ ih hK69 x2 x1 1 (some (vI x1)) s h
noncomputable def f_X6_layout (s : pS) : Option (Int × pS) := bs (wI s 600 0 0) (fun s1 => (f_X6_places s1).bind (fun q2 => (f_X6_sizes 0 q2).bind (fun q3 => (f_X6_sizes 1 q3).bind (fun q4 => bs (wI q4 629 0 1) (fun s5 => bs (wI s5 630 0 (sI s5 619 0)) (fun s6 => f_X6_layout_36 (fun x1 s7 => some (x1, s7)) 400 0 0 s6))))))
set_option maxRecDepth 10000 in
theorem c_X6_layout (xs : Nat → Int) (e : Nat) (s : pS) (q : Int × pS) (h : f_X6_layout s = some q) : pCall pm_tx 1001 xs pm_P (e + 4 + 1) 155 [vR (cc 6 0)] (pW s) (.inl (some (vI q.1))) (pW q.2) := by
  refine pCall_of mX6_layout rfl rfl (fun X hX => ?_)
  show X [some (vR (cc 6 0)), none, none] [] 0 (pW s)
  replace hX : pm_clo 1001 xs (pCall pm_tx 1001 xs pm_P (e + 4)) (e + 4) mX6_layout (eI q) X := hX
  unfold f_X6_layout at h
  refine r_aload_n hX (p2 := 1) rfl rfl rfl ⟨_, Or.inl rfl⟩ ?_
  refine r_iconst hX (p2 := 2) rfl rfl rfl ?_
  obtain ⟨s1, hs1, h⟩ := bs_some h
  refine r_pfI hX (p2 := 5) rfl rfl (hc6 0 (by decide)) rfl rfl rfl rfl rfl rfl hs1 ?_
  refine r_aload_n hX (p2 := 6) rfl rfl rfl ⟨_, Or.inl rfl⟩ ?_
  obtain ⟨q2, hq2, h⟩ := bd_some h
  refine r_callv hX (p2 := 9) (v := none) (as := []) (r := []) (st2 := []) rfl rfl rfl rfl rfl (hc6 0 (by decide)) rfl rfl (c_X6_places xs (e + 1) s1 q2 hq2) ?_
  refine r_aload_n hX (p2 := 10) rfl rfl rfl ⟨_, Or.inl rfl⟩ ?_
  refine r_iconst hX (p2 := 11) rfl rfl rfl ?_
  obtain ⟨q3, hq3, h⟩ := bd_some h
  refine r_callv hX (p2 := 14) (v := none) (as := [vI 0]) (r := []) (st2 := []) rfl rfl rfl rfl rfl (hc6 0 (by decide)) rfl rfl (c_X6_sizes xs e 0 q2 q3 hq3) ?_
  refine r_aload_n hX (p2 := 15) rfl rfl rfl ⟨_, Or.inl rfl⟩ ?_
  refine r_iconst hX (p2 := 16) rfl rfl rfl ?_
  obtain ⟨q4, hq4, h⟩ := bd_some h
  refine r_callv hX (p2 := 19) (v := none) (as := [vI 1]) (r := []) (st2 := []) rfl rfl rfl rfl rfl (hc6 0 (by decide)) rfl rfl (c_X6_sizes xs e 1 q3 q4 hq4) ?_
  refine r_aload_n hX (p2 := 20) rfl rfl rfl ⟨_, Or.inl rfl⟩ ?_
  refine r_iconst hX (p2 := 21) rfl rfl rfl ?_
  obtain ⟨s5, hs5, h⟩ := bs_some h
  refine r_pfZ hX (p2 := 24) rfl rfl (hc6 0 (by decide)) rfl rfl rfl rfl rfl rfl hs5 (Or.inr rfl) ?_
  refine r_aload_n hX (p2 := 25) rfl rfl rfl ⟨_, Or.inl rfl⟩ ?_
  refine r_aload_n hX (p2 := 26) rfl rfl rfl ⟨_, Or.inl rfl⟩ ?_
  refine r_gf hX (p2 := 29) (v := vI (sI s5 619 0)) rfl rfl (hc6 0 (by decide)) rfl rfl rfl ?_
  obtain ⟨s6, hs6, h⟩ := bs_some h
  refine r_pfI hX (p2 := 32) rfl rfl (hc6 0 (by decide)) rfl rfl rfl rfl rfl rfl hs6 ?_
  refine r_iconst hX (p2 := 33) rfl rfl rfl ?_
  refine r_istore_n hX (p2 := 34) (ls2 := [some (vR (cc 6 0)), some (vI 0), none]) rfl rfl rfl rfl ?_
  refine r_iconst hX (p2 := 35) rfl rfl rfl ?_
  refine r_istore_n hX (p2 := 36) (ls2 := [some (vR (cc 6 0)), some (vI 0), some (vI 0)]) rfl rfl rfl rfl ?_
  refine t_X6_layout_36 xs e q X hX _ (fun x1 d0 d2 s7 h => ?_) 400 0 0 s6 h
  refine r_iload_n hX (p2 := 70) rfl rfl rfl ?_
  exact r_iretI hX rfl rfl (eI_ok h)
noncomputable def f_X5_tracks_20 (y0 : Int) (s : pS) : Option (Int × pS) := some (y0, s)
set_option maxRecDepth 10000 in
theorem t_X5_tracks_20 (xs : Nat → Int) (e : Nat) (q : Int × pS) (X : List (Option pV) → List pV → Nat → pH → Prop) (hX : pm_clo 1001 xs (pCall pm_tx 1001 xs pm_P (e + 1)) (e + 1) mX5_tracks (eI q) X) : ∀  (y0 : Int) (d0 : Option pV) (d1 : Option pV) (s : pS), f_X5_tracks_20 y0 s = some q → X [d0, d1] [vI y0] 20 (pW s) := by
  intro y0 d0 d1 s h
  unfold f_X5_tracks_20 at h
  exact r_iretI hX rfl rfl (eI_ok h)
noncomputable def f_X5_tracks (a1 : Int) (s : pS) : Option (Int × pS) := (f_X5_isAxis a1 s).bind (fun q1 => (if q1.1 = 0 then f_X5_tracks_20 (-1) q1.2 else ck (0 ≤ a1 ∧ a1 < 2) (f_X5_tracks_20 (sI q1.2 8 a1.toNat) q1.2)))
set_option maxRecDepth 10000 in
theorem c_X5_tracks (xs : Nat → Int) (e : Nat) (a1 : Int) (s : pS) (q : Int × pS) (h : f_X5_tracks a1 s = some q) : pCall pm_tx 1001 xs pm_P (e + 1 + 1) 83 [vR (cc 5 0), vI a1] (pW s) (.inl (some (vI q.1))) (pW q.2) := by
  refine pCall_of mX5_tracks rfl rfl (fun X hX => ?_)
  show X [some (vR (cc 5 0)), some (vI a1)] [] 0 (pW s)
  replace hX : pm_clo 1001 xs (pCall pm_tx 1001 xs pm_P (e + 1)) (e + 1) mX5_tracks (eI q) X := hX
  unfold f_X5_tracks at h
  refine r_iload_n hX (p2 := 1) rfl rfl rfl ?_
  obtain ⟨q1, hq1, h⟩ := bd_some h
  refine r_calls0 hX (p2 := 4) (v := some (vI q1.1)) (as := [vI a1]) (r := []) (st2 := [vI q1.1]) rfl rfl rfl rfl rfl rfl (c_X5_isAxis xs e a1 s q1 hq1) ?_
  refine r_if hX (p2 := 19) (p3 := 7) (P := q1.1 = 0) rfl (by decide) rfl rfl (fun p3 => ?_) (fun p3 => ?_)
  · have h := it_pos h p3
    refine r_iconst hX (p2 := 20) rfl rfl rfl ?_
    exact t_X5_tracks_20 xs e q X hX (-1) (some (vR (cc 5 0))) (some (vI a1)) q1.2 h
  · have h := it_neg h p3
    refine r_aload_n hX (p2 := 8) rfl rfl rfl ⟨_, Or.inl rfl⟩ ?_
    refine r_gf hX (p2 := 11) (v := vR (cr 501)) rfl rfl (hc5 0 (by decide)) rfl rfl rfl ?_
    refine r_iload_n hX (p2 := 12) rfl rfl rfl ?_
    obtain ⟨c2, h⟩ := ck_some h
    refine r_aaload hX (p2 := 13) rfl rfl hr501 rfl c2 (y := cc 0 a1.toNat) rfl ?_
    refine r_gf hX (p2 := 16) (v := vI (sI q1.2 8 a1.toNat)) rfl rfl (hc0 a1.toNat (tn_lt c2)) rfl rfl rfl ?_
    refine r_goto hX (p2 := 20) rfl (by decide) ?_
    exact t_X5_tracks_20 xs e q X hX (sI q1.2 8 a1.toNat) (some (vR (cc 5 0))) (some (vI a1)) q1.2 h
noncomputable def f_X6_tracks_29 (y0 : Int) (s : pS) : Option (Int × pS) := some (y0, s)
set_option maxRecDepth 10000 in
theorem t_X6_tracks_29 (xs : Nat → Int) (e : Nat) (q : Int × pS) (X : List (Option pV) → List pV → Nat → pH → Prop) (hX : pm_clo 1001 xs (pCall pm_tx 1001 xs pm_P (e + 1)) (e + 1) mX6_tracks (eI q) X) : ∀  (y0 : Int) (d0 : Option pV) (d1 : Option pV) (s : pS), f_X6_tracks_29 y0 s = some q → X [d0, d1] [vI y0] 29 (pW s) := by
  intro y0 d0 d1 s h
  unfold f_X6_tracks_29 at h
  exact r_iretI hX rfl rfl (eI_ok h)
noncomputable def f_X6_tracks_19 (s : pS) : Option (Int × pS) := f_X6_tracks_29 (-1) s
set_option maxRecDepth 10000 in
theorem t_X6_tracks_19 (xs : Nat → Int) (e : Nat) (q : Int × pS) (X : List (Option pV) → List pV → Nat → pH → Prop) (hX : pm_clo 1001 xs (pCall pm_tx 1001 xs pm_P (e + 1)) (e + 1) mX6_tracks (eI q) X) : ∀  (d0 : Option pV) (d1 : Option pV) (s : pS), f_X6_tracks_19 s = some q → X [d0, d1] [] 19 (pW s) := by
  intro d0 d1 s h
  unfold f_X6_tracks_19 at h
  refine r_iconst hX (p2 := 20) rfl rfl rfl ?_
  refine r_goto hX (p2 := 29) rfl (by decide) ?_
  exact t_X6_tracks_29 xs e q X hX (-1) d0 d1 s h
noncomputable def f_X6_tracks (a1 : Int) (s : pS) : Option (Int × pS) := bs (wI s 600 0 0) (fun s1 => (f_X6_isAxis a1 s1).bind (fun q2 => (if q2.1 = 0 then f_X6_tracks_19 q2.2 else (if (sI q2.2 629 0) ≠ 0 then ck (0 ≤ a1 ∧ a1 < 2) (f_X6_tracks_29 (sA q2.2 633 0 a1.toNat) q2.2) else f_X6_tracks_19 q2.2))))
set_option maxRecDepth 10000 in
theorem c_X6_tracks (xs : Nat → Int) (e : Nat) (a1 : Int) (s : pS) (q : Int × pS) (h : f_X6_tracks a1 s = some q) : pCall pm_tx 1001 xs pm_P (e + 1 + 1) 156 [vR (cc 6 0), vI a1] (pW s) (.inl (some (vI q.1))) (pW q.2) := by
  refine pCall_of mX6_tracks rfl rfl (fun X hX => ?_)
  show X [some (vR (cc 6 0)), some (vI a1)] [] 0 (pW s)
  replace hX : pm_clo 1001 xs (pCall pm_tx 1001 xs pm_P (e + 1)) (e + 1) mX6_tracks (eI q) X := hX
  unfold f_X6_tracks at h
  refine r_aload_n hX (p2 := 1) rfl rfl rfl ⟨_, Or.inl rfl⟩ ?_
  refine r_iconst hX (p2 := 2) rfl rfl rfl ?_
  obtain ⟨s1, hs1, h⟩ := bs_some h
  refine r_pfI hX (p2 := 5) rfl rfl (hc6 0 (by decide)) rfl rfl rfl rfl rfl rfl hs1 ?_
  refine r_iload_n hX (p2 := 6) rfl rfl rfl ?_
  obtain ⟨q2, hq2, h⟩ := bd_some h
  refine r_calls0 hX (p2 := 9) (v := some (vI q2.1)) (as := [vI a1]) (r := []) (st2 := [vI q2.1]) rfl rfl rfl rfl rfl rfl (c_X6_isAxis xs e a1 s1 q2 hq2) ?_
  refine r_if hX (p2 := 19) (p3 := 12) (P := q2.1 = 0) rfl (by decide) rfl rfl (fun p5 => ?_) (fun p5 => ?_)
  · have h := it_pos h p5
    exact t_X6_tracks_19 xs e q X hX (some (vR (cc 6 0))) (some (vI a1)) q2.2 h
  · have h := it_neg h p5
    refine r_aload_n hX (p2 := 13) rfl rfl rfl ⟨_, Or.inl rfl⟩ ?_
    refine r_gf hX (p2 := 16) (v := vI (sI q2.2 629 0)) rfl rfl (hc6 0 (by decide)) rfl rfl rfl ?_
    refine r_if hX (p2 := 23) (p3 := 19) (P := (sI q2.2 629 0) ≠ 0) rfl (by decide) rfl rfl (fun p4 => ?_) (fun p4 => ?_)
    · have h := it_pos h p4
      refine r_aload_n hX (p2 := 24) rfl rfl rfl ⟨_, Or.inl rfl⟩ ?_
      refine r_gf hX (p2 := 27) (v := vR (ca 633 0)) rfl rfl (hc6 0 (by decide)) rfl rfl rfl ?_
      refine r_iload_n hX (p2 := 28) rfl rfl rfl ?_
      obtain ⟨c3, h⟩ := ck_some h
      refine r_iaload hX (p2 := 29) (j := a1.toNat) rfl rfl (ha633 0 (by decide)) rfl rfl c3 rfl ?_
      exact t_X6_tracks_29 xs e q X hX (sA q2.2 633 0 a1.toNat) (some (vR (cc 6 0))) (some (vI a1)) q2.2 h
    · have h := it_neg h p4
      exact t_X6_tracks_19 xs e q X hX (some (vR (cc 6 0))) (some (vI a1)) q2.2 h
