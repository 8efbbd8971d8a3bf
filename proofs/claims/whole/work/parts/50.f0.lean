/-! ===== THE METHODS AS FUNCTIONS (written by wip/whole/gen_fun.py) ===== -/
def sel {α ρ : Type} (x : α ⊕ Nat) (f : α → Option ρ) (g : Nat → Option ρ) : Option ρ := match x with
  | .inl r => f r
  | .inr e => g e
theorem sel_l {α ρ : Type} {r : α} {f : α → Option ρ} {g : Nat → Option ρ} {q : ρ} (h : sel (.inl r) f g = some q) : f r = some q := h
theorem sel_r {α ρ : Type} {e : Nat} {f : α → Option ρ} {g : Nat → Option ρ} {q : ρ} (h : sel (.inr e) f g = some q) : g e = some q := h
theorem tx_ref (i : Nat) : ∃ k, vX (3 + i) = vR k ∨ vX (3 + i) = vX (k + 1) := ⟨2 + i, Or.inr (by rw [show 2 + i + 1 = 3 + i from by omega])⟩
theorem tn_lt {x : Int} (h : 0 ≤ x ∧ x < 2) : x.toNat < 2 := by omega
noncomputable def f_X4_append_21 (s : pS) : Option (Int × pS) := some (0, s)
set_option maxRecDepth 10000 in
theorem t_X4_append_21 (xs : Nat → Int) (e : Nat) (q : Int × pS) (X : List (Option pV) → List pV → Nat → pH → Prop) (hX : pm_clo 1001 xs (pCall pm_tx 1001 xs pm_P e) e mX4_append (eI q) X) : ∀  (d0 : Option pV) (d1 : Option pV) (s : pS), f_X4_append_21 s = some q → X [d0, d1] [] 21 (pW s) := by
  intro d0 d1 s h
  unfold f_X4_append_21 at h
  refine r_iconst hX (p2 := 22) rfl rfl rfl ?_
  exact r_iretZ hX rfl rfl (Or.inl rfl) (eI_ok h)
noncomputable def f_X4_append (a1 : Int) (s : pS) : Option (Int × pS) := (if 40 ≤ (sI s 403 0) then f_X4_append_21 s else (if a1 < 32 then f_X4_append_21 s else (if a1 ≤ 126 then ck (0 ≤ (sI s 403 0) ∧ (sI s 403 0) < 40) (ck (0 ≤ a1 ∧ a1 < 65536) (bs (wA s 402 0 (pm_up (sA s 402 0) (sI s 403 0).toNat a1)) (fun s3 => ck (inR ((sI s3 403 0) + 1)) (bs (wI s3 403 0 ((sI s3 403 0) + 1)) (fun s5 => some (1, s5)))))) else f_X4_append_21 s)))
set_option maxRecDepth 10000 in
theorem c_X4_append (xs : Nat → Int) (e : Nat) (a1 : Int) (s : pS) (q : Int × pS) (h : f_X4_append a1 s = some q) : pCall pm_tx 1001 xs pm_P (e + 1) 57 [vR (cc 4 0), vI a1] (pW s) (.inl (some (vI q.1))) (pW q.2) := by
  refine pCall_of mX4_append rfl rfl (fun X hX => ?_)
  show X [some (vR (cc 4 0)), some (vI a1)] [] 0 (pW s)
  replace hX : pm_clo 1001 xs (pCall pm_tx 1001 xs pm_P e) e mX4_append (eI q) X := hX
  unfold f_X4_append at h
  refine r_aload_n hX (p2 := 1) rfl rfl rfl ⟨_, Or.inl rfl⟩ ?_
  refine r_gf hX (p2 := 4) (v := vI (sI s 403 0)) rfl rfl (hc4 0 (by decide)) rfl rfl rfl ?_
  refine r_bipush hX (p2 := 6) rfl rfl rfl ?_
  refine r_icmp hX (p2 := 21) (p3 := 9) (P := 40 ≤ (sI s 403 0)) rfl (by decide) rfl rfl (fun p8 => ?_) (fun p8 => ?_)
  · have h := it_pos h p8
    exact t_X4_append_21 xs e q X hX (some (vR (cc 4 0))) (some (vI a1)) s h
  · have h := it_neg h p8
    refine r_iload_n hX (p2 := 10) rfl rfl rfl ?_
    refine r_bipush hX (p2 := 12) rfl rfl rfl ?_
    refine r_icmp hX (p2 := 21) (p3 := 15) (P := a1 < 32) rfl (by decide) rfl rfl (fun p7 => ?_) (fun p7 => ?_)
    · have h := it_pos h p7
      exact t_X4_append_21 xs e q X hX (some (vR (cc 4 0))) (some (vI a1)) s h
    · have h := it_neg h p7
      refine r_iload_n hX (p2 := 16) rfl rfl rfl ?_
      refine r_bipush hX (p2 := 18) rfl rfl rfl ?_
      refine r_icmp hX (p2 := 23) (p3 := 21) (P := a1 ≤ 126) rfl (by decide) rfl rfl (fun p6 => ?_) (fun p6 => ?_)
      · have h := it_pos h p6
        refine r_aload_n hX (p2 := 24) rfl rfl rfl ⟨_, Or.inl rfl⟩ ?_
        refine r_gf hX (p2 := 27) (v := vR (ca 402 0)) rfl rfl (hc4 0 (by decide)) rfl rfl rfl ?_
        refine r_aload_n hX (p2 := 28) rfl rfl rfl ⟨_, Or.inl rfl⟩ ?_
        refine r_gf hX (p2 := 31) (v := vI (sI s 403 0)) rfl rfl (hc4 0 (by decide)) rfl rfl rfl ?_
        refine r_iload_n hX (p2 := 32) rfl rfl rfl ?_
        obtain ⟨c1, h⟩ := ck_some h
        obtain ⟨c2, h⟩ := ck_some h
        obtain ⟨s3, hs3, h⟩ := bs_some h
        refine r_castore hX (p2 := 33) (j := (sI s 403 0).toNat) rfl rfl (ha402 0 (by decide)) rfl rfl c1 rfl c2 hs3 ?_
        refine r_aload_n hX (p2 := 34) rfl rfl rfl ⟨_, Or.inl rfl⟩ ?_
        refine r_dup hX (p2 := 35) rfl rfl rfl ?_
        refine r_gf hX (p2 := 38) (v := vI (sI s3 403 0)) rfl rfl (hc4 0 (by decide)) rfl rfl rfl ?_
        refine r_iconst hX (p2 := 39) rfl rfl rfl ?_
        obtain ⟨c4, h⟩ := ck_some h
        refine r_iadd hX (p2 := 40) rfl rfl c4 ?_
        obtain ⟨s5, hs5, h⟩ := bs_some h
        refine r_pfI hX (p2 := 43) rfl rfl (hc4 0 (by decide)) rfl rfl rfl rfl rfl rfl hs5 ?_
        refine r_iconst hX (p2 := 44) rfl rfl rfl ?_
        exact r_iretZ hX rfl rfl (Or.inr rfl) (eI_ok h)
      · have h := it_neg h p6
        exact t_X4_append_21 xs e q X hX (some (vR (cc 4 0))) (some (vI a1)) s h
noncomputable def f_X5_write (a1 : Int) (s : pS) : Option (Int × pS) := (f_X4_append a1 s).bind (fun q1 => ck (q1.1 = 0 ∨ q1.1 = 1) (some (q1.1, q1.2)))
set_option maxRecDepth 10000 in
theorem c_X5_write (xs : Nat → Int) (e : Nat) (a1 : Int) (s : pS) (q : Int × pS) (h : f_X5_write a1 s = some q) : pCall pm_tx 1001 xs pm_P (e + 1 + 1) 74 [vR (cc 5 0), vI a1] (pW s) (.inl (some (vI q.1))) (pW q.2) := by
  refine pCall_of mX5_write rfl rfl (fun X hX => ?_)
  show X [some (vR (cc 5 0)), some (vI a1)] [] 0 (pW s)
  replace hX : pm_clo 1001 xs (pCall pm_tx 1001 xs pm_P (e + 1)) (e + 1) mX5_write (eI q) X := hX
  unfold f_X5_write at h
  refine r_aload_n hX (p2 := 1) rfl rfl rfl ⟨_, Or.inl rfl⟩ ?_
  refine r_gf hX (p2 := 4) (v := vR (cc 4 0)) rfl rfl (hc5 0 (by decide)) rfl rfl rfl ?_
  refine r_iload_n hX (p2 := 5) rfl rfl rfl ?_
  obtain ⟨q1, hq1, h⟩ := bd_some h
  refine r_callv hX (p2 := 8) (v := some (vI q1.1)) (as := [vI a1]) (r := []) (st2 := [vI q1.1]) rfl rfl rfl rfl rfl (hc4 0 (by decide)) rfl rfl (c_X4_append xs e a1 s q1 hq1) ?_
  obtain ⟨c2, h⟩ := ck_some h
  exact r_iretZ hX rfl rfl c2 (eI_ok h)
noncomputable def f_X6_write_26 (s : pS) : Option (Int × pS) := some (0, s)
set_option maxRecDepth 10000 in
theorem t_X6_write_26 (xs : Nat → Int) (e : Nat) (q : Int × pS) (X : List (Option pV) → List pV → Nat → pH → Prop) (hX : pm_clo 1001 xs (pCall pm_tx 1001 xs pm_P e) e mX6_write (eI q) X) : ∀  (d0 : Option pV) (d1 : Option pV) (s : pS), f_X6_write_26 s = some q → X [d0, d1] [] 26 (pW s) := by
  intro d0 d1 s h
  unfold f_X6_write_26 at h
  refine r_iconst hX (p2 := 27) rfl rfl rfl ?_
  exact r_iretZ hX rfl rfl (Or.inl rfl) (eI_ok h)
noncomputable def f_X6_write (a1 : Int) (s : pS) : Option (Int × pS) := bs (wI s 600 0 0) (fun s1 => (if (sI s1 601 0) = 40 then f_X6_write_26 s1 else (if a1 < 32 then f_X6_write_26 s1 else (if a1 ≤ 126 then ck (0 ≤ (sI s1 601 0) ∧ (sI s1 601 0) < 41) (bs (wA s1 602 0 (pm_up (sA s1 602 0) (sI s1 601 0).toNat a1)) (fun s3 => ck (inR ((sI s3 601 0) + 1)) (bs (wI s3 601 0 ((sI s3 601 0) + 1)) (fun s5 => some (1, s5))))) else f_X6_write_26 s1))))
set_option maxRecDepth 10000 in
theorem c_X6_write (xs : Nat → Int) (e : Nat) (a1 : Int) (s : pS) (q : Int × pS) (h : f_X6_write a1 s = some q) : pCall pm_tx 1001 xs pm_P (e + 1) 103 [vR (cc 6 0), vI a1] (pW s) (.inl (some (vI q.1))) (pW q.2) := by
  refine pCall_of mX6_write rfl rfl (fun X hX => ?_)
  show X [some (vR (cc 6 0)), some (vI a1)] [] 0 (pW s)
  replace hX : pm_clo 1001 xs (pCall pm_tx 1001 xs pm_P e) e mX6_write (eI q) X := hX
  unfold f_X6_write at h
  refine r_aload_n hX (p2 := 1) rfl rfl rfl ⟨_, Or.inl rfl⟩ ?_
  refine r_iconst hX (p2 := 2) rfl rfl rfl ?_
  obtain ⟨s1, hs1, h⟩ := bs_some h
  refine r_pfI hX (p2 := 5) rfl rfl (hc6 0 (by decide)) rfl rfl rfl rfl rfl rfl hs1 ?_
  refine r_aload_n hX (p2 := 6) rfl rfl rfl ⟨_, Or.inl rfl⟩ ?_
  refine r_gf hX (p2 := 9) (v := vI (sI s1 601 0)) rfl rfl (hc6 0 (by decide)) rfl rfl rfl ?_
  refine r_bipush hX (p2 := 11) rfl rfl rfl ?_
  refine r_icmp hX (p2 := 26) (p3 := 14) (P := (sI s1 601 0) = 40) rfl (by decide) rfl rfl (fun p8 => ?_) (fun p8 => ?_)
  · have h := it_pos h p8
    exact t_X6_write_26 xs e q X hX (some (vR (cc 6 0))) (some (vI a1)) s1 h
  · have h := it_neg h p8
    refine r_iload_n hX (p2 := 15) rfl rfl rfl ?_
    refine r_bipush hX (p2 := 17) rfl rfl rfl ?_
    refine r_icmp hX (p2 := 26) (p3 := 20) (P := a1 < 32) rfl (by decide) rfl rfl (fun p7 => ?_) (fun p7 => ?_)
    · have h := it_pos h p7
      exact t_X6_write_26 xs e q X hX (some (vR (cc 6 0))) (some (vI a1)) s1 h
    · have h := it_neg h p7
      refine r_iload_n hX (p2 := 21) rfl rfl rfl ?_
      refine r_bipush hX (p2 := 23) rfl rfl rfl ?_
      refine r_icmp hX (p2 := 28) (p3 := 26) (P := a1 ≤ 126) rfl (by decide) rfl rfl (fun p6 => ?_) (fun p6 => ?_)
      · have h := it_pos h p6
        refine r_aload_n hX (p2 := 29) rfl rfl rfl ⟨_, Or.inl rfl⟩ ?_
        refine r_gf hX (p2 := 32) (v := vR (ca 602 0)) rfl rfl (hc6 0 (by decide)) rfl rfl rfl ?_
        refine r_aload_n hX (p2 := 33) rfl rfl rfl ⟨_, Or.inl rfl⟩ ?_
        refine r_gf hX (p2 := 36) (v := vI (sI s1 601 0)) rfl rfl (hc6 0 (by decide)) rfl rfl rfl ?_
        refine r_iload_n hX (p2 := 37) rfl rfl rfl ?_
        obtain ⟨c2, h⟩ := ck_some h
        obtain ⟨s3, hs3, h⟩ := bs_some h
        refine r_iastore hX (p2 := 38) (j := (sI s1 601 0).toNat) rfl rfl (ha602 0 (by decide)) rfl rfl c2 rfl hs3 ?_
        refine r_aload_n hX (p2 := 39) rfl rfl rfl ⟨_, Or.inl rfl⟩ ?_
        refine r_dup hX (p2 := 40) rfl rfl rfl ?_
        refine r_gf hX (p2 := 43) (v := vI (sI s3 601 0)) rfl rfl (hc6 0 (by decide)) rfl rfl rfl ?_
        refine r_iconst hX (p2 := 44) rfl rfl rfl ?_
        obtain ⟨c4, h⟩ := ck_some h
        refine r_iadd hX (p2 := 45) rfl rfl c4 ?_
        obtain ⟨s5, hs5, h⟩ := bs_some h
        refine r_pfI hX (p2 := 48) rfl rfl (hc6 0 (by decide)) rfl rfl rfl rfl rfl rfl hs5 ?_
        refine r_iconst hX (p2 := 49) rfl rfl rfl ?_
        exact r_iretZ hX rfl rfl (Or.inr rfl) (eI_ok h)
      · have h := it_neg h p6
        exact t_X6_write_26 xs e q X hX (some (vR (cc 6 0))) (some (vI a1)) s1 h
noncomputable def f_X5_isAxis_14 (y0 : Int) (s : pS) : Option (Int × pS) := ck (y0 = 0 ∨ y0 = 1) (some (y0, s))
set_option maxRecDepth 10000 in
theorem t_X5_isAxis_14 (xs : Nat → Int) (e : Nat) (q : Int × pS) (X : List (Option pV) → List pV → Nat → pH → Prop) (hX : pm_clo 1001 xs (pCall pm_tx 1001 xs pm_P e) e mX5_isAxis (eI q) X) : ∀  (y0 : Int) (d0 : Option pV) (s : pS), f_X5_isAxis_14 y0 s = some q → X [d0] [vI y0] 14 (pW s) := by
  intro y0 d0 s h
  unfold f_X5_isAxis_14 at h
  obtain ⟨c1, h⟩ := ck_some h
  exact r_iretZ hX rfl rfl c1 (eI_ok h)
noncomputable def f_X5_isAxis_9 (s : pS) : Option (Int × pS) := f_X5_isAxis_14 1 s
set_option maxRecDepth 10000 in
theorem t_X5_isAxis_9 (xs : Nat → Int) (e : Nat) (q : Int × pS) (X : List (Option pV) → List pV → Nat → pH → Prop) (hX : pm_clo 1001 xs (pCall pm_tx 1001 xs pm_P e) e mX5_isAxis (eI q) X) : ∀  (d0 : Option pV) (s : pS), f_X5_isAxis_9 s = some q → X [d0] [] 9 (pW s) := by
  intro d0 s h
  unfold f_X5_isAxis_9 at h
  refine r_iconst hX (p2 := 10) rfl rfl rfl ?_
  refine r_goto hX (p2 := 14) rfl (by decide) ?_
  exact t_X5_isAxis_14 xs e q X hX 1 d0 s h
noncomputable def f_X5_isAxis (a0 : Int) (s : pS) : Option (Int × pS) := (if a0 = 0 then f_X5_isAxis_9 s else (if a0 ≠ 1 then f_X5_isAxis_14 0 s else f_X5_isAxis_9 s))
set_option maxRecDepth 10000 in
theorem c_X5_isAxis (xs : Nat → Int) (e : Nat) (a0 : Int) (s : pS) (q : Int × pS) (h : f_X5_isAxis a0 s = some q) : pCall pm_tx 1001 xs pm_P (e + 1) 92 [vI a0] (pW s) (.inl (some (vI q.1))) (pW q.2) := by
  refine pCall_of mX5_isAxis rfl rfl (fun X hX => ?_)
  show X [some (vI a0)] [] 0 (pW s)
  replace hX : pm_clo 1001 xs (pCall pm_tx 1001 xs pm_P e) e mX5_isAxis (eI q) X := hX
  unfold f_X5_isAxis at h
  refine r_iload_n hX (p2 := 1) rfl rfl rfl ?_
  refine r_if hX (p2 := 9) (p3 := 4) (P := a0 = 0) rfl (by decide) rfl rfl (fun p2 => ?_) (fun p2 => ?_)
  · have h := it_pos h p2
    exact t_X5_isAxis_9 xs e q X hX (some (vI a0)) s h
  · have h := it_neg h p2
    refine r_iload_n hX (p2 := 5) rfl rfl rfl ?_
    refine r_iconst hX (p2 := 6) rfl rfl rfl ?_
    refine r_icmp hX (p2 := 13) (p3 := 9) (P := a0 ≠ 1) rfl (by decide) rfl rfl (fun p1 => ?_) (fun p1 => ?_)
    · have h := it_pos h p1
      refine r_iconst hX (p2 := 14) rfl rfl rfl ?_
      exact t_X5_isAxis_14 xs e q X hX 0 (some (vI a0)) s h
    · have h := it_neg h p1
      exact t_X5_isAxis_9 xs e q X hX (some (vI a0)) s h
noncomputable def f_fillI_300_5 (i0 : Nat) (K20 : pS → Option (pS)) : Nat → Int → Int → Int → pS → Option (pS)
  | 0, _, _, _, _ => none
  | n + 1, x1, x2, x3, s => (if x3 ≤ x2 then K20 s else ck (0 ≤ x2 ∧ x2 < 12) (bs (wA s 300 i0 (pm_up (sA s 300 i0) x2.toNat x1)) (fun s2 => ck (inR (x2 + 1)) (f_fillI_300_5 i0 K20 n x1 (x2 + 1) x3 s2))))
set_option maxRecDepth 10000 in
theorem t_fillI_300_5 (xs : Nat → Int) (e : Nat) (i0 : Nat) (hi0 : i0 < 3) (q : pS) (X : List (Option pV) → List pV → Nat → pH → Prop) (hX : pm_clo 1001 xs (pCall pm_tx 1001 xs pm_P e) e mJ7_fill_53178 (eU q) X) (K20 : pS → Option (pS)) (hK20 : ∀ (d0 : Option pV) (d1 : Option pV) (d2 : Option pV) (d3 : Option pV) (s : pS), K20 s = some q → X [d0, d1, d2, d3] [] 20 (pW s)) : ∀ (n : Nat) (x1 : Int) (x2 : Int) (x3 : Int) (s : pS), f_fillI_300_5 i0 K20 n x1 x2 x3 s = some q → X [some (vR (ca 300 i0)), some (vI x1), some (vI x2), some (vI x3)] [] 5 (pW s) := by
  intro n
  induction n with
  | zero =>
    intro x1 x2 x3 s h
    rw [f_fillI_300_5] at h
    cases h
  | succ n ih =>
    intro x1 x2 x3 s h
    rw [f_fillI_300_5] at h
    refine r_iload_n hX (p2 := 6) rfl rfl rfl ?_
    refine r_iload_n hX (p2 := 7) rfl rfl rfl ?_
    refine r_icmp hX (p2 := 20) (p3 := 10) (P := x3 ≤ x2) rfl (by decide) rfl rfl (fun p4 => ?_) (fun p4 => ?_)
    · have h := it_pos h p4
      exact hK20 (some (vR (ca 300 i0))) (some (vI x1)) (some (vI x2)) (some (vI x3)) s h
    · have h := it_neg h p4
      refine r_aload_n hX (p2 := 11) rfl rfl rfl ⟨_, Or.inl rfl⟩ ?_
      refine r_iload_n hX (p2 := 12) rfl rfl rfl ?_
      refine r_iload_n hX (p2 := 13) rfl rfl rfl ?_
      obtain ⟨c1, h⟩ := ck_some h
      obtain ⟨s2, hs2, h⟩ := bs_some h
      refine r_iastore hX (p2 := 14) (j := x2.toNat) rfl rfl (ha300 i0 hi0) rfl rfl c1 rfl hs2 ?_
      obtain ⟨c3, h⟩ := ck_some h
      refine r_iinc hX (p2 := 17) (ls2 := [some (vR (ca 300 i0)), some (vI x1), some (vI (x2 + 1)), some (vI x3)]) rfl rfl rfl rfl c3 rfl ?_
      refine r_goto hX (p2 := 5) rfl (by decide) ?_
      exact ih x1 (x2 + 1) x3 s2 h
noncomputable def f_fillI_300 (i0 : Nat) (a1 : Int) (s : pS) : Option (pS) := f_fillI_300_5 i0 (fun s1 => some s1) 400 a1 0 12 s
set_option maxRecDepth 10000 in
theorem c_fillI_300 (xs : Nat → Int) (e : Nat) (i0 : Nat) (a1 : Int) (hi0 : i0 < 3) (s : pS) (q : pS) (h : f_fillI_300 i0 a1 s = some q) : pCall pm_tx 1001 xs pm_P (e + 1) 166 [vR (ca 300 i0), vI a1] (pW s) (.inl none) (pW q) := by
  refine pCall_of mJ7_fill_53178 rfl rfl (fun X hX => ?_)
  show X [some (vR (ca 300 i0)), some (vI a1), none, none] [] 0 (pW s)
  replace hX : pm_clo 1001 xs (pCall pm_tx 1001 xs pm_P e) e mJ7_fill_53178 (eU q) X := hX
  unfold f_fillI_300 at h
  refine r_iconst hX (p2 := 1) rfl rfl rfl ?_
  refine r_istore_n hX (p2 := 2) (ls2 := [some (vR (ca 300 i0)), some (vI a1), some (vI 0), none]) rfl rfl rfl rfl ?_
  refine r_aload_n hX (p2 := 3) rfl rfl rfl ⟨_, Or.inl rfl⟩ ?_
  refine r_alen hX (p2 := 4) (x := 12) rfl rfl (ha300 i0 hi0) rfl rfl rfl ?_
  refine r_istore_n hX (p2 := 5) (ls2 := [some (vR (ca 300 i0)), some (vI a1), some (vI 0), some (vI 12)]) rfl rfl rfl rfl ?_
  refine t_fillI_300_5 xs e i0 hi0 q X hX _ (fun d0 d1 d2 d3 s1 h => ?_) 400 a1 0 12 s h
  exact r_return hX rfl rfl (eU_ok h)
noncomputable def f_fillF_301_5 (i0 : Nat) (K20 : pS → Option (pS)) : Nat → UInt32 → Int → Int → pS → Option (pS)
  | 0, _, _, _, _ => none
  | n + 1, x1, x2, x3, s => (if x3 ≤ x2 then K20 s else ck (0 ≤ x2 ∧ x2 < 12) (bs (wB s 301 i0 (pm_up (sB s 301 i0) x2.toNat x1)) (fun s2 => ck (inR (x2 + 1)) (f_fillF_301_5 i0 K20 n x1 (x2 + 1) x3 s2))))
set_option maxRecDepth 10000 in
theorem t_fillF_301_5 (xs : Nat → Int) (e : Nat) (i0 : Nat) (hi0 : i0 < 3) (q : pS) (X : List (Option pV) → List pV → Nat → pH → Prop) (hX : pm_clo 1001 xs (pCall pm_tx 1001 xs pm_P e) e mJ7_fill_e525d (eU q) X) (K20 : pS → Option (pS)) (hK20 : ∀ (d0 : Option pV) (d1 : Option pV) (d2 : Option pV) (d3 : Option pV) (s : pS), K20 s = some q → X [d0, d1, d2, d3] [] 20 (pW s)) : ∀ (n : Nat) (x1 : UInt32) (x2 : Int) (x3 : Int) (s : pS), f_fillF_301_5 i0 K20 n x1 x2 x3 s = some q → X [some (vR (ca 301 i0)), some (vF x1), some (vI x2), some (vI x3)] [] 5 (pW s) := by
  intro n
  induction n with
  | zero =>
    intro x1 x2 x3 s h
    rw [f_fillF_301_5] at h
    cases h
  | succ n ih =>
    intro x1 x2 x3 s h
    rw [f_fillF_301_5] at h
    refine r_iload_n hX (p2 := 6) rfl rfl rfl ?_
    refine r_iload_n hX (p2 := 7) rfl rfl rfl ?_
    refine r_icmp hX (p2 := 20) (p3 := 10) (P := x3 ≤ x2) rfl (by decide) rfl rfl (fun p4 => ?_) (fun p4 => ?_)
    · have h := it_pos h p4
      exact hK20 (some (vR (ca 301 i0))) (some (vF x1)) (some (vI x2)) (some (vI x3)) s h
    · have h := it_neg h p4
      refine r_aload_n hX (p2 := 11) rfl rfl rfl ⟨_, Or.inl rfl⟩ ?_
      refine r_iload_n hX (p2 := 12) rfl rfl rfl ?_
      refine r_fload_n hX (p2 := 13) rfl rfl rfl ?_
      obtain ⟨c1, h⟩ := ck_some h
      obtain ⟨s2, hs2, h⟩ := bs_some h
      refine r_fastore hX (p2 := 14) (j := x2.toNat) rfl rfl (ha301 i0 hi0) rfl rfl c1 rfl hs2 ?_
      obtain ⟨c3, h⟩ := ck_some h
      refine r_iinc hX (p2 := 17) (ls2 := [some (vR (ca 301 i0)), some (vF x1), some (vI (x2 + 1)), some (vI x3)]) rfl rfl rfl rfl c3 rfl ?_
      refine r_goto hX (p2 := 5) rfl (by decide) ?_
      exact ih x1 (x2 + 1) x3 s2 h
noncomputable def f_fillF_301 (i0 : Nat) (a1 : UInt32) (s : pS) : Option (pS) := f_fillF_301_5 i0 (fun s1 => some s1) 400 a1 0 12 s
set_option maxRecDepth 10000 in
theorem c_fillF_301 (xs : Nat → Int) (e : Nat) (i0 : Nat) (a1 : UInt32) (hi0 : i0 < 3) (s : pS) (q : pS) (h : f_fillF_301 i0 a1 s = some q) : pCall pm_tx 1001 xs pm_P (e + 1) 167 [vR (ca 301 i0), vF a1] (pW s) (.inl none) (pW q) := by
  refine pCall_of mJ7_fill_e525d rfl rfl (fun X hX => ?_)
  show X [some (vR (ca 301 i0)), some (vF a1), none, none] [] 0 (pW s)
  replace hX : pm_clo 1001 xs (pCall pm_tx 1001 xs pm_P e) e mJ7_fill_e525d (eU q) X := hX
  unfold f_fillF_301 at h
  refine r_iconst hX (p2 := 1) rfl rfl rfl ?_
  refine r_istore_n hX (p2 := 2) (ls2 := [some (vR (ca 301 i0)), some (vF a1), some (vI 0), none]) rfl rfl rfl rfl ?_
  refine r_aload_n hX (p2 := 3) rfl rfl rfl ⟨_, Or.inl rfl⟩ ?_
  refine r_alen hX (p2 := 4) (x := 12) rfl rfl (ha301 i0 hi0) rfl rfl rfl ?_
  refine r_istore_n hX (p2 := 5) (ls2 := [some (vR (ca 301 i0)), some (vF a1), some (vI 0), some (vI 12)]) rfl rfl rfl rfl ?_
  refine t_fillF_301_5 xs e i0 hi0 q X hX _ (fun d0 d1 d2 d3 s1 h => ?_) 400 a1 0 12 s h
  exact r_return hX rfl rfl (eU_ok h)
noncomputable def f_fillI_302_5 (i0 : Nat) (K20 : pS → Option (pS)) : Nat → Int → Int → Int → pS → Option (pS)
  | 0, _, _, _, _ => none
  | n + 1, x1, x2, x3, s => (if x3 ≤ x2 then K20 s else ck (0 ≤ x2 ∧ x2 < 12) (bs (wA s 302 i0 (pm_up (sA s 302 i0) x2.toNat x1)) (fun s2 => ck (inR (x2 + 1)) (f_fillI_302_5 i0 K20 n x1 (x2 + 1) x3 s2))))
set_option maxRecDepth 10000 in
theorem t_fillI_302_5 (xs : Nat → Int) (e : Nat) (i0 : Nat) (hi0 : i0 < 3) (q : pS) (X : List (Option pV) → List pV → Nat → pH → Prop) (hX : pm_clo 1001 xs (pCall pm_tx 1001 xs pm_P e) e mJ7_fill_53178 (eU q) X) (K20 : pS → Option (pS)) (hK20 : ∀ (d0 : Option pV) (d1 : Option pV) (d2 : Option pV) (d3 : Option pV) (s : pS), K20 s = some q → X [d0, d1, d2, d3] [] 20 (pW s)) : ∀ (n : Nat) (x1 : Int) (x2 : Int) (x3 : Int) (s : pS), f_fillI_302_5 i0 K20 n x1 x2 x3 s = some q → X [some (vR (ca 302 i0)), some (vI x1), some (vI x2), some (vI x3)] [] 5 (pW s) := by
  intro n
  induction n with
  | zero =>
    intro x1 x2 x3 s h
    rw [f_fillI_302_5] at h
    cases h
  | succ n ih =>
    intro x1 x2 x3 s h
    rw [f_fillI_302_5] at h
    refine r_iload_n hX (p2 := 6) rfl rfl rfl ?_
    refine r_iload_n hX (p2 := 7) rfl rfl rfl ?_
    refine r_icmp hX (p2 := 20) (p3 := 10) (P := x3 ≤ x2) rfl (by decide) rfl rfl (fun p4 => ?_) (fun p4 => ?_)
    · have h := it_pos h p4
      exact hK20 (some (vR (ca 302 i0))) (some (vI x1)) (some (vI x2)) (some (vI x3)) s h
    · have h := it_neg h p4
      refine r_aload_n hX (p2 := 11) rfl rfl rfl ⟨_, Or.inl rfl⟩ ?_
      refine r_iload_n hX (p2 := 12) rfl rfl rfl ?_
      refine r_iload_n hX (p2 := 13) rfl rfl rfl ?_
      obtain ⟨c1, h⟩ := ck_some h
      obtain ⟨s2, hs2, h⟩ := bs_some h
      refine r_iastore hX (p2 := 14) (j := x2.toNat) rfl rfl (ha302 i0 hi0) rfl rfl c1 rfl hs2 ?_
      obtain ⟨c3, h⟩ := ck_some h
      refine r_iinc hX (p2 := 17) (ls2 := [some (vR (ca 302 i0)), some (vI x1), some (vI (x2 + 1)), some (vI x3)]) rfl rfl rfl rfl c3 rfl ?_
      refine r_goto hX (p2 := 5) rfl (by decide) ?_
      exact ih x1 (x2 + 1) x3 s2 h
noncomputable def f_fillI_302 (i0 : Nat) (a1 : Int) (s : pS) : Option (pS) := f_fillI_302_5 i0 (fun s1 => some s1) 400 a1 0 12 s
set_option maxRecDepth 10000 in
theorem c_fillI_302 (xs : Nat → Int) (e : Nat) (i0 : Nat) (a1 : Int) (hi0 : i0 < 3) (s : pS) (q : pS) (h : f_fillI_302 i0 a1 s = some q) : pCall pm_tx 1001 xs pm_P (e + 1) 166 [vR (ca 302 i0), vI a1] (pW s) (.inl none) (pW q) := by
  refine pCall_of mJ7_fill_53178 rfl rfl (fun X hX => ?_)
  show X [some (vR (ca 302 i0)), some (vI a1), none, none] [] 0 (pW s)
  replace hX : pm_clo 1001 xs (pCall pm_tx 1001 xs pm_P e) e mJ7_fill_53178 (eU q) X := hX
  unfold f_fillI_302 at h
  refine r_iconst hX (p2 := 1) rfl rfl rfl ?_
  refine r_istore_n hX (p2 := 2) (ls2 := [some (vR (ca 302 i0)), some (vI a1), some (vI 0), none]) rfl rfl rfl rfl ?_
  refine r_aload_n hX (p2 := 3) rfl rfl rfl ⟨_, Or.inl rfl⟩ ?_
  refine r_alen hX (p2 := 4) (x := 12) rfl rfl (ha302 i0 hi0) rfl rfl rfl ?_
  refine r_istore_n hX (p2 := 5) (ls2 := [some (vR (ca 302 i0)), some (vI a1), some (vI 0), some (vI 12)]) rfl rfl rfl rfl ?_
  refine t_fillI_302_5 xs e i0 hi0 q X hX _ (fun d0 d1 d2 d3 s1 h => ?_) 400 a1 0 12 s h
  exact r_return hX rfl rfl (eU_ok h)
noncomputable def f_fillF_303_5 (i0 : Nat) (K20 : pS → Option (pS)) : Nat → UInt32 → Int → Int → pS → Option (pS)
  | 0, _, _, _, _ => none
  | n + 1, x1, x2, x3, s => (if x3 ≤ x2 then K20 s else ck (0 ≤ x2 ∧ x2 < 12) (bs (wB s 303 i0 (pm_up (sB s 303 i0) x2.toNat x1)) (fun s2 => ck (inR (x2 + 1)) (f_fillF_303_5 i0 K20 n x1 (x2 + 1) x3 s2))))
set_option maxRecDepth 10000 in
theorem t_fillF_303_5 (xs : Nat → Int) (e : Nat) (i0 : Nat) (hi0 : i0 < 3) (q : pS) (X : List (Option pV) → List pV → Nat → pH → Prop) (hX : pm_clo 1001 xs (pCall pm_tx 1001 xs pm_P e) e mJ7_fill_e525d (eU q) X) (K20 : pS → Option (pS)) (hK20 : ∀ (d0 : Option pV) (d1 : Option pV) (d2 : Option pV) (d3 : Option pV) (s : pS), K20 s = some q → X [d0, d1, d2, d3] [] 20 (pW s)) : ∀ (n : Nat) (x1 : UInt32) (x2 : Int) (x3 : Int) (s : pS), f_fillF_303_5 i0 K20 n x1 x2 x3 s = some q → X [some (vR (ca 303 i0)), some (vF x1), some (vI x2), some (vI x3)] [] 5 (pW s) := by
  intro n
  induction n with
  | zero =>
    intro x1 x2 x3 s h
    rw [f_fillF_303_5] at h
    cases h
  | succ n ih =>
    intro x1 x2 x3 s h
    rw [f_fillF_303_5] at h
    refine r_iload_n hX (p2 := 6) rfl rfl rfl ?_
    refine r_iload_n hX (p2 := 7) rfl rfl rfl ?_
    refine r_icmp hX (p2 := 20) (p3 := 10) (P := x3 ≤ x2) rfl (by decide) rfl rfl (fun p4 => ?_) (fun p4 => ?_)
    · have h := it_pos h p4
      exact hK20 (some (vR (ca 303 i0))) (some (vF x1)) (some (vI x2)) (some (vI x3)) s h
    · have h := it_neg h p4
      refine r_aload_n hX (p2 := 11) rfl rfl rfl ⟨_, Or.inl rfl⟩ ?_
      refine r_iload_n hX (p2 := 12) rfl rfl rfl ?_
      refine r_fload_n hX (p2 := 13) rfl rfl rfl ?_
      obtain ⟨c1, h⟩ := ck_some h
      obtain ⟨s2, hs2, h⟩ := bs_some h
      refine r_fastore hX (p2 := 14) (j := x2.toNat) rfl rfl (ha303 i0 hi0) rfl rfl c1 rfl hs2 ?_
      obtain ⟨c3, h⟩ := ck_some h
      refine r_iinc hX (p2 := 17) (ls2 := [some (vR (ca 303 i0)), some (vF x1), some (vI (x2 + 1)), some (vI x3)]) rfl rfl rfl rfl c3 rfl ?_
      refine r_goto hX (p2 := 5) rfl (by decide) ?_
      exact ih x1 (x2 + 1) x3 s2 h
noncomputable def f_fillF_303 (i0 : Nat) (a1 : UInt32) (s : pS) : Option (pS) := f_fillF_303_5 i0 (fun s1 => some s1) 400 a1 0 12 s
set_option maxRecDepth 10000 in
theorem c_fillF_303 (xs : Nat → Int) (e : Nat) (i0 : Nat) (a1 : UInt32) (hi0 : i0 < 3) (s : pS) (q : pS) (h : f_fillF_303 i0 a1 s = some q) : pCall pm_tx 1001 xs pm_P (e + 1) 167 [vR (ca 303 i0), vF a1] (pW s) (.inl none) (pW q) := by
  refine pCall_of mJ7_fill_e525d rfl rfl (fun X hX => ?_)
  show X [some (vR (ca 303 i0)), some (vF a1), none, none] [] 0 (pW s)
  replace hX : pm_clo 1001 xs (pCall pm_tx 1001 xs pm_P e) e mJ7_fill_e525d (eU q) X := hX
  unfold f_fillF_303 at h
  refine r_iconst hX (p2 := 1) rfl rfl rfl ?_
  refine r_istore_n hX (p2 := 2) (ls2 := [some (vR (ca 303 i0)), some (vF a1), some (vI 0), none]) rfl rfl rfl rfl ?_
  refine r_aload_n hX (p2 := 3) rfl rfl rfl ⟨_, Or.inl rfl⟩ ?_
  refine r_alen hX (p2 := 4) (x := 12) rfl rfl (ha303 i0 hi0) rfl rfl rfl ?_
  refine r_istore_n hX (p2 := 5) (ls2 := [some (vR (ca 303 i0)), some (vF a1), some (vI 0), some (vI 12)]) rfl rfl rfl rfl ?_
  refine t_fillF_303_5 xs e i0 hi0 q X hX _ (fun d0 d1 d2 d3 s1 h => ?_) 400 a1 0 12 s h
  exact r_return hX rfl rfl (eU_ok h)
noncomputable def f_X3_clear (i0 : Nat) (s : pS) : Option (pS) := bs (wI s 304 i0 0) (fun s1 => (f_fillI_300 i0 3 s1).bind (fun q2 => (f_fillF_301 i0 FP.fconst0 q2).bind (fun q3 => (f_fillI_302 i0 3 q3).bind (fun q4 => (f_fillF_303 i0 FP.fconst0 q4).bind (fun q5 => some q5)))))
set_option maxRecDepth 10000 in
theorem c_X3_clear (xs : Nat → Int) (e : Nat) (i0 : Nat) (hi0 : i0 < 3) (s : pS) (q : pS) (h : f_X3_clear i0 s = some q) : pCall pm_tx 1001 xs pm_P (e + 1 + 1) 52 [vR (cc 3 i0)] (pW s) (.inl none) (pW q) := by
  refine pCall_of mX3_clear rfl rfl (fun X hX => ?_)
  show X [some (vR (cc 3 i0))] [] 0 (pW s)
  replace hX : pm_clo 1001 xs (pCall pm_tx 1001 xs pm_P (e + 1)) (e + 1) mX3_clear (eU q) X := hX
  unfold f_X3_clear at h
  refine r_aload_n hX (p2 := 1) rfl rfl rfl ⟨_, Or.inl rfl⟩ ?_
  refine r_iconst hX (p2 := 2) rfl rfl rfl ?_
  obtain ⟨s1, hs1, h⟩ := bs_some h
  refine r_pfI hX (p2 := 5) rfl rfl (hc3 i0 hi0) rfl rfl rfl rfl rfl rfl hs1 ?_
  refine r_aload_n hX (p2 := 6) rfl rfl rfl ⟨_, Or.inl rfl⟩ ?_
  refine r_gf hX (p2 := 9) (v := vR (ca 300 i0)) rfl rfl (hc3 i0 hi0) rfl rfl rfl ?_
  refine r_iconst hX (p2 := 10) rfl rfl rfl ?_
  obtain ⟨q2, hq2, h⟩ := bd_some h
  refine r_calls0 hX (p2 := 13) (v := none) (as := [vR (ca 300 i0), vI 3]) (r := []) (st2 := []) rfl rfl rfl rfl rfl rfl (c_fillI_300 xs e i0 3 hi0 s1 q2 hq2) ?_
  refine r_aload_n hX (p2 := 14) rfl rfl rfl ⟨_, Or.inl rfl⟩ ?_
  refine r_gf hX (p2 := 17) (v := vR (ca 301 i0)) rfl rfl (hc3 i0 hi0) rfl rfl rfl ?_
  refine r_fconst0 hX (p2 := 18) rfl rfl ?_
  obtain ⟨q3, hq3, h⟩ := bd_some h
  refine r_calls0 hX (p2 := 21) (v := none) (as := [vR (ca 301 i0), vF FP.fconst0]) (r := []) (st2 := []) rfl rfl rfl rfl rfl rfl (c_fillF_301 xs e i0 FP.fconst0 hi0 q2 q3 hq3) ?_
  refine r_aload_n hX (p2 := 22) rfl rfl rfl ⟨_, Or.inl rfl⟩ ?_
  refine r_gf hX (p2 := 25) (v := vR (ca 302 i0)) rfl rfl (hc3 i0 hi0) rfl rfl rfl ?_
  refine r_iconst hX (p2 := 26) rfl rfl rfl ?_
  obtain ⟨q4, hq4, h⟩ := bd_some h
  refine r_calls0 hX (p2 := 29) (v := none) (as := [vR (ca 302 i0), vI 3]) (r := []) (st2 := []) rfl rfl rfl rfl rfl rfl (c_fillI_302 xs e i0 3 hi0 q3 q4 hq4) ?_
  refine r_aload_n hX (p2 := 30) rfl rfl rfl ⟨_, Or.inl rfl⟩ ?_
  refine r_gf hX (p2 := 33) (v := vR (ca 303 i0)) rfl rfl (hc3 i0 hi0) rfl rfl rfl ?_
  refine r_fconst0 hX (p2 := 34) rfl rfl ?_
  obtain ⟨q5, hq5, h⟩ := bd_some h
  refine r_calls0 hX (p2 := 37) (v := none) (as := [vR (ca 303 i0), vF FP.fconst0]) (r := []) (st2 := []) rfl rfl rfl rfl rfl rfl (c_fillF_303 xs e i0 FP.fconst0 hi0 q4 q5 hq5) ?_
  exact r_return hX rfl rfl (eU_ok h)
noncomputable def f_X4_leaveRepeat (s : pS) : Option (pS) := bs (wI s 406 0 0) (fun s1 => bs (wI s1 407 0 0) (fun s2 => bs (wI s2 408 0 1) (fun s3 => some s3)))
set_option maxRecDepth 10000 in
theorem c_X4_leaveRepeat (xs : Nat → Int) (e : Nat) (s : pS) (q : pS) (h : f_X4_leaveRepeat s = some q) : pCall pm_tx 1001 xs pm_P (e + 1) 61 [vR (cc 4 0)] (pW s) (.inl none) (pW q) := by
  refine pCall_of mX4_leaveRepeat rfl rfl (fun X hX => ?_)
  show X [some (vR (cc 4 0))] [] 0 (pW s)
  replace hX : pm_clo 1001 xs (pCall pm_tx 1001 xs pm_P e) e mX4_leaveRepeat (eU q) X := hX
  unfold f_X4_leaveRepeat at h
  refine r_aload_n hX (p2 := 1) rfl rfl rfl ⟨_, Or.inl rfl⟩ ?_
  refine r_iconst hX (p2 := 2) rfl rfl rfl ?_
  obtain ⟨s1, hs1, h⟩ := bs_some h
  refine r_pfZ hX (p2 := 5) rfl rfl (hc4 0 (by decide)) rfl rfl rfl rfl rfl rfl hs1 (Or.inl rfl) ?_
  refine r_aload_n hX (p2 := 6) rfl rfl rfl ⟨_, Or.inl rfl⟩ ?_
  refine r_iconst hX (p2 := 7) rfl rfl rfl ?_
  obtain ⟨s2, hs2, h⟩ := bs_some h
  refine r_pfI hX (p2 := 10) rfl rfl (hc4 0 (by decide)) rfl rfl rfl rfl rfl rfl hs2 ?_
  refine r_aload_n hX (p2 := 11) rfl rfl rfl ⟨_, Or.inl rfl⟩ ?_
  refine r_iconst hX (p2 := 12) rfl rfl rfl ?_
  obtain ⟨s3, hs3, h⟩ := bs_some h
  refine r_pfI hX (p2 := 15) rfl rfl (hc4 0 (by decide)) rfl rfl rfl rfl rfl rfl hs3 ?_
  exact r_return hX rfl rfl (eU_ok h)
noncomputable def f_X4_peek_24 (y0 : Int) (s : pS) : Option (Int × pS) := ck (0 ≤ y0 ∧ y0 < 65536) (some (y0, s))
set_option maxRecDepth 10000 in
theorem t_X4_peek_24 (xs : Nat → Int) (e : Nat) (q : Int × pS) (X : List (Option pV) → List pV → Nat → pH → Prop) (hX : pm_clo 1001 xs (pCall pm_tx 1001 xs pm_P e) e mX4_peek (eI q) X) : ∀  (y0 : Int) (d0 : Option pV) (s : pS), f_X4_peek_24 y0 s = some q → X [d0] [vI y0] 24 (pW s) := by
  intro y0 d0 s h
  unfold f_X4_peek_24 at h
  obtain ⟨c1, h⟩ := ck_some h
  exact r_iretC hX rfl rfl c1 (eI_ok h)
noncomputable def f_X4_peek (s : pS) : Option (Int × pS) := (if (sI s 403 0) ≤ (sI s 401 0) then f_X4_peek_24 0 s else ck (0 ≤ (sI s 401 0) ∧ (sI s 401 0) < 40) (f_X4_peek_24 (sA s 402 0 (sI s 401 0).toNat) s))
set_option maxRecDepth 10000 in
theorem c_X4_peek (xs : Nat → Int) (e : Nat) (s : pS) (q : Int × pS) (h : f_X4_peek s = some q) : pCall pm_tx 1001 xs pm_P (e + 1) 72 [vR (cc 4 0)] (pW s) (.inl (some (vI q.1))) (pW q.2) := by
  refine pCall_of mX4_peek rfl rfl (fun X hX => ?_)
  show X [some (vR (cc 4 0))] [] 0 (pW s)
  replace hX : pm_clo 1001 xs (pCall pm_tx 1001 xs pm_P e) e mX4_peek (eI q) X := hX
  unfold f_X4_peek at h
  refine r_aload_n hX (p2 := 1) rfl rfl rfl ⟨_, Or.inl rfl⟩ ?_
  refine r_gf hX (p2 := 4) (v := vI (sI s 401 0)) rfl rfl (hc4 0 (by decide)) rfl rfl rfl ?_
  refine r_aload_n hX (p2 := 5) rfl rfl rfl ⟨_, Or.inl rfl⟩ ?_
  refine r_gf hX (p2 := 8) (v := vI (sI s 403 0)) rfl rfl (hc4 0 (by decide)) rfl rfl rfl ?_
  refine r_icmp hX (p2 := 23) (p3 := 11) (P := (sI s 403 0) ≤ (sI s 401 0)) rfl (by decide) rfl rfl (fun p2 => ?_) (fun p2 => ?_)
  · have h := it_pos h p2
    refine r_iconst hX (p2 := 24) rfl rfl rfl ?_
    exact t_X4_peek_24 xs e q X hX 0 (some (vR (cc 4 0))) s h
  · have h := it_neg h p2
    refine r_aload_n hX (p2 := 12) rfl rfl rfl ⟨_, Or.inl rfl⟩ ?_
    refine r_gf hX (p2 := 15) (v := vR (ca 402 0)) rfl rfl (hc4 0 (by decide)) rfl rfl rfl ?_
    refine r_aload_n hX (p2 := 16) rfl rfl rfl ⟨_, Or.inl rfl⟩ ?_
    refine r_gf hX (p2 := 19) (v := vI (sI s 401 0)) rfl rfl (hc4 0 (by decide)) rfl rfl rfl ?_
    obtain ⟨c1, h⟩ := ck_some h
    refine r_caload hX (p2 := 20) (j := (sI s 401 0).toNat) rfl rfl (ha402 0 (by decide)) rfl rfl c1 rfl ?_
    refine r_goto hX (p2 := 24) rfl (by decide) ?_
    exact t_X4_peek_24 xs e q X hX (sA s 402 0 (sI s 401 0).toNat) (some (vR (cc 4 0))) s h
noncomputable def f_X4_take_24 (s : pS) : Option (Int × pS) := some (0, s)
set_option maxRecDepth 10000 in
theorem t_X4_take_24 (xs : Nat → Int) (e : Nat) (q : Int × pS) (X : List (Option pV) → List pV → Nat → pH → Prop) (hX : pm_clo 1001 xs (pCall pm_tx 1001 xs pm_P e) e mX4_take (eI q) X) : ∀  (d0 : Option pV) (d1 : Option pV) (s : pS), f_X4_take_24 s = some q → X [d0, d1] [] 24 (pW s) := by
  intro d0 d1 s h
  unfold f_X4_take_24 at h
  refine r_iconst hX (p2 := 25) rfl rfl rfl ?_
  exact r_iretZ hX rfl rfl (Or.inl rfl) (eI_ok h)
noncomputable def f_X4_take (a1 : Int) (s : pS) : Option (Int × pS) := (if (sI s 403 0) ≤ (sI s 401 0) then f_X4_take_24 s else ck (0 ≤ (sI s 401 0) ∧ (sI s 401 0) < 40) ((if (sA s 402 0 (sI s 401 0).toNat) = a1 then ck (inR ((sI s 401 0) + 1)) (bs (wI s 401 0 ((sI s 401 0) + 1)) (fun s3 => some (1, s3))) else f_X4_take_24 s)))
set_option maxRecDepth 10000 in
theorem c_X4_take (xs : Nat → Int) (e : Nat) (a1 : Int) (s : pS) (q : Int × pS) (h : f_X4_take a1 s = some q) : pCall pm_tx 1001 xs pm_P (e + 1) 71 [vR (cc 4 0), vI a1] (pW s) (.inl (some (vI q.1))) (pW q.2) := by
  refine pCall_of mX4_take rfl rfl (fun X hX => ?_)
  show X [some (vR (cc 4 0)), some (vI a1)] [] 0 (pW s)
  replace hX : pm_clo 1001 xs (pCall pm_tx 1001 xs pm_P e) e mX4_take (eI q) X := hX
  unfold f_X4_take at h
  refine r_aload_n hX (p2 := 1) rfl rfl rfl ⟨_, Or.inl rfl⟩ ?_
  refine r_gf hX (p2 := 4) (v := vI (sI s 401 0)) rfl rfl (hc4 0 (by decide)) rfl rfl rfl ?_
  refine r_aload_n hX (p2 := 5) rfl rfl rfl ⟨_, Or.inl rfl⟩ ?_
  refine r_gf hX (p2 := 8) (v := vI (sI s 403 0)) rfl rfl (hc4 0 (by decide)) rfl rfl rfl ?_
  refine r_icmp hX (p2 := 24) (p3 := 11) (P := (sI s 403 0) ≤ (sI s 401 0)) rfl (by decide) rfl rfl (fun p5 => ?_) (fun p5 => ?_)
  · have h := it_pos h p5
    exact t_X4_take_24 xs e q X hX (some (vR (cc 4 0))) (some (vI a1)) s h
  · have h := it_neg h p5
    refine r_aload_n hX (p2 := 12) rfl rfl rfl ⟨_, Or.inl rfl⟩ ?_
    refine r_gf hX (p2 := 15) (v := vR (ca 402 0)) rfl rfl (hc4 0 (by decide)) rfl rfl rfl ?_
    refine r_aload_n hX (p2 := 16) rfl rfl rfl ⟨_, Or.inl rfl⟩ ?_
    refine r_gf hX (p2 := 19) (v := vI (sI s 401 0)) rfl rfl (hc4 0 (by decide)) rfl rfl rfl ?_
    obtain ⟨c1, h⟩ := ck_some h
    refine r_caload hX (p2 := 20) (j := (sI s 401 0).toNat) rfl rfl (ha402 0 (by decide)) rfl rfl c1 rfl ?_
    refine r_iload_n hX (p2 := 21) rfl rfl rfl ?_
    refine r_icmp hX (p2 := 26) (p3 := 24) (P := (sA s 402 0 (sI s 401 0).toNat) = a1) rfl (by decide) rfl rfl (fun p4 => ?_) (fun p4 => ?_)
    · have h := it_pos h p4
      refine r_aload_n hX (p2 := 27) rfl rfl rfl ⟨_, Or.inl rfl⟩ ?_
      refine r_dup hX (p2 := 28) rfl rfl rfl ?_
      refine r_gf hX (p2 := 31) (v := vI (sI s 401 0)) rfl rfl (hc4 0 (by decide)) rfl rfl rfl ?_
      refine r_iconst hX (p2 := 32) rfl rfl rfl ?_
      obtain ⟨c2, h⟩ := ck_some h
      refine r_iadd hX (p2 := 33) rfl rfl c2 ?_
      obtain ⟨s3, hs3, h⟩ := bs_some h
      refine r_pfI hX (p2 := 36) rfl rfl (hc4 0 (by decide)) rfl rfl rfl rfl rfl rfl hs3 ?_
      refine r_iconst hX (p2 := 37) rfl rfl rfl ?_
      exact r_iretZ hX rfl rfl (Or.inr rfl) (eI_ok h)
    · have h := it_neg h p4
      exact t_X4_take_24 xs e q X hX (some (vR (cc 4 0))) (some (vI a1)) s h
noncomputable def f_X4_takeWord_2 (i1 : Nat) (K30 : pS → Option (Int × pS)) : Nat → Int → pS → Option (Int × pS)
  | 0, _, _ => none
  | n + 1, x2, s => (if ((pm_tx i1).length : Int) ≤ x2 then K30 s else ck (0 ≤ x2) (((pm_tx i1)[x2.toNat]?).bind (fun q2 => (f_X4_take q2 s).bind (fun q3 => (if q3.1 ≠ 0 then ck (inR (x2 + 1)) (f_X4_takeWord_2 i1 K30 n (x2 + 1) q3.2) else some (0, q3.2))))))
set_option maxRecDepth 10000 in
theorem t_X4_takeWord_2 (xs : Nat → Int) (e : Nat) (i1 : Nat) (hi1 : i1 < 13) (q : Int × pS) (X : List (Option pV) → List pV → Nat → pH → Prop) (hX : pm_clo 1001 xs (pCall pm_tx 1001 xs pm_P (e + 4)) (e + 4) mX4_takeWord (eI q) X) (K30 : pS → Option (Int × pS)) (hK30 : ∀ (d0 : Option pV) (d1 : Option pV) (d2 : Option pV) (s : pS), K30 s = some q → X [d0, d1, d2] [] 30 (pW s)) : ∀ (n : Nat) (x2 : Int) (s : pS), f_X4_takeWord_2 i1 K30 n x2 s = some q → X [some (vR (cc 4 0)), some (vX (3 + i1)), some (vI x2)] [] 2 (pW s) := by
  intro n
  induction n with
  | zero =>
    intro x2 s h
    rw [f_X4_takeWord_2] at h
    cases h
  | succ n ih =>
    intro x2 s h
    rw [f_X4_takeWord_2] at h
    refine r_iload_n hX (p2 := 3) rfl rfl rfl ?_
    refine r_aload_n hX (p2 := 4) rfl rfl rfl (tx_ref i1) ?_
    refine r_slen hX (p2 := 7) rfl rfl rfl hi1 (by omega) ?_
    refine r_icmp hX (p2 := 30) (p3 := 10) (P := ((pm_tx i1).length : Int) ≤ x2) rfl (by decide) rfl rfl (fun p6 => ?_) (fun p6 => ?_)
    · have h := it_pos h p6
      exact hK30 (some (vR (cc 4 0))) (some (vX (3 + i1))) (some (vI x2)) s h
    · have h := it_neg h p6
      refine r_aload_n hX (p2 := 11) rfl rfl rfl ⟨_, Or.inl rfl⟩ ?_
      refine r_aload_n hX (p2 := 12) rfl rfl rfl (tx_ref i1) ?_
      refine r_iload_n hX (p2 := 13) rfl rfl rfl ?_
      obtain ⟨c1, h⟩ := ck_some h
      obtain ⟨q2, hq2, h⟩ := bd_some h
      refine r_schar hX (p2 := 16) rfl rfl rfl hi1 (by omega) c1 hq2 ?_
      obtain ⟨q3, hq3, h⟩ := bd_some h
      refine r_callv hX (p2 := 19) (v := some (vI q3.1)) (as := [vI q2]) (r := []) (st2 := [vI q3.1]) rfl rfl rfl rfl rfl (hc4 0 (by decide)) rfl rfl (c_X4_take xs (e + 3) q2 s q3 hq3) ?_
      refine r_if hX (p2 := 24) (p3 := 22) (P := q3.1 ≠ 0) rfl (by decide) rfl rfl (fun p5 => ?_) (fun p5 => ?_)
      · have h := it_pos h p5
        obtain ⟨c4, h⟩ := ck_some h
        refine r_iinc hX (p2 := 27) (ls2 := [some (vR (cc 4 0)), some (vX (3 + i1)), some (vI (x2 + 1))]) rfl rfl rfl rfl c4 rfl ?_
        refine r_goto hX (p2 := 2) rfl (by decide) ?_
        exact ih (x2 + 1) q3.2 h
      · have h := it_neg h p5
        refine r_iconst hX (p2 := 23) rfl rfl rfl ?_
        exact r_iretZ hX rfl rfl (Or.inl rfl) (eI_ok h)
noncomputable def f_X4_takeWord (i1 : Nat) (s : pS) : Option (Int × pS) := f_X4_takeWord_2 i1 (fun s1 => some (1, s1)) 400 0 s
set_option maxRecDepth 10000 in
theorem c_X4_takeWord (xs : Nat → Int) (e : Nat) (i1 : Nat) (hi1 : i1 < 13) (s : pS) (q : Int × pS) (h : f_X4_takeWord i1 s = some q) : pCall pm_tx 1001 xs pm_P (e + 4 + 1) 70 [vR (cc 4 0), vX (3 + i1)] (pW s) (.inl (some (vI q.1))) (pW q.2) := by
  refine pCall_of mX4_takeWord rfl rfl (fun X hX => ?_)
  show X [some (vR (cc 4 0)), some (vX (3 + i1)), none] [] 0 (pW s)
  replace hX : pm_clo 1001 xs (pCall pm_tx 1001 xs pm_P (e + 4)) (e + 4) mX4_takeWord (eI q) X := hX
  unfold f_X4_takeWord at h
  refine r_iconst hX (p2 := 1) rfl rfl rfl ?_
  refine r_istore_n hX (p2 := 2) (ls2 := [some (vR (cc 4 0)), some (vX (3 + i1)), some (vI 0)]) rfl rfl rfl rfl ?_
  refine t_X4_takeWord_2 xs e i1 hi1 q X hX _ (fun d0 d1 d2 s1 h => ?_) 400 0 s h
  refine r_iconst hX (p2 := 31) rfl rfl rfl ?_
  exact r_iretZ hX rfl rfl (Or.inr rfl) (eI_ok h)
noncomputable def f_X4_enterRepeat_44 (s : pS) : Option (Int × pS) := some (0, s)
set_option maxRecDepth 10000 in
theorem t_X4_enterRepeat_44 (xs : Nat → Int) (e : Nat) (q : Int × pS) (X : List (Option pV) → List pV → Nat → pH → Prop) (hX : pm_clo 1001 xs (pCall pm_tx 1001 xs pm_P (e + 5)) (e + 5) mX4_enterRepeat (eI q) X) : ∀  (d0 : Option pV) (d1 : Option pV) (s : pS), f_X4_enterRepeat_44 s = some q → X [d0, d1] [] 44 (pW s) := by
  intro d0 d1 s h
  unfold f_X4_enterRepeat_44 at h
  refine r_iconst hX (p2 := 45) rfl rfl rfl ?_
  exact r_iretZ hX rfl rfl (Or.inl rfl) (eI_ok h)
noncomputable def f_X4_enterRepeat (s : pS) : Option (Int × pS) := (f_X4_takeWord 6 s).bind (fun q1 => (if q1.1 ≠ 0 then (f_X4_peek q1.2).bind (fun q2 => ck (inR (q2.1 - 48)) (bs ((q2.1 - 48)) (fun v4 => (if v4 < 1 then f_X4_enterRepeat_44 q2.2 else (if 9 < v4 then f_X4_enterRepeat_44 q2.2 else ck (inR ((sI q2.2 304 2) + v4)) ((if ((sI q2.2 304 2) + v4) ≤ 12 then ck (inR ((sI q2.2 401 0) + 1)) (bs (wI q2.2 401 0 ((sI q2.2 401 0) + 1)) (fun s7 => bs (wI s7 406 0 1) (fun s8 => bs (wI s8 407 0 (sI s8 304 2)) (fun s9 => bs (wI s9 408 0 v4) (fun s10 => (f_X4_take 44 s10).bind (fun q11 => ck (q11.1 = 0 ∨ q11.1 = 1) (some (q11.1, q11.2)))))))) else f_X4_enterRepeat_44 q2.2))))))) else some (0, q1.2)))
set_option maxRecDepth 10000 in
theorem c_X4_enterRepeat (xs : Nat → Int) (e : Nat) (s : pS) (q : Int × pS) (h : f_X4_enterRepeat s = some q) : pCall pm_tx 1001 xs pm_P (e + 5 + 1) 60 [vR (cc 4 0)] (pW s) (.inl (some (vI q.1))) (pW q.2) := by
  refine pCall_of mX4_enterRepeat rfl rfl (fun X hX => ?_)
  show X [some (vR (cc 4 0)), none] [] 0 (pW s)
  replace hX : pm_clo 1001 xs (pCall pm_tx 1001 xs pm_P (e + 5)) (e + 5) mX4_enterRepeat (eI q) X := hX
  unfold f_X4_enterRepeat at h
  refine r_aload_n hX (p2 := 1) rfl rfl rfl ⟨_, Or.inl rfl⟩ ?_
  refine r_ldcS hX (p2 := 3) rfl rfl ?_
  obtain ⟨q1, hq1, h⟩ := bd_some h
  refine r_callv hX (p2 := 6) (v := some (vI q1.1)) (as := [vX (3 + 6)]) (r := []) (st2 := [vI q1.1]) rfl rfl rfl rfl rfl (hc4 0 (by decide)) rfl rfl (c_X4_takeWord xs e 6 (by decide) s q1 hq1) ?_
  refine r_if hX (p2 := 11) (p3 := 9) (P := q1.1 ≠ 0) rfl (by decide) rfl rfl (fun p16 => ?_) (fun p16 => ?_)
  · have h := it_pos h p16
    refine r_aload_n hX (p2 := 12) rfl rfl rfl ⟨_, Or.inl rfl⟩ ?_
    obtain ⟨q2, hq2, h⟩ := bd_some h
    refine r_callv hX (p2 := 15) (v := some (vI q2.1)) (as := []) (r := []) (st2 := [vI q2.1]) rfl rfl rfl rfl rfl (hc4 0 (by decide)) rfl rfl (c_X4_peek xs (e + 4) q1.2 q2 hq2) ?_
    refine r_bipush hX (p2 := 17) rfl rfl rfl ?_
    obtain ⟨c3, h⟩ := ck_some h
    refine r_isub hX (p2 := 18) rfl rfl c3 ?_
    obtain ⟨v4, hv4, h⟩ := bs_some h
    refine r_istoreE_n hX (p2 := 19) (ls2 := [some (vR (cc 4 0)), some (vI v4)]) rfl rfl hv4 rfl rfl ?_
    refine r_iload_n hX (p2 := 20) rfl rfl rfl ?_
    refine r_iconst hX (p2 := 21) rfl rfl rfl ?_
    refine r_icmp hX (p2 := 44) (p3 := 24) (P := v4 < 1) rfl (by decide) rfl rfl (fun p15 => ?_) (fun p15 => ?_)
    · have h := it_pos h p15
      exact t_X4_enterRepeat_44 xs e q X hX (some (vR (cc 4 0))) (some (vI v4)) q2.2 h
    · have h := it_neg h p15
      refine r_iload_n hX (p2 := 25) rfl rfl rfl ?_
      refine r_bipush hX (p2 := 27) rfl rfl rfl ?_
      refine r_icmp hX (p2 := 44) (p3 := 30) (P := 9 < v4) rfl (by decide) rfl rfl (fun p14 => ?_) (fun p14 => ?_)
      · have h := it_pos h p14
        exact t_X4_enterRepeat_44 xs e q X hX (some (vR (cc 4 0))) (some (vI v4)) q2.2 h
      · have h := it_neg h p14
        refine r_aload_n hX (p2 := 31) rfl rfl rfl ⟨_, Or.inl rfl⟩ ?_
        refine r_gf hX (p2 := 34) (v := vR (cc 3 2)) rfl rfl (hc4 0 (by decide)) rfl rfl rfl ?_
        refine r_gf hX (p2 := 37) (v := vI (sI q2.2 304 2)) rfl rfl (hc3 2 (by decide)) rfl rfl rfl ?_
        refine r_iload_n hX (p2 := 38) rfl rfl rfl ?_
        obtain ⟨c5, h⟩ := ck_some h
        refine r_iadd hX (p2 := 39) rfl rfl c5 ?_
        refine r_bipush hX (p2 := 41) rfl rfl rfl ?_
        refine r_icmp hX (p2 := 46) (p3 := 44) (P := ((sI q2.2 304 2) + v4) ≤ 12) rfl (by decide) rfl rfl (fun p13 => ?_) (fun p13 => ?_)
        · have h := it_pos h p13
          refine r_aload_n hX (p2 := 47) rfl rfl rfl ⟨_, Or.inl rfl⟩ ?_
          refine r_dup hX (p2 := 48) rfl rfl rfl ?_
          refine r_gf hX (p2 := 51) (v := vI (sI q2.2 401 0)) rfl rfl (hc4 0 (by decide)) rfl rfl rfl ?_
          refine r_iconst hX (p2 := 52) rfl rfl rfl ?_
          obtain ⟨c6, h⟩ := ck_some h
          refine r_iadd hX (p2 := 53) rfl rfl c6 ?_
          obtain ⟨s7, hs7, h⟩ := bs_some h
          refine r_pfI hX (p2 := 56) rfl rfl (hc4 0 (by decide)) rfl rfl rfl rfl rfl rfl hs7 ?_
          refine r_aload_n hX (p2 := 57) rfl rfl rfl ⟨_, Or.inl rfl⟩ ?_
          refine r_iconst hX (p2 := 58) rfl rfl rfl ?_
          obtain ⟨s8, hs8, h⟩ := bs_some h
          refine r_pfZ hX (p2 := 61) rfl rfl (hc4 0 (by decide)) rfl rfl rfl rfl rfl rfl hs8 (Or.inr rfl) ?_
          refine r_aload_n hX (p2 := 62) rfl rfl rfl ⟨_, Or.inl rfl⟩ ?_
          refine r_aload_n hX (p2 := 63) rfl rfl rfl ⟨_, Or.inl rfl⟩ ?_
          refine r_gf hX (p2 := 66) (v := vR (cc 3 2)) rfl rfl (hc4 0 (by decide)) rfl rfl rfl ?_
          refine r_gf hX (p2 := 69) (v := vI (sI s8 304 2)) rfl rfl (hc3 2 (by decide)) rfl rfl rfl ?_
          obtain ⟨s9, hs9, h⟩ := bs_some h
          refine r_pfI hX (p2 := 72) rfl rfl (hc4 0 (by decide)) rfl rfl rfl rfl rfl rfl hs9 ?_
          refine r_aload_n hX (p2 := 73) rfl rfl rfl ⟨_, Or.inl rfl⟩ ?_
          refine r_iload_n hX (p2 := 74) rfl rfl rfl ?_
          obtain ⟨s10, hs10, h⟩ := bs_some h
          refine r_pfI hX (p2 := 77) rfl rfl (hc4 0 (by decide)) rfl rfl rfl rfl rfl rfl hs10 ?_
          refine r_aload_n hX (p2 := 78) rfl rfl rfl ⟨_, Or.inl rfl⟩ ?_
          refine r_bipush hX (p2 := 80) rfl rfl rfl ?_
          obtain ⟨q11, hq11, h⟩ := bd_some h
          refine r_callv hX (p2 := 83) (v := some (vI q11.1)) (as := [vI 44]) (r := []) (st2 := [vI q11.1]) rfl rfl rfl rfl rfl (hc4 0 (by decide)) rfl rfl (c_X4_take xs (e + 4) 44 s10 q11 hq11) ?_
          obtain ⟨c12, h⟩ := ck_some h
          exact r_iretZ hX rfl rfl c12 (eI_ok h)
        · have h := it_neg h p13
          exact t_X4_enterRepeat_44 xs e q X hX (some (vR (cc 4 0))) (some (vI v4)) q2.2 h
  · have h := it_neg h p16
    refine r_iconst hX (p2 := 10) rfl rfl rfl ?_
    exact r_iretZ hX rfl rfl (Or.inl rfl) (eI_ok h)
noncomputable def f_X4_readDigits_4 (K48 : Int → pS → Option (Int × pS)) (K84 : Int → pS → Option (Int × pS)) : Nat → Int → Int → Int → pS → Option (Int × pS)
  | 0, _, _, _, _ => none
  | n + 1, x1, x2, x3, s => (if x1 ≤ x3 then K84 x2 s else (if (sI s 403 0) ≤ (sI s 401 0) then K48 x2 s else ck (0 ≤ (sI s 401 0) ∧ (sI s 401 0) < 40) ((if (sA s 402 0 (sI s 401 0).toNat) < 48 then K48 x2 s else ck (0 ≤ (sI s 401 0) ∧ (sI s 401 0) < 40) ((if (sA s 402 0 (sI s 401 0).toNat) ≤ 57 then ck (inR (x2 * 10)) (ck (0 ≤ (sI s 401 0) ∧ (sI s 401 0) < 40) (ck (inR ((sA s 402 0 (sI s 401 0).toNat) - 48)) (ck (inR ((x2 * 10) + ((sA s 402 0 (sI s 401 0).toNat) - 48))) (bs (((x2 * 10) + ((sA s 402 0 (sI s 401 0).toNat) - 48))) (fun v7 => ck (inR ((sI s 401 0) + 1)) (bs (wI s 401 0 ((sI s 401 0) + 1)) (fun s9 => ck (inR (x3 + 1)) (f_X4_readDigits_4 K48 K84 n x1 v7 (x3 + 1) s9)))))))) else K48 x2 s))))))
set_option maxRecDepth 10000 in
theorem t_X4_readDigits_4 (xs : Nat → Int) (e : Nat) (q : Int × pS) (X : List (Option pV) → List pV → Nat → pH → Prop) (hX : pm_clo 1001 xs (pCall pm_tx 1001 xs pm_P e) e mX4_readDigits (eI q) X) (K48 : Int → pS → Option (Int × pS)) (K84 : Int → pS → Option (Int × pS)) (hK48 : ∀ (x2 : Int) (d0 : Option pV) (d1 : Option pV) (d3 : Option pV) (s : pS), K48 x2 s = some q → X [d0, d1, some (vI x2), d3] [] 48 (pW s)) (hK84 : ∀ (x2 : Int) (d0 : Option pV) (d1 : Option pV) (d3 : Option pV) (s : pS), K84 x2 s = some q → X [d0, d1, some (vI x2), d3] [] 84 (pW s)) : ∀ (n : Nat) (x1 : Int) (x2 : Int) (x3 : Int) (s : pS), f_X4_readDigits_4 K48 K84 n x1 x2 x3 s = some q → X [some (vR (cc 4 0)), some (vI x1), some (vI x2), some (vI x3)] [] 4 (pW s) := by
  intro n
  induction n with
  | zero =>
    intro x1 x2 x3 s h
    rw [f_X4_readDigits_4] at h
    cases h
  | succ n ih =>
    intro x1 x2 x3 s h
    rw [f_X4_readDigits_4] at h
    refine r_iload_n hX (p2 := 5) rfl rfl rfl ?_
    refine r_iload_n hX (p2 := 6) rfl rfl rfl ?_
    refine r_icmp hX (p2 := 84) (p3 := 9) (P := x1 ≤ x3) rfl (by decide) rfl rfl (fun p14 => ?_) (fun p14 => ?_)
    · have h := it_pos h p14
      exact hK84 x2 (some (vR (cc 4 0))) (some (vI x1)) (some (vI x3)) s h
    · have h := it_neg h p14
      refine r_aload_n hX (p2 := 10) rfl rfl rfl ⟨_, Or.inl rfl⟩ ?_
      refine r_gf hX (p2 := 13) (v := vI (sI s 401 0)) rfl rfl (hc4 0 (by decide)) rfl rfl rfl ?_
      refine r_aload_n hX (p2 := 14) rfl rfl rfl ⟨_, Or.inl rfl⟩ ?_
      refine r_gf hX (p2 := 17) (v := vI (sI s 403 0)) rfl rfl (hc4 0 (by decide)) rfl rfl rfl ?_
      refine r_icmp hX (p2 := 48) (p3 := 20) (P := (sI s 403 0) ≤ (sI s 401 0)) rfl (by decide) rfl rfl (fun p13 => ?_) (fun p13 => ?_)
      · have h := it_pos h p13
        exact hK48 x2 (some (vR (cc 4 0))) (some (vI x1)) (some (vI x3)) s h
      · have h := it_neg h p13
        refine r_aload_n hX (p2 := 21) rfl rfl rfl ⟨_, Or.inl rfl⟩ ?_
        refine r_gf hX (p2 := 24) (v := vR (ca 402 0)) rfl rfl (hc4 0 (by decide)) rfl rfl rfl ?_
        refine r_aload_n hX (p2 := 25) rfl rfl rfl ⟨_, Or.inl rfl⟩ ?_
        refine r_gf hX (p2 := 28) (v := vI (sI s 401 0)) rfl rfl (hc4 0 (by decide)) rfl rfl rfl ?_
        obtain ⟨c1, h⟩ := ck_some h
        refine r_caload hX (p2 := 29) (j := (sI s 401 0).toNat) rfl rfl (ha402 0 (by decide)) rfl rfl c1 rfl ?_
        refine r_bipush hX (p2 := 31) rfl rfl rfl ?_
        refine r_icmp hX (p2 := 48) (p3 := 34) (P := (sA s 402 0 (sI s 401 0).toNat) < 48) rfl (by decide) rfl rfl (fun p12 => ?_) (fun p12 => ?_)
        · have h := it_pos h p12
          exact hK48 x2 (some (vR (cc 4 0))) (some (vI x1)) (some (vI x3)) s h
        · have h := it_neg h p12
          refine r_aload_n hX (p2 := 35) rfl rfl rfl ⟨_, Or.inl rfl⟩ ?_
          refine r_gf hX (p2 := 38) (v := vR (ca 402 0)) rfl rfl (hc4 0 (by decide)) rfl rfl rfl ?_
          refine r_aload_n hX (p2 := 39) rfl rfl rfl ⟨_, Or.inl rfl⟩ ?_
          refine r_gf hX (p2 := 42) (v := vI (sI s 401 0)) rfl rfl (hc4 0 (by decide)) rfl rfl rfl ?_
          obtain ⟨c2, h⟩ := ck_some h
          refine r_caload hX (p2 := 43) (j := (sI s 401 0).toNat) rfl rfl (ha402 0 (by decide)) rfl rfl c2 rfl ?_
          refine r_bipush hX (p2 := 45) rfl rfl rfl ?_
          refine r_icmp hX (p2 := 50) (p3 := 48) (P := (sA s 402 0 (sI s 401 0).toNat) ≤ 57) rfl (by decide) rfl rfl (fun p11 => ?_) (fun p11 => ?_)
          · have h := it_pos h p11
            refine r_iload_n hX (p2 := 51) rfl rfl rfl ?_
            refine r_bipush hX (p2 := 53) rfl rfl rfl ?_
            obtain ⟨c3, h⟩ := ck_some h
            refine r_imul hX (p2 := 54) rfl rfl c3 ?_
            refine r_aload_n hX (p2 := 55) rfl rfl rfl ⟨_, Or.inl rfl⟩ ?_
            refine r_gf hX (p2 := 58) (v := vR (ca 402 0)) rfl rfl (hc4 0 (by decide)) rfl rfl rfl ?_
            refine r_aload_n hX (p2 := 59) rfl rfl rfl ⟨_, Or.inl rfl⟩ ?_
            refine r_gf hX (p2 := 62) (v := vI (sI s 401 0)) rfl rfl (hc4 0 (by decide)) rfl rfl rfl ?_
            obtain ⟨c4, h⟩ := ck_some h
            refine r_caload hX (p2 := 63) (j := (sI s 401 0).toNat) rfl rfl (ha402 0 (by decide)) rfl rfl c4 rfl ?_
            refine r_bipush hX (p2 := 65) rfl rfl rfl ?_
            obtain ⟨c5, h⟩ := ck_some h
            refine r_isub hX (p2 := 66) rfl rfl c5 ?_
            obtain ⟨c6, h⟩ := ck_some h
            refine r_iadd hX (p2 := 67) rfl rfl c6 ?_
            obtain ⟨v7, hv7, h⟩ := bs_some h
            refine r_istoreE_n hX (p2 := 68) (ls2 := [some (vR (cc 4 0)), some (vI x1), some (vI v7), some (vI x3)]) rfl rfl hv7 rfl rfl ?_
            refine r_aload_n hX (p2 := 69) rfl rfl rfl ⟨_, Or.inl rfl⟩ ?_
            refine r_dup hX (p2 := 70) rfl rfl rfl ?_
            refine r_gf hX (p2 := 73) (v := vI (sI s 401 0)) rfl rfl (hc4 0 (by decide)) rfl rfl rfl ?_
            refine r_iconst hX (p2 := 74) rfl rfl rfl ?_
            obtain ⟨c8, h⟩ := ck_some h
            refine r_iadd hX (p2 := 75) rfl rfl c8 ?_
            obtain ⟨s9, hs9, h⟩ := bs_some h
            refine r_pfI hX (p2 := 78) rfl rfl (hc4 0 (by decide)) rfl rfl rfl rfl rfl rfl hs9 ?_
            obtain ⟨c10, h⟩ := ck_some h
            refine r_iinc hX (p2 := 81) (ls2 := [some (vR (cc 4 0)), some (vI x1), some (vI v7), some (vI (x3 + 1))]) rfl rfl rfl rfl c10 rfl ?_
            refine r_goto hX (p2 := 4) rfl (by decide) ?_
            exact ih x1 v7 (x3 + 1) s9 h
          · have h := it_neg h p11
            exact hK48 x2 (some (vR (cc 4 0))) (some (vI x1)) (some (vI x3)) s h
noncomputable def f_X4_readDigits_48 (x2 : Int) (s : pS) : Option (Int × pS) := some (x2, s)
set_option maxRecDepth 10000 in
theorem t_X4_readDigits_48 (xs : Nat → Int) (e : Nat) (q : Int × pS) (X : List (Option pV) → List pV → Nat → pH → Prop) (hX : pm_clo 1001 xs (pCall pm_tx 1001 xs pm_P e) e mX4_readDigits (eI q) X) : ∀  (x2 : Int) (d0 : Option pV) (d1 : Option pV) (d3 : Option pV) (s : pS), f_X4_readDigits_48 x2 s = some q → X [d0, d1, some (vI x2), d3] [] 48 (pW s) := by
  intro x2 d0 d1 d3 s h
  unfold f_X4_readDigits_48 at h
  refine r_iload_n hX (p2 := 49) rfl rfl rfl ?_
  exact r_iretI hX rfl rfl (eI_ok h)
noncomputable def f_X4_readDigits (a1 : Int) (s : pS) : Option (Int × pS) := f_X4_readDigits_4 (fun x2 s1 => f_X4_readDigits_48 x2 s1) (fun x2 s2 => some (x2, s2)) 400 a1 0 0 s
set_option maxRecDepth 10000 in
theorem c_X4_readDigits (xs : Nat → Int) (e : Nat) (a1 : Int) (s : pS) (q : Int × pS) (h : f_X4_readDigits a1 s = some q) : pCall pm_tx 1001 xs pm_P (e + 1) 69 [vR (cc 4 0), vI a1] (pW s) (.inl (some (vI q.1))) (pW q.2) := by
  refine pCall_of mX4_readDigits rfl rfl (fun X hX => ?_)
  show X [some (vR (cc 4 0)), some (vI a1), none, none] [] 0 (pW s)
  replace hX : pm_clo 1001 xs (pCall pm_tx 1001 xs pm_P e) e mX4_readDigits (eI q) X := hX
  unfold f_X4_readDigits at h
  refine r_iconst hX (p2 := 1) rfl rfl rfl ?_
  refine r_istore_n hX (p2 := 2) (ls2 := [some (vR (cc 4 0)), some (vI a1), some (vI 0), none]) rfl rfl rfl rfl ?_
  refine r_iconst hX (p2 := 3) rfl rfl rfl ?_
  refine r_istore_n hX (p2 := 4) (ls2 := [some (vR (cc 4 0)), some (vI a1), some (vI 0), some (vI 0)]) rfl rfl rfl rfl ?_
  refine t_X4_readDigits_4 xs e q X hX _ _ (fun x2 d0 d1 d3 s1 h => ?_) (fun x2 d0 d1 d3 s2 h => ?_) 400 a1 0 0 s h
  · exact t_X4_readDigits_48 xs e q X hX x2 d0 d1 d3 s1 h
  · refine r_iload_n hX (p2 := 85) rfl rfl rfl ?_
    exact r_iretI hX rfl rfl (eI_ok h)
noncomputable def f_X4_readNumber_89 (x4 : Int) (y0 : UInt32) (s : pS) : Option (Int × pS) := ck (vf_n32 (FP.fdiv (FP.i2f (Int32.ofInt x4)) y0)) (ck (vf_n32 (FP.fadd (sF s 405 0) (FP.fdiv (FP.i2f (Int32.ofInt x4)) y0))) (bs (wF s 405 0 (FP.fadd (sF s 405 0) (FP.fdiv (FP.i2f (Int32.ofInt x4)) y0))) (fun s3 => some (1, s3))))
set_option maxRecDepth 10000 in
theorem t_X4_readNumber_89 (xs : Nat → Int) (e : Nat) (q : Int × pS) (X : List (Option pV) → List pV → Nat → pH → Prop) (hX : pm_clo 1001 xs (pCall pm_tx 1001 xs pm_P (e + 1)) (e + 1) mX4_readNumber (eI q) X) : ∀  (x4 : Int) (y0 : UInt32) (d1 : Option pV) (d2 : Option pV) (d3 : Option pV) (d5 : Option pV) (d6 : Option pV) (hd5 : pm_nc d5) (s : pS), f_X4_readNumber_89 x4 y0 s = some q → X [some (vR (cc 4 0)), d1, d2, d3, some (vI x4), d5, d6] [vF y0] 89 (pW s) := by
  intro x4 y0 d1 d2 d3 d5 d6 hd5 s h
  unfold f_X4_readNumber_89 at h
  refine r_fstore hX (p2 := 91) (ls2 := [some (vR (cc 4 0)), d1, d2, d3, some (vI x4), d5, some (vF y0)]) rfl rfl rfl (st1_nc rfl hd5 rfl) ?_
  refine r_aload_n hX (p2 := 92) rfl rfl rfl ⟨_, Or.inl rfl⟩ ?_
  refine r_aload_n hX (p2 := 93) rfl rfl rfl ⟨_, Or.inl rfl⟩ ?_
  refine r_gf hX (p2 := 96) (v := vF (sF s 405 0)) rfl rfl (hc4 0 (by decide)) rfl rfl rfl ?_
  refine r_iload hX (p2 := 98) rfl rfl rfl ?_
  refine r_i2f hX (p2 := 99) rfl rfl ?_
  refine r_fload hX (p2 := 101) rfl rfl rfl ?_
  obtain ⟨c1, h⟩ := ck_some h
  refine r_fdiv hX (p2 := 102) rfl rfl c1 ?_
  obtain ⟨c2, h⟩ := ck_some h
  refine r_fadd hX (p2 := 103) rfl rfl c2 ?_
  obtain ⟨s3, hs3, h⟩ := bs_some h
  refine r_pfF hX (p2 := 106) rfl rfl (hc4 0 (by decide)) rfl rfl rfl rfl hs3 ?_
  refine r_iconst hX (p2 := 107) rfl rfl rfl ?_
  exact r_iretZ hX rfl rfl (Or.inr rfl) (eI_ok h)
noncomputable def f_X4_readNumber (s : pS) : Option (Int × pS) := bs ((sI s 401 0)) (fun v1 => (f_X4_readDigits 4 s).bind (fun q2 => (if (sI q2.2 401 0) ≠ v1 then bs (wF q2.2 405 0 (FP.i2f (Int32.ofInt q2.1))) (fun s3 => (f_X4_take 46 s3).bind (fun q4 => (if q4.1 ≠ 0 then bs ((sI q4.2 401 0)) (fun v5 => (f_X4_readDigits 3 q4.2).bind (fun q6 => ck (inR ((sI q6.2 401 0) - v5)) (bs (((sI q6.2 401 0) - v5)) (fun v8 => (if v8 ≠ 0 then (if v8 ≠ 1 then (if v8 ≠ 2 then f_X4_readNumber_89 q6.1 (UInt32.ofNat 1148846080) q6.2 else f_X4_readNumber_89 q6.1 (UInt32.ofNat 1120403456) q6.2) else f_X4_readNumber_89 q6.1 (UInt32.ofNat 1092616192) q6.2) else some (0, q6.2)))))) else some (1, q4.2)))) else some (0, q2.2))))
set_option maxRecDepth 10000 in
theorem c_X4_readNumber (xs : Nat → Int) (e : Nat) (s : pS) (q : Int × pS) (h : f_X4_readNumber s = some q) : pCall pm_tx 1001 xs pm_P (e + 1 + 1) 68 [vR (cc 4 0)] (pW s) (.inl (some (vI q.1))) (pW q.2) := by
  refine pCall_of mX4_readNumber rfl rfl (fun X hX => ?_)
  show X [some (vR (cc 4 0)), none, none, none, none, none, none] [] 0 (pW s)
  replace hX : pm_clo 1001 xs (pCall pm_tx 1001 xs pm_P (e + 1)) (e + 1) mX4_readNumber (eI q) X := hX
  unfold f_X4_readNumber at h
  refine r_aload_n hX (p2 := 1) rfl rfl rfl ⟨_, Or.inl rfl⟩ ?_
  refine r_gf hX (p2 := 4) (v := vI (sI s 401 0)) rfl rfl (hc4 0 (by decide)) rfl rfl rfl ?_
  obtain ⟨v1, hv1, h⟩ := bs_some h
  refine r_istoreE_n hX (p2 := 5) (ls2 := [some (vR (cc 4 0)), some (vI v1), none, none, none, none, none]) rfl rfl hv1 rfl rfl ?_
  refine r_aload_n hX (p2 := 6) rfl rfl rfl ⟨_, Or.inl rfl⟩ ?_
  refine r_iconst hX (p2 := 7) rfl rfl rfl ?_
  obtain ⟨q2, hq2, h⟩ := bd_some h
  refine r_callv hX (p2 := 10) (v := some (vI q2.1)) (as := [vI 4]) (r := []) (st2 := [vI q2.1]) rfl rfl rfl rfl rfl (hc4 0 (by decide)) rfl rfl (c_X4_readDigits xs e 4 s q2 hq2) ?_
  refine r_istore_n hX (p2 := 11) (ls2 := [some (vR (cc 4 0)), some (vI v1), some (vI q2.1), none, none, none, none]) rfl rfl rfl rfl ?_
  refine r_aload_n hX (p2 := 12) rfl rfl rfl ⟨_, Or.inl rfl⟩ ?_
  refine r_gf hX (p2 := 15) (v := vI (sI q2.2 401 0)) rfl rfl (hc4 0 (by decide)) rfl rfl rfl ?_
  refine r_iload_n hX (p2 := 16) rfl rfl rfl ?_
  refine r_icmp hX (p2 := 21) (p3 := 19) (P := (sI q2.2 401 0) ≠ v1) rfl (by decide) rfl rfl (fun p13 => ?_) (fun p13 => ?_)
  · have h := it_pos h p13
    refine r_aload_n hX (p2 := 22) rfl rfl rfl ⟨_, Or.inl rfl⟩ ?_
    refine r_iload_n hX (p2 := 23) rfl rfl rfl ?_
    refine r_i2f hX (p2 := 24) rfl rfl ?_
    obtain ⟨s3, hs3, h⟩ := bs_some h
    refine r_pfF hX (p2 := 27) rfl rfl (hc4 0 (by decide)) rfl rfl rfl rfl hs3 ?_
    refine r_aload_n hX (p2 := 28) rfl rfl rfl ⟨_, Or.inl rfl⟩ ?_
    refine r_bipush hX (p2 := 30) rfl rfl rfl ?_
    obtain ⟨q4, hq4, h⟩ := bd_some h
    refine r_callv hX (p2 := 33) (v := some (vI q4.1)) (as := [vI 46]) (r := []) (st2 := [vI q4.1]) rfl rfl rfl rfl rfl (hc4 0 (by decide)) rfl rfl (c_X4_take xs e 46 s3 q4 hq4) ?_
    refine r_if hX (p2 := 38) (p3 := 36) (P := q4.1 ≠ 0) rfl (by decide) rfl rfl (fun p12 => ?_) (fun p12 => ?_)
    · have h := it_pos h p12
      refine r_aload_n hX (p2 := 39) rfl rfl rfl ⟨_, Or.inl rfl⟩ ?_
      refine r_gf hX (p2 := 42) (v := vI (sI q4.2 401 0)) rfl rfl (hc4 0 (by decide)) rfl rfl rfl ?_
      obtain ⟨v5, hv5, h⟩ := bs_some h
      refine r_istoreE_n hX (p2 := 43) (ls2 := [some (vR (cc 4 0)), some (vI v1), some (vI q2.1), some (vI v5), none, none, none]) rfl rfl hv5 rfl rfl ?_
      refine r_aload_n hX (p2 := 44) rfl rfl rfl ⟨_, Or.inl rfl⟩ ?_
      refine r_iconst hX (p2 := 45) rfl rfl rfl ?_
      obtain ⟨q6, hq6, h⟩ := bd_some h
      refine r_callv hX (p2 := 48) (v := some (vI q6.1)) (as := [vI 3]) (r := []) (st2 := [vI q6.1]) rfl rfl rfl rfl rfl (hc4 0 (by decide)) rfl rfl (c_X4_readDigits xs e 3 q4.2 q6 hq6) ?_
      refine r_istore hX (p2 := 50) (ls2 := [some (vR (cc 4 0)), some (vI v1), some (vI q2.1), some (vI v5), some (vI q6.1), none, none]) rfl rfl rfl rfl ?_
      refine r_aload_n hX (p2 := 51) rfl rfl rfl ⟨_, Or.inl rfl⟩ ?_
      refine r_gf hX (p2 := 54) (v := vI (sI q6.2 401 0)) rfl rfl (hc4 0 (by decide)) rfl rfl rfl ?_
      refine r_iload_n hX (p2 := 55) rfl rfl rfl ?_
      obtain ⟨c7, h⟩ := ck_some h
      refine r_isub hX (p2 := 56) rfl rfl c7 ?_
      obtain ⟨v8, hv8, h⟩ := bs_some h
      refine r_istoreE hX (p2 := 58) (ls2 := [some (vR (cc 4 0)), some (vI v1), some (vI q2.1), some (vI v5), some (vI q6.1), some (vI v8), none]) rfl rfl hv8 rfl rfl ?_
      refine r_iload hX (p2 := 60) rfl rfl rfl ?_
      refine r_if hX (p2 := 65) (p3 := 63) (P := v8 ≠ 0) rfl (by decide) rfl rfl (fun p11 => ?_) (fun p11 => ?_)
      · have h := it_pos h p11
        refine r_iload hX (p2 := 67) rfl rfl rfl ?_
        refine r_iconst hX (p2 := 68) rfl rfl rfl ?_
        refine r_icmp hX (p2 := 76) (p3 := 71) (P := v8 ≠ 1) rfl (by decide) rfl rfl (fun p10 => ?_) (fun p10 => ?_)
        · have h := it_pos h p10
          refine r_iload hX (p2 := 78) rfl rfl rfl ?_
          refine r_iconst hX (p2 := 79) rfl rfl rfl ?_
          refine r_icmp hX (p2 := 87) (p3 := 82) (P := v8 ≠ 2) rfl (by decide) rfl rfl (fun p9 => ?_) (fun p9 => ?_)
          · have h := it_pos h p9
            refine r_ldcF hX (p2 := 89) (x := UInt32.ofNat 1148846080) rfl rfl rfl rfl ?_
            exact t_X4_readNumber_89 xs e q X hX q6.1 (UInt32.ofNat 1148846080) (some (vI v1)) (some (vI q2.1)) (some (vI v5)) (some (vI v8)) none rfl q6.2 h
          · have h := it_neg h p9
            refine r_ldcF hX (p2 := 84) (x := UInt32.ofNat 1120403456) rfl rfl rfl rfl ?_
            refine r_goto hX (p2 := 89) rfl (by decide) ?_
            exact t_X4_readNumber_89 xs e q X hX q6.1 (UInt32.ofNat 1120403456) (some (vI v1)) (some (vI q2.1)) (some (vI v5)) (some (vI v8)) none rfl q6.2 h
        · have h := it_neg h p10
          refine r_ldcF hX (p2 := 73) (x := UInt32.ofNat 1092616192) rfl rfl rfl rfl ?_
          refine r_goto hX (p2 := 89) rfl (by decide) ?_
          exact t_X4_readNumber_89 xs e q X hX q6.1 (UInt32.ofNat 1092616192) (some (vI v1)) (some (vI q2.1)) (some (vI v5)) (some (vI v8)) none rfl q6.2 h
      · have h := it_neg h p11
        refine r_iconst hX (p2 := 64) rfl rfl rfl ?_
        exact r_iretZ hX rfl rfl (Or.inl rfl) (eI_ok h)
    · have h := it_neg h p12
      refine r_iconst hX (p2 := 37) rfl rfl rfl ?_
      exact r_iretZ hX rfl rfl (Or.inr rfl) (eI_ok h)
  · have h := it_neg h p13
    refine r_iconst hX (p2 := 20) rfl rfl rfl ?_
    exact r_iretZ hX rfl rfl (Or.inl rfl) (eI_ok h)
noncomputable def f_X4_readPlain (s : pS) : Option (Int × pS) := bs (wF s 405 0 FP.fconst0) (fun s1 => (f_X4_peek s1).bind (fun q2 => (if q2.1 ≠ 97 then (f_X4_take 109 q2.2).bind (fun q3 => (if q3.1 ≠ 0 then (f_X4_peek q3.2).bind (fun q4 => (if q4.1 ≠ 97 then bs (wI q4.2 404 0 1) (fun s5 => (f_X4_takeWord 12 s5).bind (fun q6 => ck (q6.1 = 0 ∨ q6.1 = 1) (some (q6.1, q6.2)))) else bs (wI q4.2 404 0 2) (fun s8 => (f_X4_takeWord 11 s8).bind (fun q9 => ck (q9.1 = 0 ∨ q9.1 = 1) (some (q9.1, q9.2)))))) else bs (wI q3.2 404 0 0) (fun s12 => (f_X4_readNumber s12).bind (fun q13 => ck (q13.1 = 0 ∨ q13.1 = 1) (some (q13.1, q13.2)))))) else bs (wI q2.2 404 0 3) (fun s16 => (f_X4_takeWord 10 s16).bind (fun q17 => ck (q17.1 = 0 ∨ q17.1 = 1) (some (q17.1, q17.2)))))))
set_option maxRecDepth 10000 in
theorem c_X4_readPlain (xs : Nat → Int) (e : Nat) (s : pS) (q : Int × pS) (h : f_X4_readPlain s = some q) : pCall pm_tx 1001 xs pm_P (e + 5 + 1) 67 [vR (cc 4 0)] (pW s) (.inl (some (vI q.1))) (pW q.2) := by
  refine pCall_of mX4_readPlain rfl rfl (fun X hX => ?_)
  show X [some (vR (cc 4 0))] [] 0 (pW s)
  replace hX : pm_clo 1001 xs (pCall pm_tx 1001 xs pm_P (e + 5)) (e + 5) mX4_readPlain (eI q) X := hX
  unfold f_X4_readPlain at h
  refine r_aload_n hX (p2 := 1) rfl rfl rfl ⟨_, Or.inl rfl⟩ ?_
  refine r_fconst0 hX (p2 := 2) rfl rfl ?_
  obtain ⟨s1, hs1, h⟩ := bs_some h
  refine r_pfF hX (p2 := 5) rfl rfl (hc4 0 (by decide)) rfl rfl rfl rfl hs1 ?_
  refine r_aload_n hX (p2 := 6) rfl rfl rfl ⟨_, Or.inl rfl⟩ ?_
  obtain ⟨q2, hq2, h⟩ := bd_some h
  refine r_callv hX (p2 := 9) (v := some (vI q2.1)) (as := []) (r := []) (st2 := [vI q2.1]) rfl rfl rfl rfl rfl (hc4 0 (by decide)) rfl rfl (c_X4_peek xs (e + 4) s1 q2 hq2) ?_
  refine r_bipush hX (p2 := 11) rfl rfl rfl ?_
  refine r_icmp hX (p2 := 26) (p3 := 14) (P := q2.1 ≠ 97) rfl (by decide) rfl rfl (fun p19 => ?_) (fun p19 => ?_)
  · have h := it_pos h p19
    refine r_aload_n hX (p2 := 27) rfl rfl rfl ⟨_, Or.inl rfl⟩ ?_
    refine r_bipush hX (p2 := 29) rfl rfl rfl ?_
    obtain ⟨q3, hq3, h⟩ := bd_some h
    refine r_callv hX (p2 := 32) (v := some (vI q3.1)) (as := [vI 109]) (r := []) (st2 := [vI q3.1]) rfl rfl rfl rfl rfl (hc4 0 (by decide)) rfl rfl (c_X4_take xs (e + 4) 109 q2.2 q3 hq3) ?_
    refine r_if hX (p2 := 45) (p3 := 35) (P := q3.1 ≠ 0) rfl (by decide) rfl rfl (fun p15 => ?_) (fun p15 => ?_)
    · have h := it_pos h p15
      refine r_aload_n hX (p2 := 46) rfl rfl rfl ⟨_, Or.inl rfl⟩ ?_
      obtain ⟨q4, hq4, h⟩ := bd_some h
      refine r_callv hX (p2 := 49) (v := some (vI q4.1)) (as := []) (r := []) (st2 := [vI q4.1]) rfl rfl rfl rfl rfl (hc4 0 (by decide)) rfl rfl (c_X4_peek xs (e + 4) q3.2 q4 hq4) ?_
      refine r_bipush hX (p2 := 51) rfl rfl rfl ?_
      refine r_icmp hX (p2 := 66) (p3 := 54) (P := q4.1 ≠ 97) rfl (by decide) rfl rfl (fun p11 => ?_) (fun p11 => ?_)
      · have h := it_pos h p11
        refine r_aload_n hX (p2 := 67) rfl rfl rfl ⟨_, Or.inl rfl⟩ ?_
        refine r_iconst hX (p2 := 68) rfl rfl rfl ?_
        obtain ⟨s5, hs5, h⟩ := bs_some h
        refine r_pfI hX (p2 := 71) rfl rfl (hc4 0 (by decide)) rfl rfl rfl rfl rfl rfl hs5 ?_
        refine r_aload_n hX (p2 := 72) rfl rfl rfl ⟨_, Or.inl rfl⟩ ?_
        refine r_ldcS hX (p2 := 74) rfl rfl ?_
        obtain ⟨q6, hq6, h⟩ := bd_some h
        refine r_callv hX (p2 := 77) (v := some (vI q6.1)) (as := [vX (3 + 12)]) (r := []) (st2 := [vI q6.1]) rfl rfl rfl rfl rfl (hc4 0 (by decide)) rfl rfl (c_X4_takeWord xs e 12 (by decide) s5 q6 hq6) ?_
        obtain ⟨c7, h⟩ := ck_some h
        exact r_iretZ hX rfl rfl c7 (eI_ok h)
      · have h := it_neg h p11
        refine r_aload_n hX (p2 := 55) rfl rfl rfl ⟨_, Or.inl rfl⟩ ?_
        refine r_iconst hX (p2 := 56) rfl rfl rfl ?_
        obtain ⟨s8, hs8, h⟩ := bs_some h
        refine r_pfI hX (p2 := 59) rfl rfl (hc4 0 (by decide)) rfl rfl rfl rfl rfl rfl hs8 ?_
        refine r_aload_n hX (p2 := 60) rfl rfl rfl ⟨_, Or.inl rfl⟩ ?_
        refine r_ldcS hX (p2 := 62) rfl rfl ?_
        obtain ⟨q9, hq9, h⟩ := bd_some h
        refine r_callv hX (p2 := 65) (v := some (vI q9.1)) (as := [vX (3 + 11)]) (r := []) (st2 := [vI q9.1]) rfl rfl rfl rfl rfl (hc4 0 (by decide)) rfl rfl (c_X4_takeWord xs e 11 (by decide) s8 q9 hq9) ?_
        obtain ⟨c10, h⟩ := ck_some h
        exact r_iretZ hX rfl rfl c10 (eI_ok h)
    · have h := it_neg h p15
      refine r_aload_n hX (p2 := 36) rfl rfl rfl ⟨_, Or.inl rfl⟩ ?_
      refine r_iconst hX (p2 := 37) rfl rfl rfl ?_
      obtain ⟨s12, hs12, h⟩ := bs_some h
      refine r_pfI hX (p2 := 40) rfl rfl (hc4 0 (by decide)) rfl rfl rfl rfl rfl rfl hs12 ?_
      refine r_aload_n hX (p2 := 41) rfl rfl rfl ⟨_, Or.inl rfl⟩ ?_
      obtain ⟨q13, hq13, h⟩ := bd_some h
      refine r_callv hX (p2 := 44) (v := some (vI q13.1)) (as := []) (r := []) (st2 := [vI q13.1]) rfl rfl rfl rfl rfl (hc4 0 (by decide)) rfl rfl (c_X4_readNumber xs (e + 3) s12 q13 hq13) ?_
      obtain ⟨c14, h⟩ := ck_some h
      exact r_iretZ hX rfl rfl c14 (eI_ok h)
  · have h := it_neg h p19
    refine r_aload_n hX (p2 := 15) rfl rfl rfl ⟨_, Or.inl rfl⟩ ?_
    refine r_iconst hX (p2 := 16) rfl rfl rfl ?_
    obtain ⟨s16, hs16, h⟩ := bs_some h
    refine r_pfI hX (p2 := 19) rfl rfl (hc4 0 (by decide)) rfl rfl rfl rfl rfl rfl hs16 ?_
    refine r_aload_n hX (p2 := 20) rfl rfl rfl ⟨_, Or.inl rfl⟩ ?_
    refine r_ldcS hX (p2 := 22) rfl rfl ?_
    obtain ⟨q17, hq17, h⟩ := bd_some h
    refine r_callv hX (p2 := 25) (v := some (vI q17.1)) (as := [vX (3 + 10)]) (r := []) (st2 := [vI q17.1]) rfl rfl rfl rfl rfl (hc4 0 (by decide)) rfl rfl (c_X4_takeWord xs e 10 (by decide) s16 q17 hq17) ?_
    obtain ⟨c18, h⟩ := ck_some h
    exact r_iretZ hX rfl rfl c18 (eI_ok h)
noncomputable def f_X4_readShareSign_16 (s : pS) : Option (Int × pS) := some (1, s)
set_option maxRecDepth 10000 in
theorem t_X4_readShareSign_16 (xs : Nat → Int) (e : Nat) (q : Int × pS) (X : List (Option pV) → List pV → Nat → pH → Prop) (hX : pm_clo 1001 xs (pCall pm_tx 1001 xs pm_P (e + 5)) (e + 5) mX4_readShareSign (eI q) X) : ∀  (d0 : Option pV) (s : pS), f_X4_readShareSign_16 s = some q → X [d0] [] 16 (pW s) := by
  intro d0 s h
  unfold f_X4_readShareSign_16 at h
  refine r_iconst hX (p2 := 17) rfl rfl rfl ?_
  exact r_iretZ hX rfl rfl (Or.inr rfl) (eI_ok h)
noncomputable def f_X4_readShareSign (s : pS) : Option (Int × pS) := (if (sI s 404 0) ≠ 0 then f_X4_readShareSign_16 s else (f_X4_peek s).bind (fun q1 => (if q1.1 = 102 then bs (wI q1.2 404 0 4) (fun s2 => (f_X4_takeWord 9 s2).bind (fun q3 => ck (q3.1 = 0 ∨ q3.1 = 1) (some (q3.1, q3.2)))) else f_X4_readShareSign_16 q1.2)))
set_option maxRecDepth 10000 in
theorem c_X4_readShareSign (xs : Nat → Int) (e : Nat) (s : pS) (q : Int × pS) (h : f_X4_readShareSign s = some q) : pCall pm_tx 1001 xs pm_P (e + 5 + 1) 66 [vR (cc 4 0)] (pW s) (.inl (some (vI q.1))) (pW q.2) := by
  refine pCall_of mX4_readShareSign rfl rfl (fun X hX => ?_)
  show X [some (vR (cc 4 0))] [] 0 (pW s)
  replace hX : pm_clo 1001 xs (pCall pm_tx 1001 xs pm_P (e + 5)) (e + 5) mX4_readShareSign (eI q) X := hX
  unfold f_X4_readShareSign at h
  refine r_aload_n hX (p2 := 1) rfl rfl rfl ⟨_, Or.inl rfl⟩ ?_
  refine r_gf hX (p2 := 4) (v := vI (sI s 404 0)) rfl rfl (hc4 0 (by decide)) rfl rfl rfl ?_
  refine r_if hX (p2 := 16) (p3 := 7) (P := (sI s 404 0) ≠ 0) rfl (by decide) rfl rfl (fun p6 => ?_) (fun p6 => ?_)
  · have h := it_pos h p6
    exact t_X4_readShareSign_16 xs e q X hX (some (vR (cc 4 0))) s h
  · have h := it_neg h p6
    refine r_aload_n hX (p2 := 8) rfl rfl rfl ⟨_, Or.inl rfl⟩ ?_
    obtain ⟨q1, hq1, h⟩ := bd_some h
    refine r_callv hX (p2 := 11) (v := some (vI q1.1)) (as := []) (r := []) (st2 := [vI q1.1]) rfl rfl rfl rfl rfl (hc4 0 (by decide)) rfl rfl (c_X4_peek xs (e + 4) s q1 hq1) ?_
    refine r_bipush hX (p2 := 13) rfl rfl rfl ?_
    refine r_icmp hX (p2 := 18) (p3 := 16) (P := q1.1 = 102) rfl (by decide) rfl rfl (fun p5 => ?_) (fun p5 => ?_)
    · have h := it_pos h p5
      refine r_aload_n hX (p2 := 19) rfl rfl rfl ⟨_, Or.inl rfl⟩ ?_
      refine r_iconst hX (p2 := 20) rfl rfl rfl ?_
      obtain ⟨s2, hs2, h⟩ := bs_some h
      refine r_pfI hX (p2 := 23) rfl rfl (hc4 0 (by decide)) rfl rfl rfl rfl rfl rfl hs2 ?_
      refine r_aload_n hX (p2 := 24) rfl rfl rfl ⟨_, Or.inl rfl⟩ ?_
      refine r_ldcS hX (p2 := 26) rfl rfl ?_
      obtain ⟨q3, hq3, h⟩ := bd_some h
      refine r_callv hX (p2 := 29) (v := some (vI q3.1)) (as := [vX (3 + 9)]) (r := []) (st2 := [vI q3.1]) rfl rfl rfl rfl rfl (hc4 0 (by decide)) rfl rfl (c_X4_takeWord xs e 9 (by decide) s2 q3 hq3) ?_
      obtain ⟨c4, h⟩ := ck_some h
      exact r_iretZ hX rfl rfl c4 (eI_ok h)
    · have h := it_neg h p5
      exact t_X4_readShareSign_16 xs e q X hX (some (vR (cc 4 0))) q1.2 h
noncomputable def f_X3_add_60 (i0 : Nat) (s : pS) : Option (pS) := some s
set_option maxRecDepth 10000 in
theorem t_X3_add_60 (xs : Nat → Int) (e : Nat) (i0 : Nat) (hi0 : i0 < 3) (q : pS) (X : List (Option pV) → List pV → Nat → pH → Prop) (hX : pm_clo 1001 xs (pCall pm_tx 1001 xs pm_P e) e mX3_add (eU q) X) : ∀  (d0 : Option pV) (d1 : Option pV) (d2 : Option pV) (d3 : Option pV) (d4 : Option pV) (s : pS), f_X3_add_60 i0 s = some q → X [d0, d1, d2, d3, d4] [] 60 (pW s) := by
  intro d0 d1 d2 d3 d4 s h
  unfold f_X3_add_60 at h
  exact r_return hX rfl rfl (eU_ok h)
noncomputable def f_X3_add (i0 : Nat) (a1 : Int) (a2 : UInt32) (a3 : Int) (a4 : UInt32) (s : pS) : Option (pS) := (if 12 ≤ (sI s 304 i0) then f_X3_add_60 i0 s else ck (0 ≤ (sI s 304 i0) ∧ (sI s 304 i0) < 12) (bs (wA s 300 i0 (pm_up (sA s 300 i0) (sI s 304 i0).toNat a1)) (fun s2 => ck (0 ≤ (sI s2 304 i0) ∧ (sI s2 304 i0) < 12) (bs (wB s2 301 i0 (pm_up (sB s2 301 i0) (sI s2 304 i0).toNat a2)) (fun s4 => ck (0 ≤ (sI s4 304 i0) ∧ (sI s4 304 i0) < 12) (bs (wA s4 302 i0 (pm_up (sA s4 302 i0) (sI s4 304 i0).toNat a3)) (fun s6 => ck (0 ≤ (sI s6 304 i0) ∧ (sI s6 304 i0) < 12) (bs (wB s6 303 i0 (pm_up (sB s6 303 i0) (sI s6 304 i0).toNat a4)) (fun s8 => ck (inR ((sI s8 304 i0) + 1)) (bs (wI s8 304 i0 ((sI s8 304 i0) + 1)) (fun s10 => f_X3_add_60 i0 s10)))))))))))
set_option maxRecDepth 10000 in
theorem c_X3_add (xs : Nat → Int) (e : Nat) (i0 : Nat) (a1 : Int) (a2 : UInt32) (a3 : Int) (a4 : UInt32) (hi0 : i0 < 3) (s : pS) (q : pS) (h : f_X3_add i0 a1 a2 a3 a4 s = some q) : pCall pm_tx 1001 xs pm_P (e + 1) 54 [vR (cc 3 i0), vI a1, vF a2, vI a3, vF a4] (pW s) (.inl none) (pW q) := by
  refine pCall_of mX3_add rfl rfl (fun X hX => ?_)
  show X [some (vR (cc 3 i0)), some (vI a1), some (vF a2), some (vI a3), some (vF a4)] [] 0 (pW s)
  replace hX : pm_clo 1001 xs (pCall pm_tx 1001 xs pm_P e) e mX3_add (eU q) X := hX
  unfold f_X3_add at h
  refine r_aload_n hX (p2 := 1) rfl rfl rfl ⟨_, Or.inl rfl⟩ ?_
  refine r_gf hX (p2 := 4) (v := vI (sI s 304 i0)) rfl rfl (hc3 i0 hi0) rfl rfl rfl ?_
  refine r_bipush hX (p2 := 6) rfl rfl rfl ?_
  refine r_icmp hX (p2 := 60) (p3 := 9) (P := 12 ≤ (sI s 304 i0)) rfl (by decide) rfl rfl (fun p11 => ?_) (fun p11 => ?_)
  · have h := it_pos h p11
    exact t_X3_add_60 xs e i0 hi0 q X hX (some (vR (cc 3 i0))) (some (vI a1)) (some (vF a2)) (some (vI a3)) (some (vF a4)) s h
  · have h := it_neg h p11
    refine r_aload_n hX (p2 := 10) rfl rfl rfl ⟨_, Or.inl rfl⟩ ?_
    refine r_gf hX (p2 := 13) (v := vR (ca 300 i0)) rfl rfl (hc3 i0 hi0) rfl rfl rfl ?_
    refine r_aload_n hX (p2 := 14) rfl rfl rfl ⟨_, Or.inl rfl⟩ ?_
    refine r_gf hX (p2 := 17) (v := vI (sI s 304 i0)) rfl rfl (hc3 i0 hi0) rfl rfl rfl ?_
    refine r_iload_n hX (p2 := 18) rfl rfl rfl ?_
    obtain ⟨c1, h⟩ := ck_some h
    obtain ⟨s2, hs2, h⟩ := bs_some h
    refine r_iastore hX (p2 := 19) (j := (sI s 304 i0).toNat) rfl rfl (ha300 i0 hi0) rfl rfl c1 rfl hs2 ?_
    refine r_aload_n hX (p2 := 20) rfl rfl rfl ⟨_, Or.inl rfl⟩ ?_
    refine r_gf hX (p2 := 23) (v := vR (ca 301 i0)) rfl rfl (hc3 i0 hi0) rfl rfl rfl ?_
    refine r_aload_n hX (p2 := 24) rfl rfl rfl ⟨_, Or.inl rfl⟩ ?_
    refine r_gf hX (p2 := 27) (v := vI (sI s2 304 i0)) rfl rfl (hc3 i0 hi0) rfl rfl rfl ?_
    refine r_fload_n hX (p2 := 28) rfl rfl rfl ?_
    obtain ⟨c3, h⟩ := ck_some h
    obtain ⟨s4, hs4, h⟩ := bs_some h
    refine r_fastore hX (p2 := 29) (j := (sI s2 304 i0).toNat) rfl rfl (ha301 i0 hi0) rfl rfl c3 rfl hs4 ?_
    refine r_aload_n hX (p2 := 30) rfl rfl rfl ⟨_, Or.inl rfl⟩ ?_
    refine r_gf hX (p2 := 33) (v := vR (ca 302 i0)) rfl rfl (hc3 i0 hi0) rfl rfl rfl ?_
    refine r_aload_n hX (p2 := 34) rfl rfl rfl ⟨_, Or.inl rfl⟩ ?_
    refine r_gf hX (p2 := 37) (v := vI (sI s4 304 i0)) rfl rfl (hc3 i0 hi0) rfl rfl rfl ?_
    refine r_iload_n hX (p2 := 38) rfl rfl rfl ?_
    obtain ⟨c5, h⟩ := ck_some h
    obtain ⟨s6, hs6, h⟩ := bs_some h
    refine r_iastore hX (p2 := 39) (j := (sI s4 304 i0).toNat) rfl rfl (ha302 i0 hi0) rfl rfl c5 rfl hs6 ?_
    refine r_aload_n hX (p2 := 40) rfl rfl rfl ⟨_, Or.inl rfl⟩ ?_
    refine r_gf hX (p2 := 43) (v := vR (ca 303 i0)) rfl rfl (hc3 i0 hi0) rfl rfl rfl ?_
    refine r_aload_n hX (p2 := 44) rfl rfl rfl ⟨_, Or.inl rfl⟩ ?_
    refine r_gf hX (p2 := 47) (v := vI (sI s6 304 i0)) rfl rfl (hc3 i0 hi0) rfl rfl rfl ?_
    refine r_fload hX (p2 := 49) rfl rfl rfl ?_
    obtain ⟨c7, h⟩ := ck_some h
    obtain ⟨s8, hs8, h⟩ := bs_some h
    refine r_fastore hX (p2 := 50) (j := (sI s6 304 i0).toNat) rfl rfl (ha303 i0 hi0) rfl rfl c7 rfl hs8 ?_
    refine r_aload_n hX (p2 := 51) rfl rfl rfl ⟨_, Or.inl rfl⟩ ?_
    refine r_dup hX (p2 := 52) rfl rfl rfl ?_
    refine r_gf hX (p2 := 55) (v := vI (sI s8 304 i0)) rfl rfl (hc3 i0 hi0) rfl rfl rfl ?_
    refine r_iconst hX (p2 := 56) rfl rfl rfl ?_
    obtain ⟨c9, h⟩ := ck_some h
    refine r_iadd hX (p2 := 57) rfl rfl c9 ?_
    obtain ⟨s10, hs10, h⟩ := bs_some h
    refine r_pfI hX (p2 := 60) rfl rfl (hc3 i0 hi0) rfl rfl rfl rfl rfl rfl hs10 ?_
    exact t_X3_add_60 xs e i0 hi0 q X hX (some (vR (cc 3 i0))) (some (vI a1)) (some (vF a2)) (some (vI a3)) (some (vF a4)) s10 h
noncomputable def f_X4_readMinmax_16 (s : pS) : Option (Int × pS) := some (0, s)
set_option maxRecDepth 10000 in
theorem t_X4_readMinmax_16 (xs : Nat → Int) (e : Nat) (q : Int × pS) (X : List (Option pV) → List pV → Nat → pH → Prop) (hX : pm_clo 1001 xs (pCall pm_tx 1001 xs pm_P (e + 6)) (e + 6) mX4_readMinmax (eI q) X) : ∀  (d0 : Option pV) (d1 : Option pV) (d2 : Option pV) (s : pS), f_X4_readMinmax_16 s = some q → X [d0, d1, d2] [] 16 (pW s) := by
  intro d0 d1 d2 s h
  unfold f_X4_readMinmax_16 at h
  refine r_iconst hX (p2 := 17) rfl rfl rfl ?_
  exact r_iretZ hX rfl rfl (Or.inl rfl) (eI_ok h)
noncomputable def f_X4_readMinmax_60 (s : pS) : Option (Int × pS) := some (0, s)
set_option maxRecDepth 10000 in
theorem t_X4_readMinmax_60 (xs : Nat → Int) (e : Nat) (q : Int × pS) (X : List (Option pV) → List pV → Nat → pH → Prop) (hX : pm_clo 1001 xs (pCall pm_tx 1001 xs pm_P (e + 6)) (e + 6) mX4_readMinmax (eI q) X) : ∀  (d0 : Option pV) (d1 : Option pV) (d2 : Option pV) (s : pS), f_X4_readMinmax_60 s = some q → X [d0, d1, d2] [] 60 (pW s) := by
  intro d0 d1 d2 s h
  unfold f_X4_readMinmax_60 at h
  refine r_iconst hX (p2 := 61) rfl rfl rfl ?_
  exact r_iretZ hX rfl rfl (Or.inl rfl) (eI_ok h)
noncomputable def f_X4_readMinmax (s : pS) : Option (Int × pS) := (f_X4_takeWord 8 s).bind (fun q1 => (if q1.1 = 0 then f_X4_readMinmax_16 q1.2 else (f_X4_readPlain q1.2).bind (fun q2 => (if q2.1 ≠ 0 then bs ((sI q2.2 404 0)) (fun v3 => bs ((sF q2.2 405 0)) (fun v4 => (f_X4_take 44 q2.2).bind (fun q5 => (if q5.1 = 0 then f_X4_readMinmax_60 q5.2 else (f_X4_readPlain q5.2).bind (fun q6 => (if q6.1 = 0 then f_X4_readMinmax_60 q6.2 else (f_X4_readShareSign q6.2).bind (fun q7 => (if q7.1 = 0 then f_X4_readMinmax_60 q7.2 else (f_X4_take 41 q7.2).bind (fun q8 => (if q8.1 ≠ 0 then (f_X3_add 2 v3 v4 (sI q8.2 404 0) (sF q8.2 405 0) q8.2).bind (fun q9 => some (1, q9)) else f_X4_readMinmax_60 q8.2)))))))))) else f_X4_readMinmax_16 q2.2))))
set_option maxRecDepth 10000 in
theorem c_X4_readMinmax (xs : Nat → Int) (e : Nat) (s : pS) (q : Int × pS) (h : f_X4_readMinmax s = some q) : pCall pm_tx 1001 xs pm_P (e + 6 + 1) 65 [vR (cc 4 0)] (pW s) (.inl (some (vI q.1))) (pW q.2) := by
  refine pCall_of mX4_readMinmax rfl rfl (fun X hX => ?_)
  show X [some (vR (cc 4 0)), none, none] [] 0 (pW s)
  replace hX : pm_clo 1001 xs (pCall pm_tx 1001 xs pm_P (e + 6)) (e + 6) mX4_readMinmax (eI q) X := hX
  unfold f_X4_readMinmax at h
  refine r_aload_n hX (p2 := 1) rfl rfl rfl ⟨_, Or.inl rfl⟩ ?_
  refine r_ldcS hX (p2 := 3) rfl rfl ?_
  obtain ⟨q1, hq1, h⟩ := bd_some h
  refine r_callv hX (p2 := 6) (v := some (vI q1.1)) (as := [vX (3 + 8)]) (r := []) (st2 := [vI q1.1]) rfl rfl rfl rfl rfl (hc4 0 (by decide)) rfl rfl (c_X4_takeWord xs (e + 1) 8 (by decide) s q1 hq1) ?_
  refine r_if hX (p2 := 16) (p3 := 9) (P := q1.1 = 0) rfl (by decide) rfl rfl (fun p15 => ?_) (fun p15 => ?_)
  · have h := it_pos h p15
    exact t_X4_readMinmax_16 xs e q X hX (some (vR (cc 4 0))) none none q1.2 h
  · have h := it_neg h p15
    refine r_aload_n hX (p2 := 10) rfl rfl rfl ⟨_, Or.inl rfl⟩ ?_
    obtain ⟨q2, hq2, h⟩ := bd_some h
    refine r_callv hX (p2 := 13) (v := some (vI q2.1)) (as := []) (r := []) (st2 := [vI q2.1]) rfl rfl rfl rfl rfl (hc4 0 (by decide)) rfl rfl (c_X4_readPlain xs e q1.2 q2 hq2) ?_
    refine r_if hX (p2 := 18) (p3 := 16) (P := q2.1 ≠ 0) rfl (by decide) rfl rfl (fun p14 => ?_) (fun p14 => ?_)
    · have h := it_pos h p14
      refine r_aload_n hX (p2 := 19) rfl rfl rfl ⟨_, Or.inl rfl⟩ ?_
      refine r_gf hX (p2 := 22) (v := vI (sI q2.2 404 0)) rfl rfl (hc4 0 (by decide)) rfl rfl rfl ?_
      obtain ⟨v3, hv3, h⟩ := bs_some h
      refine r_istoreE_n hX (p2 := 23) (ls2 := [some (vR (cc 4 0)), some (vI v3), none]) rfl rfl hv3 rfl rfl ?_
      refine r_aload_n hX (p2 := 24) rfl rfl rfl ⟨_, Or.inl rfl⟩ ?_
      refine r_gf hX (p2 := 27) (v := vF (sF q2.2 405 0)) rfl rfl (hc4 0 (by decide)) rfl rfl rfl ?_
      obtain ⟨v4, hv4, h⟩ := bs_some h
      refine r_fstoreE_n hX (p2 := 28) (ls2 := [some (vR (cc 4 0)), some (vI v3), some (vF v4)]) rfl rfl hv4 rfl rfl ?_
      refine r_aload_n hX (p2 := 29) rfl rfl rfl ⟨_, Or.inl rfl⟩ ?_
      refine r_bipush hX (p2 := 31) rfl rfl rfl ?_
      obtain ⟨q5, hq5, h⟩ := bd_some h
      refine r_callv hX (p2 := 34) (v := some (vI q5.1)) (as := [vI 44]) (r := []) (st2 := [vI q5.1]) rfl rfl rfl rfl rfl (hc4 0 (by decide)) rfl rfl (c_X4_take xs (e + 5) 44 q2.2 q5 hq5) ?_
      refine r_if hX (p2 := 60) (p3 := 37) (P := q5.1 = 0) rfl (by decide) rfl rfl (fun p13 => ?_) (fun p13 => ?_)
      · have h := it_pos h p13
        exact t_X4_readMinmax_60 xs e q X hX (some (vR (cc 4 0))) (some (vI v3)) (some (vF v4)) q5.2 h
      · have h := it_neg h p13
        refine r_aload_n hX (p2 := 38) rfl rfl rfl ⟨_, Or.inl rfl⟩ ?_
        obtain ⟨q6, hq6, h⟩ := bd_some h
        refine r_callv hX (p2 := 41) (v := some (vI q6.1)) (as := []) (r := []) (st2 := [vI q6.1]) rfl rfl rfl rfl rfl (hc4 0 (by decide)) rfl rfl (c_X4_readPlain xs e q5.2 q6 hq6) ?_
        refine r_if hX (p2 := 60) (p3 := 44) (P := q6.1 = 0) rfl (by decide) rfl rfl (fun p12 => ?_) (fun p12 => ?_)
        · have h := it_pos h p12
          exact t_X4_readMinmax_60 xs e q X hX (some (vR (cc 4 0))) (some (vI v3)) (some (vF v4)) q6.2 h
        · have h := it_neg h p12
          refine r_aload_n hX (p2 := 45) rfl rfl rfl ⟨_, Or.inl rfl⟩ ?_
          obtain ⟨q7, hq7, h⟩ := bd_some h
          refine r_callv hX (p2 := 48) (v := some (vI q7.1)) (as := []) (r := []) (st2 := [vI q7.1]) rfl rfl rfl rfl rfl (hc4 0 (by decide)) rfl rfl (c_X4_readShareSign xs e q6.2 q7 hq7) ?_
          refine r_if hX (p2 := 60) (p3 := 51) (P := q7.1 = 0) rfl (by decide) rfl rfl (fun p11 => ?_) (fun p11 => ?_)
          · have h := it_pos h p11
            exact t_X4_readMinmax_60 xs e q X hX (some (vR (cc 4 0))) (some (vI v3)) (some (vF v4)) q7.2 h
          · have h := it_neg h p11
            refine r_aload_n hX (p2 := 52) rfl rfl rfl ⟨_, Or.inl rfl⟩ ?_
            refine r_bipush hX (p2 := 54) rfl rfl rfl ?_
            obtain ⟨q8, hq8, h⟩ := bd_some h
            refine r_callv hX (p2 := 57) (v := some (vI q8.1)) (as := [vI 41]) (r := []) (st2 := [vI q8.1]) rfl rfl rfl rfl rfl (hc4 0 (by decide)) rfl rfl (c_X4_take xs (e + 5) 41 q7.2 q8 hq8) ?_
            refine r_if hX (p2 := 62) (p3 := 60) (P := q8.1 ≠ 0) rfl (by decide) rfl rfl (fun p10 => ?_) (fun p10 => ?_)
            · have h := it_pos h p10
              refine r_aload_n hX (p2 := 63) rfl rfl rfl ⟨_, Or.inl rfl⟩ ?_
              refine r_gf hX (p2 := 66) (v := vR (cc 3 2)) rfl rfl (hc4 0 (by decide)) rfl rfl rfl ?_
              refine r_iload_n hX (p2 := 67) rfl rfl rfl ?_
              refine r_fload_n hX (p2 := 68) rfl rfl rfl ?_
              refine r_aload_n hX (p2 := 69) rfl rfl rfl ⟨_, Or.inl rfl⟩ ?_
              refine r_gf hX (p2 := 72) (v := vI (sI q8.2 404 0)) rfl rfl (hc4 0 (by decide)) rfl rfl rfl ?_
              refine r_aload_n hX (p2 := 73) rfl rfl rfl ⟨_, Or.inl rfl⟩ ?_
              refine r_gf hX (p2 := 76) (v := vF (sF q8.2 405 0)) rfl rfl (hc4 0 (by decide)) rfl rfl rfl ?_
              obtain ⟨q9, hq9, h⟩ := bd_some h
              refine r_callv hX (p2 := 79) (v := none) (as := [vI v3, vF v4, vI (sI q8.2 404 0), vF (sF q8.2 405 0)]) (r := []) (st2 := []) rfl rfl rfl rfl rfl (hc3 2 (by decide)) rfl rfl (c_X3_add xs (e + 5) 2 v3 v4 (sI q8.2 404 0) (sF q8.2 405 0) (by decide) q8.2 q9 hq9) ?_
              refine r_iconst hX (p2 := 80) rfl rfl rfl ?_
              exact r_iretZ hX rfl rfl (Or.inr rfl) (eI_ok h)
            · have h := it_neg h p10
              exact t_X4_readMinmax_60 xs e q X hX (some (vR (cc 4 0))) (some (vI v3)) (some (vF v4)) q8.2 h
    · have h := it_neg h p14
      exact t_X4_readMinmax_16 xs e q X hX (some (vR (cc 4 0))) none none q2.2 h
noncomputable def f_X4_readFit_25 (s : pS) : Option (Int × pS) := some (0, s)
set_option maxRecDepth 10000 in
theorem t_X4_readFit_25 (xs : Nat → Int) (e : Nat) (q : Int × pS) (X : List (Option pV) → List pV → Nat → pH → Prop) (hX : pm_clo 1001 xs (pCall pm_tx 1001 xs pm_P (e + 5)) (e + 5) mX4_readFit (eI q) X) : ∀  (d0 : Option pV) (s : pS), f_X4_readFit_25 s = some q → X [d0] [] 25 (pW s) := by
  intro d0 s h
  unfold f_X4_readFit_25 at h
  refine r_iconst hX (p2 := 26) rfl rfl rfl ?_
  exact r_iretZ hX rfl rfl (Or.inl rfl) (eI_ok h)
noncomputable def f_X4_readFit (s : pS) : Option (Int × pS) := (f_X4_takeWord 7 s).bind (fun q1 => (if q1.1 = 0 then f_X4_readFit_25 q1.2 else (f_X4_readNumber q1.2).bind (fun q2 => (if q2.1 = 0 then f_X4_readFit_25 q2.2 else (f_X4_take 41 q2.2).bind (fun q3 => (if q3.1 ≠ 0 then (f_X3_add 2 3 FP.fconst0 5 (sF q3.2 405 0) q3.2).bind (fun q4 => some (1, q4)) else f_X4_readFit_25 q3.2))))))
set_option maxRecDepth 10000 in
theorem c_X4_readFit (xs : Nat → Int) (e : Nat) (s : pS) (q : Int × pS) (h : f_X4_readFit s = some q) : pCall pm_tx 1001 xs pm_P (e + 5 + 1) 64 [vR (cc 4 0)] (pW s) (.inl (some (vI q.1))) (pW q.2) := by
  refine pCall_of mX4_readFit rfl rfl (fun X hX => ?_)
  show X [some (vR (cc 4 0))] [] 0 (pW s)
  replace hX : pm_clo 1001 xs (pCall pm_tx 1001 xs pm_P (e + 5)) (e + 5) mX4_readFit (eI q) X := hX
  unfold f_X4_readFit at h
  refine r_aload_n hX (p2 := 1) rfl rfl rfl ⟨_, Or.inl rfl⟩ ?_
  refine r_ldcS hX (p2 := 3) rfl rfl ?_
  obtain ⟨q1, hq1, h⟩ := bd_some h
  refine r_callv hX (p2 := 6) (v := some (vI q1.1)) (as := [vX (3 + 7)]) (r := []) (st2 := [vI q1.1]) rfl rfl rfl rfl rfl (hc4 0 (by decide)) rfl rfl (c_X4_takeWord xs e 7 (by decide) s q1 hq1) ?_
  refine r_if hX (p2 := 25) (p3 := 9) (P := q1.1 = 0) rfl (by decide) rfl rfl (fun p7 => ?_) (fun p7 => ?_)
  · have h := it_pos h p7
    exact t_X4_readFit_25 xs e q X hX (some (vR (cc 4 0))) q1.2 h
  · have h := it_neg h p7
    refine r_aload_n hX (p2 := 10) rfl rfl rfl ⟨_, Or.inl rfl⟩ ?_
    obtain ⟨q2, hq2, h⟩ := bd_some h
    refine r_callv hX (p2 := 13) (v := some (vI q2.1)) (as := []) (r := []) (st2 := [vI q2.1]) rfl rfl rfl rfl rfl (hc4 0 (by decide)) rfl rfl (c_X4_readNumber xs (e + 3) q1.2 q2 hq2) ?_
    refine r_if hX (p2 := 25) (p3 := 16) (P := q2.1 = 0) rfl (by decide) rfl rfl (fun p6 => ?_) (fun p6 => ?_)
    · have h := it_pos h p6
      exact t_X4_readFit_25 xs e q X hX (some (vR (cc 4 0))) q2.2 h
    · have h := it_neg h p6
      refine r_aload_n hX (p2 := 17) rfl rfl rfl ⟨_, Or.inl rfl⟩ ?_
      refine r_bipush hX (p2 := 19) rfl rfl rfl ?_
      obtain ⟨q3, hq3, h⟩ := bd_some h
      refine r_callv hX (p2 := 22) (v := some (vI q3.1)) (as := [vI 41]) (r := []) (st2 := [vI q3.1]) rfl rfl rfl rfl rfl (hc4 0 (by decide)) rfl rfl (c_X4_take xs (e + 4) 41 q2.2 q3 hq3) ?_
      refine r_if hX (p2 := 27) (p3 := 25) (P := q3.1 ≠ 0) rfl (by decide) rfl rfl (fun p5 => ?_) (fun p5 => ?_)
      · have h := it_pos h p5
        refine r_aload_n hX (p2 := 28) rfl rfl rfl ⟨_, Or.inl rfl⟩ ?_
        refine r_gf hX (p2 := 31) (v := vR (cc 3 2)) rfl rfl (hc4 0 (by decide)) rfl rfl rfl ?_
        refine r_iconst hX (p2 := 32) rfl rfl rfl ?_
        refine r_fconst0 hX (p2 := 33) rfl rfl ?_
        refine r_iconst hX (p2 := 34) rfl rfl rfl ?_
        refine r_aload_n hX (p2 := 35) rfl rfl rfl ⟨_, Or.inl rfl⟩ ?_
        refine r_gf hX (p2 := 38) (v := vF (sF q3.2 405 0)) rfl rfl (hc4 0 (by decide)) rfl rfl rfl ?_
        obtain ⟨q4, hq4, h⟩ := bd_some h
        refine r_callv hX (p2 := 41) (v := none) (as := [vI 3, vF FP.fconst0, vI 5, vF (sF q3.2 405 0)]) (r := []) (st2 := []) rfl rfl rfl rfl rfl (hc3 2 (by decide)) rfl rfl (c_X3_add xs (e + 4) 2 3 FP.fconst0 5 (sF q3.2 405 0) (by decide) q3.2 q4 hq4) ?_
        refine r_iconst hX (p2 := 42) rfl rfl rfl ?_
        exact r_iretZ hX rfl rfl (Or.inr rfl) (eI_ok h)
      · have h := it_neg h p5
        exact t_X4_readFit_25 xs e q X hX (some (vR (cc 4 0))) q3.2 h
noncomputable def f_X4_readTrack_102 (s : pS) : Option (Int × pS) := some (1, s)
set_option maxRecDepth 10000 in
theorem t_X4_readTrack_102 (xs : Nat → Int) (e : Nat) (q : Int × pS) (X : List (Option pV) → List pV → Nat → pH → Prop) (hX : pm_clo 1001 xs (pCall pm_tx 1001 xs pm_P (e + 7)) (e + 7) mX4_readTrack (eI q) X) : ∀  (d0 : Option pV) (s : pS), f_X4_readTrack_102 s = some q → X [d0] [] 102 (pW s) := by
  intro d0 s h
  unfold f_X4_readTrack_102 at h
  refine r_iconst hX (p2 := 103) rfl rfl rfl ?_
  exact r_iretZ hX rfl rfl (Or.inr rfl) (eI_ok h)
noncomputable def f_X4_readTrack_45 (s : pS) : Option (Int × pS) := (f_X4_readShareSign s).bind (fun q1 => (if q1.1 ≠ 0 then (if (sI q1.2 404 0) ≠ 4 then (f_X3_add 2 (sI q1.2 404 0) (sF q1.2 405 0) (sI q1.2 404 0) (sF q1.2 405 0) q1.2).bind (fun q2 => f_X4_readTrack_102 q2) else (f_X3_add 2 3 FP.fconst0 4 (sF q1.2 405 0) q1.2).bind (fun q3 => f_X4_readTrack_102 q3)) else some (0, q1.2)))
set_option maxRecDepth 10000 in
theorem t_X4_readTrack_45 (xs : Nat → Int) (e : Nat) (q : Int × pS) (X : List (Option pV) → List pV → Nat → pH → Prop) (hX : pm_clo 1001 xs (pCall pm_tx 1001 xs pm_P (e + 7)) (e + 7) mX4_readTrack (eI q) X) : ∀  (s : pS), f_X4_readTrack_45 s = some q → X [some (vR (cc 4 0))] [] 45 (pW s) := by
  intro s h
  unfold f_X4_readTrack_45 at h
  refine r_aload_n hX (p2 := 46) rfl rfl rfl ⟨_, Or.inl rfl⟩ ?_
  obtain ⟨q1, hq1, h⟩ := bd_some h
  refine r_callv hX (p2 := 49) (v := some (vI q1.1)) (as := []) (r := []) (st2 := [vI q1.1]) rfl rfl rfl rfl rfl (hc4 0 (by decide)) rfl rfl (c_X4_readShareSign xs (e + 1) s q1 hq1) ?_
  refine r_if hX (p2 := 54) (p3 := 52) (P := q1.1 ≠ 0) rfl (by decide) rfl rfl (fun p5 => ?_) (fun p5 => ?_)
  · have h := it_pos h p5
    refine r_aload_n hX (p2 := 55) rfl rfl rfl ⟨_, Or.inl rfl⟩ ?_
    refine r_gf hX (p2 := 58) (v := vI (sI q1.2 404 0)) rfl rfl (hc4 0 (by decide)) rfl rfl rfl ?_
    refine r_iconst hX (p2 := 59) rfl rfl rfl ?_
    refine r_icmp hX (p2 := 79) (p3 := 62) (P := (sI q1.2 404 0) ≠ 4) rfl (by decide) rfl rfl (fun p4 => ?_) (fun p4 => ?_)
    · have h := it_pos h p4
      refine r_aload_n hX (p2 := 80) rfl rfl rfl ⟨_, Or.inl rfl⟩ ?_
      refine r_gf hX (p2 := 83) (v := vR (cc 3 2)) rfl rfl (hc4 0 (by decide)) rfl rfl rfl ?_
      refine r_aload_n hX (p2 := 84) rfl rfl rfl ⟨_, Or.inl rfl⟩ ?_
      refine r_gf hX (p2 := 87) (v := vI (sI q1.2 404 0)) rfl rfl (hc4 0 (by decide)) rfl rfl rfl ?_
      refine r_aload_n hX (p2 := 88) rfl rfl rfl ⟨_, Or.inl rfl⟩ ?_
      refine r_gf hX (p2 := 91) (v := vF (sF q1.2 405 0)) rfl rfl (hc4 0 (by decide)) rfl rfl rfl ?_
      refine r_aload_n hX (p2 := 92) rfl rfl rfl ⟨_, Or.inl rfl⟩ ?_
      refine r_gf hX (p2 := 95) (v := vI (sI q1.2 404 0)) rfl rfl (hc4 0 (by decide)) rfl rfl rfl ?_
      refine r_aload_n hX (p2 := 96) rfl rfl rfl ⟨_, Or.inl rfl⟩ ?_
      refine r_gf hX (p2 := 99) (v := vF (sF q1.2 405 0)) rfl rfl (hc4 0 (by decide)) rfl rfl rfl ?_
      obtain ⟨q2, hq2, h⟩ := bd_some h
      refine r_callv hX (p2 := 102) (v := none) (as := [vI (sI q1.2 404 0), vF (sF q1.2 405 0), vI (sI q1.2 404 0), vF (sF q1.2 405 0)]) (r := []) (st2 := []) rfl rfl rfl rfl rfl (hc3 2 (by decide)) rfl rfl (c_X3_add xs (e + 6) 2 (sI q1.2 404 0) (sF q1.2 405 0) (sI q1.2 404 0) (sF q1.2 405 0) (by decide) q1.2 q2 hq2) ?_
      exact t_X4_readTrack_102 xs e q X hX (some (vR (cc 4 0))) q2 h
    · have h := it_neg h p4
      refine r_aload_n hX (p2 := 63) rfl rfl rfl ⟨_, Or.inl rfl⟩ ?_
      refine r_gf hX (p2 := 66) (v := vR (cc 3 2)) rfl rfl (hc4 0 (by decide)) rfl rfl rfl ?_
      refine r_iconst hX (p2 := 67) rfl rfl rfl ?_
      refine r_fconst0 hX (p2 := 68) rfl rfl ?_
      refine r_iconst hX (p2 := 69) rfl rfl rfl ?_
      refine r_aload_n hX (p2 := 70) rfl rfl rfl ⟨_, Or.inl rfl⟩ ?_
      refine r_gf hX (p2 := 73) (v := vF (sF q1.2 405 0)) rfl rfl (hc4 0 (by decide)) rfl rfl rfl ?_
      obtain ⟨q3, hq3, h⟩ := bd_some h
      refine r_callv hX (p2 := 76) (v := none) (as := [vI 3, vF FP.fconst0, vI 4, vF (sF q1.2 405 0)]) (r := []) (st2 := []) rfl rfl rfl rfl rfl (hc3 2 (by decide)) rfl rfl (c_X3_add xs (e + 6) 2 3 FP.fconst0 4 (sF q1.2 405 0) (by decide) q1.2 q3 hq3) ?_
      refine r_goto hX (p2 := 102) rfl (by decide) ?_
      exact t_X4_readTrack_102 xs e q X hX (some (vR (cc 4 0))) q3 h
  · have h := it_neg h p5
    refine r_iconst hX (p2 := 53) rfl rfl rfl ?_
    exact r_iretZ hX rfl rfl (Or.inl rfl) (eI_ok h)
noncomputable def f_X4_readTrack (s : pS) : Option (Int × pS) := (f_X4_peek s).bind (fun q1 => (if q1.1 ≠ 102 then (f_X4_readPlain q1.2).bind (fun q2 => (if q2.1 ≠ 0 then (if (sI q2.2 404 0) ≠ 1 then f_X4_readTrack_45 q2.2 else (f_X4_peek q2.2).bind (fun q3 => (if q3.1 ≠ 109 then f_X4_readTrack_45 q3.2 else (f_X4_readMinmax q3.2).bind (fun q4 => ck (q4.1 = 0 ∨ q4.1 = 1) (some (q4.1, q4.2)))))) else some (0, q2.2))) else (f_X4_readFit q1.2).bind (fun q9 => ck (q9.1 = 0 ∨ q9.1 = 1) (some (q9.1, q9.2)))))
set_option maxRecDepth 10000 in
theorem c_X4_readTrack (xs : Nat → Int) (e : Nat) (s : pS) (q : Int × pS) (h : f_X4_readTrack s = some q) : pCall pm_tx 1001 xs pm_P (e + 7 + 1) 63 [vR (cc 4 0)] (pW s) (.inl (some (vI q.1))) (pW q.2) := by
  refine pCall_of mX4_readTrack rfl rfl (fun X hX => ?_)
  show X [some (vR (cc 4 0))] [] 0 (pW s)
  replace hX : pm_clo 1001 xs (pCall pm_tx 1001 xs pm_P (e + 7)) (e + 7) mX4_readTrack (eI q) X := hX
  unfold f_X4_readTrack at h
  refine r_aload_n hX (p2 := 1) rfl rfl rfl ⟨_, Or.inl rfl⟩ ?_
  obtain ⟨q1, hq1, h⟩ := bd_some h
  refine r_callv hX (p2 := 4) (v := some (vI q1.1)) (as := []) (r := []) (st2 := [vI q1.1]) rfl rfl rfl rfl rfl (hc4 0 (by decide)) rfl rfl (c_X4_peek xs (e + 6) s q1 hq1) ?_
  refine r_bipush hX (p2 := 6) rfl rfl rfl ?_
  refine r_icmp hX (p2 := 14) (p3 := 9) (P := q1.1 ≠ 102) rfl (by decide) rfl rfl (fun p11 => ?_) (fun p11 => ?_)
  · have h := it_pos h p11
    refine r_aload_n hX (p2 := 15) rfl rfl rfl ⟨_, Or.inl rfl⟩ ?_
    obtain ⟨q2, hq2, h⟩ := bd_some h
    refine r_callv hX (p2 := 18) (v := some (vI q2.1)) (as := []) (r := []) (st2 := [vI q2.1]) rfl rfl rfl rfl rfl (hc4 0 (by decide)) rfl rfl (c_X4_readPlain xs (e + 1) q1.2 q2 hq2) ?_
    refine r_if hX (p2 := 23) (p3 := 21) (P := q2.1 ≠ 0) rfl (by decide) rfl rfl (fun p8 => ?_) (fun p8 => ?_)
    · have h := it_pos h p8
      refine r_aload_n hX (p2 := 24) rfl rfl rfl ⟨_, Or.inl rfl⟩ ?_
      refine r_gf hX (p2 := 27) (v := vI (sI q2.2 404 0)) rfl rfl (hc4 0 (by decide)) rfl rfl rfl ?_
      refine r_iconst hX (p2 := 28) rfl rfl rfl ?_
      refine r_icmp hX (p2 := 45) (p3 := 31) (P := (sI q2.2 404 0) ≠ 1) rfl (by decide) rfl rfl (fun p7 => ?_) (fun p7 => ?_)
      · have h := it_pos h p7
        exact t_X4_readTrack_45 xs e q X hX q2.2 h
      · have h := it_neg h p7
        refine r_aload_n hX (p2 := 32) rfl rfl rfl ⟨_, Or.inl rfl⟩ ?_
        obtain ⟨q3, hq3, h⟩ := bd_some h
        refine r_callv hX (p2 := 35) (v := some (vI q3.1)) (as := []) (r := []) (st2 := [vI q3.1]) rfl rfl rfl rfl rfl (hc4 0 (by decide)) rfl rfl (c_X4_peek xs (e + 6) q2.2 q3 hq3) ?_
        refine r_bipush hX (p2 := 37) rfl rfl rfl ?_
        refine r_icmp hX (p2 := 45) (p3 := 40) (P := q3.1 ≠ 109) rfl (by decide) rfl rfl (fun p6 => ?_) (fun p6 => ?_)
        · have h := it_pos h p6
          exact t_X4_readTrack_45 xs e q X hX q3.2 h
        · have h := it_neg h p6
          refine r_aload_n hX (p2 := 41) rfl rfl rfl ⟨_, Or.inl rfl⟩ ?_
          obtain ⟨q4, hq4, h⟩ := bd_some h
          refine r_callv hX (p2 := 44) (v := some (vI q4.1)) (as := []) (r := []) (st2 := [vI q4.1]) rfl rfl rfl rfl rfl (hc4 0 (by decide)) rfl rfl (c_X4_readMinmax xs e q3.2 q4 hq4) ?_
          obtain ⟨c5, h⟩ := ck_some h
          exact r_iretZ hX rfl rfl c5 (eI_ok h)
    · have h := it_neg h p8
      refine r_iconst hX (p2 := 22) rfl rfl rfl ?_
      exact r_iretZ hX rfl rfl (Or.inl rfl) (eI_ok h)
  · have h := it_neg h p11
    refine r_aload_n hX (p2 := 10) rfl rfl rfl ⟨_, Or.inl rfl⟩ ?_
    obtain ⟨q9, hq9, h⟩ := bd_some h
    refine r_callv hX (p2 := 13) (v := some (vI q9.1)) (as := []) (r := []) (st2 := [vI q9.1]) rfl rfl rfl rfl rfl (hc4 0 (by decide)) rfl rfl (c_X4_readFit xs (e + 1) q1.2 q9 hq9) ?_
    obtain ⟨c10, h⟩ := ck_some h
    exact r_iretZ hX rfl rfl c10 (eI_ok h)
noncomputable def f_X3_repeatFrom_14 (i0 : Nat) (K65 : pS → Option (pS)) : Nat → Int → Int → pS → Option (pS)
  | 0, _, _, _ => none
  | n + 1, x3, x4, s => (if x4 ≤ 0 then K65 s else ck (inR ((sI s 304 i0) - x3)) (bs (((sI s 304 i0) - x3)) (fun v2 => ck (0 ≤ v2 ∧ v2 < 12) (ck (0 ≤ v2 ∧ v2 < 12) (ck (0 ≤ v2 ∧ v2 < 12) (ck (0 ≤ v2 ∧ v2 < 12) ((f_X3_add i0 (sA s 300 i0 v2.toNat) (sB s 301 i0 v2.toNat) (sA s 302 i0 v2.toNat) (sB s 303 i0 v2.toNat) s).bind (fun q7 => ck (inR (x4 + (-1))) (f_X3_repeatFrom_14 i0 K65 n x3 (x4 + (-1)) q7)))))))))
set_option maxRecDepth 10000 in
theorem t_X3_repeatFrom_14 (xs : Nat → Int) (e : Nat) (i0 : Nat) (hi0 : i0 < 3) (q : pS) (X : List (Option pV) → List pV → Nat → pH → Prop) (hX : pm_clo 1001 xs (pCall pm_tx 1001 xs pm_P (e + 1)) (e + 1) mX3_repeatFrom (eU q) X) (K65 : pS → Option (pS)) (hK65 : ∀ (d0 : Option pV) (d1 : Option pV) (d2 : Option pV) (d3 : Option pV) (d4 : Option pV) (d5 : Option pV) (s : pS), K65 s = some q → X [d0, d1, d2, d3, d4, d5] [] 65 (pW s)) : ∀ (n : Nat) (x3 : Int) (x4 : Int) (d1 : Option pV) (d2 : Option pV) (d5 : Option pV) (s : pS), f_X3_repeatFrom_14 i0 K65 n x3 x4 s = some q → X [some (vR (cc 3 i0)), d1, d2, some (vI x3), some (vI x4), d5] [] 14 (pW s) := by
  intro n
  induction n with
  | zero =>
    intro x3 x4 d1 d2 d5 s h
    rw [f_X3_repeatFrom_14] at h
    cases h
  | succ n ih =>
    intro x3 x4 d1 d2 d5 s h
    rw [f_X3_repeatFrom_14] at h
    refine r_iload hX (p2 := 16) rfl rfl rfl ?_
    refine r_if hX (p2 := 65) (p3 := 19) (P := x4 ≤ 0) rfl (by decide) rfl rfl (fun p9 => ?_) (fun p9 => ?_)
    · have h := it_pos h p9
      exact hK65 (some (vR (cc 3 i0))) d1 d2 (some (vI x3)) (some (vI x4)) d5 s h
    · have h := it_neg h p9
      refine r_aload_n hX (p2 := 20) rfl rfl rfl ⟨_, Or.inl rfl⟩ ?_
      refine r_gf hX (p2 := 23) (v := vI (sI s 304 i0)) rfl rfl (hc3 i0 hi0) rfl rfl rfl ?_
      refine r_iload_n hX (p2 := 24) rfl rfl rfl ?_
      obtain ⟨c1, h⟩ := ck_some h
      refine r_isub hX (p2 := 25) rfl rfl c1 ?_
      obtain ⟨v2, hv2, h⟩ := bs_some h
      refine r_istoreE hX (p2 := 27) (ls2 := [some (vR (cc 3 i0)), d1, d2, some (vI x3), some (vI x4), some (vI v2)]) rfl rfl hv2 rfl rfl ?_
      refine r_aload_n hX (p2 := 28) rfl rfl rfl ⟨_, Or.inl rfl⟩ ?_
      refine r_aload_n hX (p2 := 29) rfl rfl rfl ⟨_, Or.inl rfl⟩ ?_
      refine r_gf hX (p2 := 32) (v := vR (ca 300 i0)) rfl rfl (hc3 i0 hi0) rfl rfl rfl ?_
      refine r_iload hX (p2 := 34) rfl rfl rfl ?_
      obtain ⟨c3, h⟩ := ck_some h
      refine r_iaload hX (p2 := 35) (j := v2.toNat) rfl rfl (ha300 i0 hi0) rfl rfl c3 rfl ?_
      refine r_aload_n hX (p2 := 36) rfl rfl rfl ⟨_, Or.inl rfl⟩ ?_
      refine r_gf hX (p2 := 39) (v := vR (ca 301 i0)) rfl rfl (hc3 i0 hi0) rfl rfl rfl ?_
      refine r_iload hX (p2 := 41) rfl rfl rfl ?_
      obtain ⟨c4, h⟩ := ck_some h
      refine r_faload hX (p2 := 42) (j := v2.toNat) rfl rfl (ha301 i0 hi0) rfl rfl c4 rfl ?_
      refine r_aload_n hX (p2 := 43) rfl rfl rfl ⟨_, Or.inl rfl⟩ ?_
      refine r_gf hX (p2 := 46) (v := vR (ca 302 i0)) rfl rfl (hc3 i0 hi0) rfl rfl rfl ?_
      refine r_iload hX (p2 := 48) rfl rfl rfl ?_
      obtain ⟨c5, h⟩ := ck_some h
      refine r_iaload hX (p2 := 49) (j := v2.toNat) rfl rfl (ha302 i0 hi0) rfl rfl c5 rfl ?_
      refine r_aload_n hX (p2 := 50) rfl rfl rfl ⟨_, Or.inl rfl⟩ ?_
      refine r_gf hX (p2 := 53) (v := vR (ca 303 i0)) rfl rfl (hc3 i0 hi0) rfl rfl rfl ?_
      refine r_iload hX (p2 := 55) rfl rfl rfl ?_
      obtain ⟨c6, h⟩ := ck_some h
      refine r_faload hX (p2 := 56) (j := v2.toNat) rfl rfl (ha303 i0 hi0) rfl rfl c6 rfl ?_
      obtain ⟨q7, hq7, h⟩ := bd_some h
      refine r_callv hX (p2 := 59) (v := none) (as := [vI (sA s 300 i0 v2.toNat), vF (sB s 301 i0 v2.toNat), vI (sA s 302 i0 v2.toNat), vF (sB s 303 i0 v2.toNat)]) (r := []) (st2 := []) rfl rfl rfl rfl rfl (hc3 i0 hi0) rfl rfl (c_X3_add xs e i0 (sA s 300 i0 v2.toNat) (sB s 301 i0 v2.toNat) (sA s 302 i0 v2.toNat) (sB s 303 i0 v2.toNat) hi0 s q7 hq7) ?_
      obtain ⟨c8, h⟩ := ck_some h
      refine r_iinc hX (p2 := 62) (ls2 := [some (vR (cc 3 i0)), d1, d2, some (vI x3), some (vI (x4 + (-1))), some (vI v2)]) rfl rfl rfl rfl c8 rfl ?_
      refine r_goto hX (p2 := 14) rfl (by decide) ?_
      exact ih x3 (x4 + (-1)) d1 d2 (some (vI v2)) q7 h
noncomputable def f_X3_repeatFrom (i0 : Nat) (a1 : Int) (a2 : Int) (s : pS) : Option (pS) := ck (inR ((sI s 304 i0) - a1)) (bs (((sI s 304 i0) - a1)) (fun v2 => ck (inR (a2 - 1)) (ck (inR (v2 * (a2 - 1))) (bs ((v2 * (a2 - 1))) (fun v5 => f_X3_repeatFrom_14 i0 (fun s6 => some s6) 400 v2 v5 s)))))
set_option maxRecDepth 10000 in
theorem c_X3_repeatFrom (xs : Nat → Int) (e : Nat) (i0 : Nat) (a1 : Int) (a2 : Int) (hi0 : i0 < 3) (s : pS) (q : pS) (h : f_X3_repeatFrom i0 a1 a2 s = some q) : pCall pm_tx 1001 xs pm_P (e + 1 + 1) 55 [vR (cc 3 i0), vI a1, vI a2] (pW s) (.inl none) (pW q) := by
  refine pCall_of mX3_repeatFrom rfl rfl (fun X hX => ?_)
  show X [some (vR (cc 3 i0)), some (vI a1), some (vI a2), none, none, none] [] 0 (pW s)
  replace hX : pm_clo 1001 xs (pCall pm_tx 1001 xs pm_P (e + 1)) (e + 1) mX3_repeatFrom (eU q) X := hX
  unfold f_X3_repeatFrom at h
  refine r_aload_n hX (p2 := 1) rfl rfl rfl ⟨_, Or.inl rfl⟩ ?_
  refine r_gf hX (p2 := 4) (v := vI (sI s 304 i0)) rfl rfl (hc3 i0 hi0) rfl rfl rfl ?_
  refine r_iload_n hX (p2 := 5) rfl rfl rfl ?_
  obtain ⟨c1, h⟩ := ck_some h
  refine r_isub hX (p2 := 6) rfl rfl c1 ?_
  obtain ⟨v2, hv2, h⟩ := bs_some h
  refine r_istoreE_n hX (p2 := 7) (ls2 := [some (vR (cc 3 i0)), some (vI a1), some (vI a2), some (vI v2), none, none]) rfl rfl hv2 rfl rfl ?_
  refine r_iload_n hX (p2 := 8) rfl rfl rfl ?_
  refine r_iload_n hX (p2 := 9) rfl rfl rfl ?_
  refine r_iconst hX (p2 := 10) rfl rfl rfl ?_
  obtain ⟨c3, h⟩ := ck_some h
  refine r_isub hX (p2 := 11) rfl rfl c3 ?_
  obtain ⟨c4, h⟩ := ck_some h
  refine r_imul hX (p2 := 12) rfl rfl c4 ?_
  obtain ⟨v5, hv5, h⟩ := bs_some h
  refine r_istoreE hX (p2 := 14) (ls2 := [some (vR (cc 3 i0)), some (vI a1), some (vI a2), some (vI v2), some (vI v5), none]) rfl rfl hv5 rfl rfl ?_
  refine t_X3_repeatFrom_14 xs e i0 hi0 q X hX _ (fun d0 d1 d2 d3 d4 d5 s6 h => ?_) 400 v2 v5 (some (vI a1)) (some (vI a2)) none s h
  exact r_return hX rfl rfl (eU_ok h)
noncomputable def f_X4_mayHaveOneMore_36 (y0 : Int) (s : pS) : Option (Int × pS) := ck (y0 = 0 ∨ y0 = 1) (some (y0, s))
set_option maxRecDepth 10000 in
theorem t_X4_mayHaveOneMore_36 (xs : Nat → Int) (e : Nat) (q : Int × pS) (X : List (Option pV) → List pV → Nat → pH → Prop) (hX : pm_clo 1001 xs (pCall pm_tx 1001 xs pm_P e) e mX4_mayHaveOneMore (eI q) X) : ∀  (y0 : Int) (d0 : Option pV) (d1 : Option pV) (s : pS), f_X4_mayHaveOneMore_36 y0 s = some q → X [d0, d1] [vI y0] 36 (pW s) := by
  intro y0 d0 d1 s h
  unfold f_X4_mayHaveOneMore_36 at h
  obtain ⟨c1, h⟩ := ck_some h
  exact r_iretZ hX rfl rfl c1 (eI_ok h)
noncomputable def f_X4_mayHaveOneMore (s : pS) : Option (Int × pS) := ck (inR ((sI s 304 2) - (sI s 407 0))) (ck (inR (((sI s 304 2) - (sI s 407 0)) + 1)) (bs ((((sI s 304 2) - (sI s 407 0)) + 1)) (fun v3 => ck (inR ((sI s 408 0) * v3)) (ck (inR ((sI s 407 0) + ((sI s 408 0) * v3))) ((if 12 < ((sI s 407 0) + ((sI s 408 0) * v3)) then f_X4_mayHaveOneMore_36 0 s else f_X4_mayHaveOneMore_36 1 s))))))
set_option maxRecDepth 10000 in
theorem c_X4_mayHaveOneMore (xs : Nat → Int) (e : Nat) (s : pS) (q : Int × pS) (h : f_X4_mayHaveOneMore s = some q) : pCall pm_tx 1001 xs pm_P (e + 1) 62 [vR (cc 4 0)] (pW s) (.inl (some (vI q.1))) (pW q.2) := by
  refine pCall_of mX4_mayHaveOneMore rfl rfl (fun X hX => ?_)
  show X [some (vR (cc 4 0)), none] [] 0 (pW s)
  replace hX : pm_clo 1001 xs (pCall pm_tx 1001 xs pm_P e) e mX4_mayHaveOneMore (eI q) X := hX
  unfold f_X4_mayHaveOneMore at h
  refine r_aload_n hX (p2 := 1) rfl rfl rfl ⟨_, Or.inl rfl⟩ ?_
  refine r_gf hX (p2 := 4) (v := vR (cc 3 2)) rfl rfl (hc4 0 (by decide)) rfl rfl rfl ?_
  refine r_gf hX (p2 := 7) (v := vI (sI s 304 2)) rfl rfl (hc3 2 (by decide)) rfl rfl rfl ?_
  refine r_aload_n hX (p2 := 8) rfl rfl rfl ⟨_, Or.inl rfl⟩ ?_
  refine r_gf hX (p2 := 11) (v := vI (sI s 407 0)) rfl rfl (hc4 0 (by decide)) rfl rfl rfl ?_
  obtain ⟨c1, h⟩ := ck_some h
  refine r_isub hX (p2 := 12) rfl rfl c1 ?_
  refine r_iconst hX (p2 := 13) rfl rfl rfl ?_
  obtain ⟨c2, h⟩ := ck_some h
  refine r_iadd hX (p2 := 14) rfl rfl c2 ?_
  obtain ⟨v3, hv3, h⟩ := bs_some h
  refine r_istoreE_n hX (p2 := 15) (ls2 := [some (vR (cc 4 0)), some (vI v3)]) rfl rfl hv3 rfl rfl ?_
  refine r_aload_n hX (p2 := 16) rfl rfl rfl ⟨_, Or.inl rfl⟩ ?_
  refine r_gf hX (p2 := 19) (v := vI (sI s 407 0)) rfl rfl (hc4 0 (by decide)) rfl rfl rfl ?_
  refine r_aload_n hX (p2 := 20) rfl rfl rfl ⟨_, Or.inl rfl⟩ ?_
  refine r_gf hX (p2 := 23) (v := vI (sI s 408 0)) rfl rfl (hc4 0 (by decide)) rfl rfl rfl ?_
  refine r_iload_n hX (p2 := 24) rfl rfl rfl ?_
  obtain ⟨c4, h⟩ := ck_some h
  refine r_imul hX (p2 := 25) rfl rfl c4 ?_
  obtain ⟨c5, h⟩ := ck_some h
  refine r_iadd hX (p2 := 26) rfl rfl c5 ?_
  refine r_bipush hX (p2 := 28) rfl rfl rfl ?_
  refine r_icmp hX (p2 := 35) (p3 := 31) (P := 12 < ((sI s 407 0) + ((sI s 408 0) * v3))) rfl (by decide) rfl rfl (fun p6 => ?_) (fun p6 => ?_)
  · have h := it_pos h p6
    refine r_iconst hX (p2 := 36) rfl rfl rfl ?_
    exact t_X4_mayHaveOneMore_36 xs e q X hX 0 (some (vR (cc 4 0))) (some (vI v3)) s h
  · have h := it_neg h p6
    refine r_iconst hX (p2 := 32) rfl rfl rfl ?_
    refine r_goto hX (p2 := 36) rfl (by decide) ?_
    exact t_X4_mayHaveOneMore_36 xs e q X hX 1 (some (vR (cc 4 0))) (some (vI v3)) s h
noncomputable def f_X4_readText_102 (K27 : Int → pS → Option (Int × pS)) (K113 : pS → Option (Int × pS)) (K142 : pS → Option (Int × pS)) (K150 : pS → Option (Int × pS)) (x1 : Int) (s : pS) : Option (Int × pS) := (if (sI s 401 0) < (sI s 403 0) then (f_X4_mayHaveOneMore s).bind (fun q1 => (if q1.1 = 0 then K142 q1.2 else (f_X4_take 32 q1.2).bind (fun q2 => (if q2.1 ≠ 0 then ck (inR (x1 + 1)) (K27 (x1 + 1) q2.2) else K142 q2.2)))) else K113 s)
set_option maxRecDepth 10000 in
theorem t_X4_readText_102 (xs : Nat → Int) (e : Nat) (q : Int × pS) (X : List (Option pV) → List pV → Nat → pH → Prop) (hX : pm_clo 1001 xs (pCall pm_tx 1001 xs pm_P (e + 8)) (e + 8) mX4_readText (eI q) X) (K27 : Int → pS → Option (Int × pS)) (K113 : pS → Option (Int × pS)) (K142 : pS → Option (Int × pS)) (K150 : pS → Option (Int × pS)) (hK27 : ∀ (x1 : Int) (s : pS), K27 x1 s = some q → X [some (vR (cc 4 0)), some (vI x1)] [] 27 (pW s)) (hK113 : ∀ (d1 : Option pV) (s : pS), K113 s = some q → X [some (vR (cc 4 0)), d1] [] 113 (pW s)) (hK142 : ∀ (d0 : Option pV) (d1 : Option pV) (s : pS), K142 s = some q → X [d0, d1] [] 142 (pW s)) (hK150 : ∀ (d0 : Option pV) (d1 : Option pV) (s : pS), K150 s = some q → X [d0, d1] [] 150 (pW s)) : ∀  (x1 : Int) (s : pS), f_X4_readText_102 K27 K113 K142 K150 x1 s = some q → X [some (vR (cc 4 0)), some (vI x1)] [] 102 (pW s) := by
  intro x1 s h
  unfold f_X4_readText_102 at h
  refine r_aload_n hX (p2 := 103) rfl rfl rfl ⟨_, Or.inl rfl⟩ ?_
  refine r_gf hX (p2 := 106) (v := vI (sI s 401 0)) rfl rfl (hc4 0 (by decide)) rfl rfl rfl ?_
  refine r_aload_n hX (p2 := 107) rfl rfl rfl ⟨_, Or.inl rfl⟩ ?_
  refine r_gf hX (p2 := 110) (v := vI (sI s 403 0)) rfl rfl (hc4 0 (by decide)) rfl rfl rfl ?_
  refine r_icmp hX (p2 := 126) (p3 := 113) (P := (sI s 401 0) < (sI s 403 0)) rfl (by decide) rfl rfl (fun p6 => ?_) (fun p6 => ?_)
  · have h := it_pos h p6
    refine r_aload_n hX (p2 := 127) rfl rfl rfl ⟨_, Or.inl rfl⟩ ?_
    obtain ⟨q1, hq1, h⟩ := bd_some h
    refine r_callv hX (p2 := 130) (v := some (vI q1.1)) (as := []) (r := []) (st2 := [vI q1.1]) rfl rfl rfl rfl rfl (hc4 0 (by decide)) rfl rfl (c_X4_mayHaveOneMore xs (e + 7) s q1 hq1) ?_
    refine r_if hX (p2 := 142) (p3 := 133) (P := q1.1 = 0) rfl (by decide) rfl rfl (fun p5 => ?_) (fun p5 => ?_)
    · have h := it_pos h p5
      exact hK142 (some (vR (cc 4 0))) (some (vI x1)) q1.2 h
    · have h := it_neg h p5
      refine r_aload_n hX (p2 := 134) rfl rfl rfl ⟨_, Or.inl rfl⟩ ?_
      refine r_bipush hX (p2 := 136) rfl rfl rfl ?_
      obtain ⟨q2, hq2, h⟩ := bd_some h
      refine r_callv hX (p2 := 139) (v := some (vI q2.1)) (as := [vI 32]) (r := []) (st2 := [vI q2.1]) rfl rfl rfl rfl rfl (hc4 0 (by decide)) rfl rfl (c_X4_take xs (e + 7) 32 q1.2 q2 hq2) ?_
      refine r_if hX (p2 := 144) (p3 := 142) (P := q2.1 ≠ 0) rfl (by decide) rfl rfl (fun p4 => ?_) (fun p4 => ?_)
      · have h := it_pos h p4
        obtain ⟨c3, h⟩ := ck_some h
        refine r_iinc hX (p2 := 147) (ls2 := [some (vR (cc 4 0)), some (vI (x1 + 1))]) rfl rfl rfl rfl c3 rfl ?_
        refine r_goto hX (p2 := 27) rfl (by decide) ?_
        exact hK27 (x1 + 1) q2.2 h
      · have h := it_neg h p4
        exact hK142 (some (vR (cc 4 0))) (some (vI x1)) q2.2 h
  · have h := it_neg h p6
    exact hK113 (some (vI x1)) s h
noncomputable def f_X4_readText_58 (K27 : Int → pS → Option (Int × pS)) (K113 : pS → Option (Int × pS)) (K142 : pS → Option (Int × pS)) (K150 : pS → Option (Int × pS)) (x1 : Int) (s : pS) : Option (Int × pS) := (f_X4_readTrack s).bind (fun q1 => (if q1.1 ≠ 0 then (if (sI q1.2 406 0) = 0 then f_X4_readText_102 K27 K113 K142 K150 x1 q1.2 else (f_X4_take 41 q1.2).bind (fun q2 => (if q2.1 = 0 then f_X4_readText_102 K27 K113 K142 K150 x1 q2.2 else (f_X3_repeatFrom 2 (sI q2.2 407 0) (sI q2.2 408 0) q2.2).bind (fun q3 => (f_X4_leaveRepeat q3).bind (fun q4 => f_X4_readText_102 K27 K113 K142 K150 x1 q4))))) else some (0, q1.2)))
set_option maxRecDepth 10000 in
theorem t_X4_readText_58 (xs : Nat → Int) (e : Nat) (q : Int × pS) (X : List (Option pV) → List pV → Nat → pH → Prop) (hX : pm_clo 1001 xs (pCall pm_tx 1001 xs pm_P (e + 8)) (e + 8) mX4_readText (eI q) X) (K27 : Int → pS → Option (Int × pS)) (K113 : pS → Option (Int × pS)) (K142 : pS → Option (Int × pS)) (K150 : pS → Option (Int × pS)) (hK27 : ∀ (x1 : Int) (s : pS), K27 x1 s = some q → X [some (vR (cc 4 0)), some (vI x1)] [] 27 (pW s)) (hK113 : ∀ (d1 : Option pV) (s : pS), K113 s = some q → X [some (vR (cc 4 0)), d1] [] 113 (pW s)) (hK142 : ∀ (d0 : Option pV) (d1 : Option pV) (s : pS), K142 s = some q → X [d0, d1] [] 142 (pW s)) (hK150 : ∀ (d0 : Option pV) (d1 : Option pV) (s : pS), K150 s = some q → X [d0, d1] [] 150 (pW s)) : ∀  (x1 : Int) (s : pS), f_X4_readText_58 K27 K113 K142 K150 x1 s = some q → X [some (vR (cc 4 0)), some (vI x1)] [] 58 (pW s) := by
  intro x1 s h
  unfold f_X4_readText_58 at h
  refine r_aload_n hX (p2 := 59) rfl rfl rfl ⟨_, Or.inl rfl⟩ ?_
  obtain ⟨q1, hq1, h⟩ := bd_some h
  refine r_callv hX (p2 := 62) (v := some (vI q1.1)) (as := []) (r := []) (st2 := [vI q1.1]) rfl rfl rfl rfl rfl (hc4 0 (by decide)) rfl rfl (c_X4_readTrack xs e s q1 hq1) ?_
  refine r_if hX (p2 := 67) (p3 := 65) (P := q1.1 ≠ 0) rfl (by decide) rfl rfl (fun p7 => ?_) (fun p7 => ?_)
  · have h := it_pos h p7
    refine r_aload_n hX (p2 := 68) rfl rfl rfl ⟨_, Or.inl rfl⟩ ?_
    refine r_gf hX (p2 := 71) (v := vI (sI q1.2 406 0)) rfl rfl (hc4 0 (by decide)) rfl rfl rfl ?_
    refine r_if hX (p2 := 102) (p3 := 74) (P := (sI q1.2 406 0) = 0) rfl (by decide) rfl rfl (fun p6 => ?_) (fun p6 => ?_)
    · have h := it_pos h p6
      exact t_X4_readText_102 xs e q X hX _ _ _ _ hK27 hK113 hK142 hK150 x1 q1.2 h
    · have h := it_neg h p6
      refine r_aload_n hX (p2 := 75) rfl rfl rfl ⟨_, Or.inl rfl⟩ ?_
      refine r_bipush hX (p2 := 77) rfl rfl rfl ?_
      obtain ⟨q2, hq2, h⟩ := bd_some h
      refine r_callv hX (p2 := 80) (v := some (vI q2.1)) (as := [vI 41]) (r := []) (st2 := [vI q2.1]) rfl rfl rfl rfl rfl (hc4 0 (by decide)) rfl rfl (c_X4_take xs (e + 7) 41 q1.2 q2 hq2) ?_
      refine r_if hX (p2 := 102) (p3 := 83) (P := q2.1 = 0) rfl (by decide) rfl rfl (fun p5 => ?_) (fun p5 => ?_)
      · have h := it_pos h p5
        exact t_X4_readText_102 xs e q X hX _ _ _ _ hK27 hK113 hK142 hK150 x1 q2.2 h
      · have h := it_neg h p5
        refine r_aload_n hX (p2 := 84) rfl rfl rfl ⟨_, Or.inl rfl⟩ ?_
        refine r_gf hX (p2 := 87) (v := vR (cc 3 2)) rfl rfl (hc4 0 (by decide)) rfl rfl rfl ?_
        refine r_aload_n hX (p2 := 88) rfl rfl rfl ⟨_, Or.inl rfl⟩ ?_
        refine r_gf hX (p2 := 91) (v := vI (sI q2.2 407 0)) rfl rfl (hc4 0 (by decide)) rfl rfl rfl ?_
        refine r_aload_n hX (p2 := 92) rfl rfl rfl ⟨_, Or.inl rfl⟩ ?_
        refine r_gf hX (p2 := 95) (v := vI (sI q2.2 408 0)) rfl rfl (hc4 0 (by decide)) rfl rfl rfl ?_
        obtain ⟨q3, hq3, h⟩ := bd_some h
        refine r_callv hX (p2 := 98) (v := none) (as := [vI (sI q2.2 407 0), vI (sI q2.2 408 0)]) (r := []) (st2 := []) rfl rfl rfl rfl rfl (hc3 2 (by decide)) rfl rfl (c_X3_repeatFrom xs (e + 6) 2 (sI q2.2 407 0) (sI q2.2 408 0) (by decide) q2.2 q3 hq3) ?_
        refine r_aload_n hX (p2 := 99) rfl rfl rfl ⟨_, Or.inl rfl⟩ ?_
        obtain ⟨q4, hq4, h⟩ := bd_some h
        refine r_callv hX (p2 := 102) (v := none) (as := []) (r := []) (st2 := []) rfl rfl rfl rfl rfl (hc4 0 (by decide)) rfl rfl (c_X4_leaveRepeat xs (e + 7) q3 q4 hq4) ?_
        exact t_X4_readText_102 xs e q X hX _ _ _ _ hK27 hK113 hK142 hK150 x1 q4 h
  · have h := it_neg h p7
    refine r_iconst hX (p2 := 66) rfl rfl rfl ?_
    exact r_iretZ hX rfl rfl (Or.inl rfl) (eI_ok h)
noncomputable def f_X4_readText_27 (K113 : pS → Option (Int × pS)) (K142 : pS → Option (Int × pS)) (K150 : pS → Option (Int × pS)) : Nat → Int → pS → Option (Int × pS)
  | 0, _, _ => none
  | n + 1, x1, s => (if 12 ≤ x1 then K150 s else (if (sI s 406 0) ≠ 0 then f_X4_readText_58 (f_X4_readText_27 K113 K142 K150 n) K113 K142 K150 x1 s else (f_X4_peek s).bind (fun q1 => (if q1.1 ≠ 114 then f_X4_readText_58 (f_X4_readText_27 K113 K142 K150 n) K113 K142 K150 x1 q1.2 else (f_X4_enterRepeat q1.2).bind (fun q2 => (if q2.1 ≠ 0 then f_X4_readText_58 (f_X4_readText_27 K113 K142 K150 n) K113 K142 K150 x1 q2.2 else some (0, q2.2)))))))
set_option maxRecDepth 10000 in
theorem t_X4_readText_27 (xs : Nat → Int) (e : Nat) (q : Int × pS) (X : List (Option pV) → List pV → Nat → pH → Prop) (hX : pm_clo 1001 xs (pCall pm_tx 1001 xs pm_P (e + 8)) (e + 8) mX4_readText (eI q) X) (K113 : pS → Option (Int × pS)) (K142 : pS → Option (Int × pS)) (K150 : pS → Option (Int × pS)) (hK113 : ∀ (d1 : Option pV) (s : pS), K113 s = some q → X [some (vR (cc 4 0)), d1] [] 113 (pW s)) (hK142 : ∀ (d0 : Option pV) (d1 : Option pV) (s : pS), K142 s = some q → X [d0, d1] [] 142 (pW s)) (hK150 : ∀ (d0 : Option pV) (d1 : Option pV) (s : pS), K150 s = some q → X [d0, d1] [] 150 (pW s)) : ∀ (n : Nat) (x1 : Int) (s : pS), f_X4_readText_27 K113 K142 K150 n x1 s = some q → X [some (vR (cc 4 0)), some (vI x1)] [] 27 (pW s) := by
  intro n
  induction n with
  | zero =>
    intro x1 s h
    rw [f_X4_readText_27] at h
    cases h
  | succ n ih =>
    intro x1 s h
    rw [f_X4_readText_27] at h
    refine r_iload_n hX (p2 := 28) rfl rfl rfl ?_
    refine r_bipush hX (p2 := 30) rfl rfl rfl ?_
    refine r_icmp hX (p2 := 150) (p3 := 33) (P := 12 ≤ x1) rfl (by decide) rfl rfl (fun p6 => ?_) (fun p6 => ?_)
    · have h := it_pos h p6
      exact hK150 (some (vR (cc 4 0))) (some (vI x1)) s h
    · have h := it_neg h p6
      refine r_aload_n hX (p2 := 34) rfl rfl rfl ⟨_, Or.inl rfl⟩ ?_
      refine r_gf hX (p2 := 37) (v := vI (sI s 406 0)) rfl rfl (hc4 0 (by decide)) rfl rfl rfl ?_
      refine r_if hX (p2 := 58) (p3 := 40) (P := (sI s 406 0) ≠ 0) rfl (by decide) rfl rfl (fun p5 => ?_) (fun p5 => ?_)
      · have h := it_pos h p5
        exact t_X4_readText_58 xs e q X hX _ _ _ _ ih hK113 hK142 hK150 x1 s h
      · have h := it_neg h p5
        refine r_aload_n hX (p2 := 41) rfl rfl rfl ⟨_, Or.inl rfl⟩ ?_
        obtain ⟨q1, hq1, h⟩ := bd_some h
        refine r_callv hX (p2 := 44) (v := some (vI q1.1)) (as := []) (r := []) (st2 := [vI q1.1]) rfl rfl rfl rfl rfl (hc4 0 (by decide)) rfl rfl (c_X4_peek xs (e + 7) s q1 hq1) ?_
        refine r_bipush hX (p2 := 46) rfl rfl rfl ?_
        refine r_icmp hX (p2 := 58) (p3 := 49) (P := q1.1 ≠ 114) rfl (by decide) rfl rfl (fun p4 => ?_) (fun p4 => ?_)
        · have h := it_pos h p4
          exact t_X4_readText_58 xs e q X hX _ _ _ _ ih hK113 hK142 hK150 x1 q1.2 h
        · have h := it_neg h p4
          refine r_aload_n hX (p2 := 50) rfl rfl rfl ⟨_, Or.inl rfl⟩ ?_
          obtain ⟨q2, hq2, h⟩ := bd_some h
          refine r_callv hX (p2 := 53) (v := some (vI q2.1)) (as := []) (r := []) (st2 := [vI q2.1]) rfl rfl rfl rfl rfl (hc4 0 (by decide)) rfl rfl (c_X4_enterRepeat xs (e + 2) q1.2 q2 hq2) ?_
          refine r_if hX (p2 := 58) (p3 := 56) (P := q2.1 ≠ 0) rfl (by decide) rfl rfl (fun p3 => ?_) (fun p3 => ?_)
          · have h := it_pos h p3
            exact t_X4_readText_58 xs e q X hX _ _ _ _ ih hK113 hK142 hK150 x1 q2.2 h
          · have h := it_neg h p3
            refine r_iconst hX (p2 := 57) rfl rfl rfl ?_
            exact r_iretZ hX rfl rfl (Or.inl rfl) (eI_ok h)
noncomputable def f_X4_readText_125 (y0 : Int) (s : pS) : Option (Int × pS) := ck (y0 = 0 ∨ y0 = 1) (some (y0, s))
set_option maxRecDepth 10000 in
theorem t_X4_readText_125 (xs : Nat → Int) (e : Nat) (q : Int × pS) (X : List (Option pV) → List pV → Nat → pH → Prop) (hX : pm_clo 1001 xs (pCall pm_tx 1001 xs pm_P (e + 8)) (e + 8) mX4_readText (eI q) X) : ∀  (y0 : Int) (d0 : Option pV) (d1 : Option pV) (s : pS), f_X4_readText_125 y0 s = some q → X [d0, d1] [vI y0] 125 (pW s) := by
  intro y0 d0 d1 s h
  unfold f_X4_readText_125 at h
  obtain ⟨c1, h⟩ := ck_some h
  exact r_iretZ hX rfl rfl c1 (eI_ok h)
noncomputable def f_X4_readText_142 (s : pS) : Option (Int × pS) := some (0, s)
set_option maxRecDepth 10000 in
theorem t_X4_readText_142 (xs : Nat → Int) (e : Nat) (q : Int × pS) (X : List (Option pV) → List pV → Nat → pH → Prop) (hX : pm_clo 1001 xs (pCall pm_tx 1001 xs pm_P (e + 8)) (e + 8) mX4_readText (eI q) X) : ∀  (d0 : Option pV) (d1 : Option pV) (s : pS), f_X4_readText_142 s = some q → X [d0, d1] [] 142 (pW s) := by
  intro d0 d1 s h
  unfold f_X4_readText_142 at h
  refine r_iconst hX (p2 := 143) rfl rfl rfl ?_
  exact r_iretZ hX rfl rfl (Or.inl rfl) (eI_ok h)
noncomputable def f_X4_readText (s : pS) : Option (Int × pS) := (f_X3_clear 2 s).bind (fun q1 => bs (wI q1 401 0 0) (fun s2 => (f_X4_leaveRepeat s2).bind (fun q3 => (if (sI q3 403 0) ≠ 0 then f_X4_readText_27 (fun s4 => (if (sI s4 406 0) ≠ 0 then f_X4_readText_125 0 s4 else f_X4_readText_125 1 s4)) (fun s6 => f_X4_readText_142 s6) (fun s7 => some (0, s7)) 400 0 q3 else some (1, q3)))))
set_option maxRecDepth 10000 in
theorem c_X4_readText (xs : Nat → Int) (e : Nat) (s : pS) (q : Int × pS) (h : f_X4_readText s = some q) : pCall pm_tx 1001 xs pm_P (e + 8 + 1) 59 [vR (cc 4 0)] (pW s) (.inl (some (vI q.1))) (pW q.2) := by
  refine pCall_of mX4_readText rfl rfl (fun X hX => ?_)
  show X [some (vR (cc 4 0)), none] [] 0 (pW s)
  replace hX : pm_clo 1001 xs (pCall pm_tx 1001 xs pm_P (e + 8)) (e + 8) mX4_readText (eI q) X := hX
  unfold f_X4_readText at h
  refine r_aload_n hX (p2 := 1) rfl rfl rfl ⟨_, Or.inl rfl⟩ ?_
  refine r_gf hX (p2 := 4) (v := vR (cc 3 2)) rfl rfl (hc4 0 (by decide)) rfl rfl rfl ?_
  obtain ⟨q1, hq1, h⟩ := bd_some h
  refine r_callv hX (p2 := 7) (v := none) (as := []) (r := []) (st2 := []) rfl rfl rfl rfl rfl (hc3 2 (by decide)) rfl rfl (c_X3_clear xs (e + 6) 2 (by decide) s q1 hq1) ?_
  refine r_aload_n hX (p2 := 8) rfl rfl rfl ⟨_, Or.inl rfl⟩ ?_
  refine r_iconst hX (p2 := 9) rfl rfl rfl ?_
  obtain ⟨s2, hs2, h⟩ := bs_some h
  refine r_pfI hX (p2 := 12) rfl rfl (hc4 0 (by decide)) rfl rfl rfl rfl rfl rfl hs2 ?_
  refine r_aload_n hX (p2 := 13) rfl rfl rfl ⟨_, Or.inl rfl⟩ ?_
  obtain ⟨q3, hq3, h⟩ := bd_some h
  refine r_callv hX (p2 := 16) (v := none) (as := []) (r := []) (st2 := []) rfl rfl rfl rfl rfl (hc4 0 (by decide)) rfl rfl (c_X4_leaveRepeat xs (e + 7) s2 q3 hq3) ?_
  refine r_aload_n hX (p2 := 17) rfl rfl rfl ⟨_, Or.inl rfl⟩ ?_
  refine r_gf hX (p2 := 20) (v := vI (sI q3 403 0)) rfl rfl (hc4 0 (by decide)) rfl rfl rfl ?_
  refine r_if hX (p2 := 25) (p3 := 23) (P := (sI q3 403 0) ≠ 0) rfl (by decide) rfl rfl (fun p8 => ?_) (fun p8 => ?_)
  · have h := it_pos h p8
    refine r_iconst hX (p2 := 26) rfl rfl rfl ?_
    refine r_istore_n hX (p2 := 27) (ls2 := [some (vR (cc 4 0)), some (vI 0)]) rfl rfl rfl rfl ?_
    refine t_X4_readText_27 xs e q X hX _ _ _ (fun d1 s4 h => ?_) (fun d0 d1 s6 h => ?_) (fun d0 d1 s7 h => ?_) 400 0 q3 h
    · refine r_aload_n hX (p2 := 114) rfl rfl rfl ⟨_, Or.inl rfl⟩ ?_
      refine r_gf hX (p2 := 117) (v := vI (sI s4 406 0)) rfl rfl (hc4 0 (by decide)) rfl rfl rfl ?_
      refine r_if hX (p2 := 124) (p3 := 120) (P := (sI s4 406 0) ≠ 0) rfl (by decide) rfl rfl (fun p5 => ?_) (fun p5 => ?_)
      · have h := it_pos h p5
        refine r_iconst hX (p2 := 125) rfl rfl rfl ?_
        exact t_X4_readText_125 xs e q X hX 0 (some (vR (cc 4 0))) d1 s4 h
      · have h := it_neg h p5
        refine r_iconst hX (p2 := 121) rfl rfl rfl ?_
        refine r_goto hX (p2 := 125) rfl (by decide) ?_
        exact t_X4_readText_125 xs e q X hX 1 (some (vR (cc 4 0))) d1 s4 h
    · exact t_X4_readText_142 xs e q X hX d0 d1 s6 h
    · refine r_iconst hX (p2 := 151) rfl rfl rfl ?_
      exact r_iretZ hX rfl rfl (Or.inl rfl) (eI_ok h)
  · have h := it_neg h p8
    refine r_iconst hX (p2 := 24) rfl rfl rfl ?_
    exact r_iretZ hX rfl rfl (Or.inr rfl) (eI_ok h)
noncomputable def f_X4_forgetText (s : pS) : Option (pS) := bs (wI s 403 0 0) (fun s1 => some s1)
set_option maxRecDepth 10000 in
theorem c_X4_forgetText (xs : Nat → Int) (e : Nat) (s : pS) (q : pS) (h : f_X4_forgetText s = some q) : pCall pm_tx 1001 xs pm_P (e + 1) 58 [vR (cc 4 0)] (pW s) (.inl none) (pW q) := by
  refine pCall_of mX4_forgetText rfl rfl (fun X hX => ?_)
  show X [some (vR (cc 4 0))] [] 0 (pW s)
  replace hX : pm_clo 1001 xs (pCall pm_tx 1001 xs pm_P e) e mX4_forgetText (eU q) X := hX
  unfold f_X4_forgetText at h
  refine r_aload_n hX (p2 := 1) rfl rfl rfl ⟨_, Or.inl rfl⟩ ?_
  refine r_iconst hX (p2 := 2) rfl rfl rfl ?_
  obtain ⟨s1, hs1, h⟩ := bs_some h
  refine r_pfI hX (p2 := 5) rfl rfl (hc4 0 (by decide)) rfl rfl rfl rfl rfl rfl hs1 ?_
  exact r_return hX rfl rfl (eU_ok h)
noncomputable def f_X3_copyFrom (i0 : Nat) (i1 : Nat) (s : pS) : Option (pS) := bs (wI s 304 i0 (sI s 304 i1)) (fun s1 => bs (wA s1 300 i0 (fun j => if j < 12 then sA s1 300 i1 j else sA s1 300 i0 j)) (fun s2 => bs (wB s2 301 i0 (fun j => if j < 12 then sB s2 301 i1 j else sB s2 301 i0 j)) (fun s3 => bs (wA s3 302 i0 (fun j => if j < 12 then sA s3 302 i1 j else sA s3 302 i0 j)) (fun s4 => bs (wB s4 303 i0 (fun j => if j < 12 then sB s4 303 i1 j else sB s4 303 i0 j)) (fun s5 => some s5)))))
set_option maxRecDepth 10000 in
theorem c_X3_copyFrom (xs : Nat → Int) (e : Nat) (i0 : Nat) (i1 : Nat) (hi0 : i0 < 3) (hi1 : i1 < 3) (s : pS) (q : pS) (h : f_X3_copyFrom i0 i1 s = some q) : pCall pm_tx 1001 xs pm_P (e + 1 + 1) 53 [vR (cc 3 i0), vR (cc 3 i1)] (pW s) (.inl none) (pW q) := by
  refine pCall_of mX3_copyFrom rfl rfl (fun X hX => ?_)
  show X [some (vR (cc 3 i0)), some (vR (cc 3 i1))] [] 0 (pW s)
  replace hX : pm_clo 1001 xs (pCall pm_tx 1001 xs pm_P (e + 1)) (e + 1) mX3_copyFrom (eU q) X := hX
  unfold f_X3_copyFrom at h
  refine r_aload_n hX (p2 := 1) rfl rfl rfl ⟨_, Or.inl rfl⟩ ?_
  refine r_aload_n hX (p2 := 2) rfl rfl rfl ⟨_, Or.inl rfl⟩ ?_
  refine r_gf hX (p2 := 5) (v := vI (sI s 304 i1)) rfl rfl (hc3 i1 hi1) rfl rfl rfl ?_
  obtain ⟨s1, hs1, h⟩ := bs_some h
  refine r_pfI hX (p2 := 8) rfl rfl (hc3 i0 hi0) rfl rfl rfl rfl rfl rfl hs1 ?_
  refine r_aload_n hX (p2 := 9) rfl rfl rfl ⟨_, Or.inl rfl⟩ ?_
  refine r_gf hX (p2 := 12) (v := vR (ca 300 i1)) rfl rfl (hc3 i1 hi1) rfl rfl rfl ?_
  refine r_iconst hX (p2 := 13) rfl rfl rfl ?_
  refine r_aload_n hX (p2 := 14) rfl rfl rfl ⟨_, Or.inl rfl⟩ ?_
  refine r_gf hX (p2 := 17) (v := vR (ca 300 i0)) rfl rfl (hc3 i0 hi0) rfl rfl rfl ?_
  refine r_iconst hX (p2 := 18) rfl rfl rfl ?_
  refine r_bipush hX (p2 := 20) rfl rfl rfl ?_
  obtain ⟨s2, hs2, h⟩ := bs_some h
  refine r_copyI hX (p2 := 23) rfl rfl (by omega) (ha300 i1 hi1) (ha300 i0 hi0) rfl rfl rfl rfl hs2 ?_
  refine r_aload_n hX (p2 := 24) rfl rfl rfl ⟨_, Or.inl rfl⟩ ?_
  refine r_gf hX (p2 := 27) (v := vR (ca 301 i1)) rfl rfl (hc3 i1 hi1) rfl rfl rfl ?_
  refine r_iconst hX (p2 := 28) rfl rfl rfl ?_
  refine r_aload_n hX (p2 := 29) rfl rfl rfl ⟨_, Or.inl rfl⟩ ?_
  refine r_gf hX (p2 := 32) (v := vR (ca 301 i0)) rfl rfl (hc3 i0 hi0) rfl rfl rfl ?_
  refine r_iconst hX (p2 := 33) rfl rfl rfl ?_
  refine r_bipush hX (p2 := 35) rfl rfl rfl ?_
  obtain ⟨s3, hs3, h⟩ := bs_some h
  refine r_copyF hX (p2 := 38) rfl rfl (by omega) (ha301 i1 hi1) (ha301 i0 hi0) rfl rfl rfl rfl hs3 ?_
  refine r_aload_n hX (p2 := 39) rfl rfl rfl ⟨_, Or.inl rfl⟩ ?_
  refine r_gf hX (p2 := 42) (v := vR (ca 302 i1)) rfl rfl (hc3 i1 hi1) rfl rfl rfl ?_
  refine r_iconst hX (p2 := 43) rfl rfl rfl ?_
  refine r_aload_n hX (p2 := 44) rfl rfl rfl ⟨_, Or.inl rfl⟩ ?_
  refine r_gf hX (p2 := 47) (v := vR (ca 302 i0)) rfl rfl (hc3 i0 hi0) rfl rfl rfl ?_
  refine r_iconst hX (p2 := 48) rfl rfl rfl ?_
  refine r_bipush hX (p2 := 50) rfl rfl rfl ?_
  obtain ⟨s4, hs4, h⟩ := bs_some h
  refine r_copyI hX (p2 := 53) rfl rfl (by omega) (ha302 i1 hi1) (ha302 i0 hi0) rfl rfl rfl rfl hs4 ?_
  refine r_aload_n hX (p2 := 54) rfl rfl rfl ⟨_, Or.inl rfl⟩ ?_
  refine r_gf hX (p2 := 57) (v := vR (ca 303 i1)) rfl rfl (hc3 i1 hi1) rfl rfl rfl ?_
  refine r_iconst hX (p2 := 58) rfl rfl rfl ?_
  refine r_aload_n hX (p2 := 59) rfl rfl rfl ⟨_, Or.inl rfl⟩ ?_
  refine r_gf hX (p2 := 62) (v := vR (ca 303 i0)) rfl rfl (hc3 i0 hi0) rfl rfl rfl ?_
  refine r_iconst hX (p2 := 63) rfl rfl rfl ?_
  refine r_bipush hX (p2 := 65) rfl rfl rfl ?_
  obtain ⟨s5, hs5, h⟩ := bs_some h
  refine r_copyF hX (p2 := 68) rfl rfl (by omega) (ha303 i1 hi1) (ha303 i0 hi0) rfl rfl rfl rfl hs5 ?_
  exact r_return hX rfl rfl (eU_ok h)
noncomputable def f_X5_template (a1 : Int) (s : pS) : Option ((Int ⊕ Nat) × pS) := (f_X5_isAxis a1 s).bind (fun q1 => (if q1.1 ≠ 0 then (f_X4_readText q1.2).bind (fun q2 => (f_X4_forgetText q2.2).bind (fun q3 => (if q2.1 ≠ 0 then ck (0 ≤ a1 ∧ a1 < 2) ((f_X3_copyFrom a1.toNat 2 q3).bind (fun q5 => some (Sum.inl (sI q5 304 2), q5))) else bs (wI q3 505 0 (sI q3 401 0)) (fun s6 => some (Sum.inr 0, wN s6))))) else some (Sum.inr 0, wN q1.2)))
set_option maxRecDepth 10000 in
theorem c_X5_template (xs : Nat → Int) (e : Nat) (a1 : Int) (s : pS) (q : (Int ⊕ Nat) × pS) (h : f_X5_template a1 s = some q) : pCall pm_tx 1001 xs pm_P (e + 9 + 1) 75 [vR (cc 5 0), vI a1] (pW s) (oTI q.1) (pW q.2) := by
  refine pCall_of mX5_template rfl rfl (fun X hX => ?_)
  show X [some (vR (cc 5 0)), some (vI a1), none] [] 0 (pW s)
  replace hX : pm_clo 1001 xs (pCall pm_tx 1001 xs pm_P (e + 9)) (e + 9) mX5_template (eTI q) X := hX
  unfold f_X5_template at h
  refine r_iload_n hX (p2 := 1) rfl rfl rfl ?_
  obtain ⟨q1, hq1, h⟩ := bd_some h
  refine r_calls0 hX (p2 := 4) (v := some (vI q1.1)) (as := [vI a1]) (r := []) (st2 := [vI q1.1]) rfl rfl rfl rfl rfl rfl (c_X5_isAxis xs (e + 8) a1 s q1 hq1) ?_
  refine r_if hX (p2 := 17) (p3 := 7) (P := q1.1 ≠ 0) rfl (by decide) rfl rfl (fun p8 => ?_) (fun p8 => ?_)
  · have h := it_pos h p8
    refine r_aload_n hX (p2 := 18) rfl rfl rfl ⟨_, Or.inl rfl⟩ ?_
    refine r_gf hX (p2 := 21) (v := vR (cc 4 0)) rfl rfl (hc5 0 (by decide)) rfl rfl rfl ?_
    obtain ⟨q2, hq2, h⟩ := bd_some h
    refine r_callv hX (p2 := 24) (v := some (vI q2.1)) (as := []) (r := []) (st2 := [vI q2.1]) rfl rfl rfl rfl rfl (hc4 0 (by decide)) rfl rfl (c_X4_readText xs e q1.2 q2 hq2) ?_
    refine r_istore_n hX (p2 := 25) (ls2 := [some (vR (cc 5 0)), some (vI a1), some (vI q2.1)]) rfl rfl rfl rfl ?_
    refine r_aload_n hX (p2 := 26) rfl rfl rfl ⟨_, Or.inl rfl⟩ ?_
    refine r_gf hX (p2 := 29) (v := vR (cc 4 0)) rfl rfl (hc5 0 (by decide)) rfl rfl rfl ?_
    obtain ⟨q3, hq3, h⟩ := bd_some h
    refine r_callv hX (p2 := 32) (v := none) (as := []) (r := []) (st2 := []) rfl rfl rfl rfl rfl (hc4 0 (by decide)) rfl rfl (c_X4_forgetText xs (e + 8) q2.2 q3 hq3) ?_
    refine r_iload_n hX (p2 := 33) rfl rfl rfl ?_
    refine r_if hX (p2 := 57) (p3 := 36) (P := q2.1 ≠ 0) rfl (by decide) rfl rfl (fun p7 => ?_) (fun p7 => ?_)
    · have h := it_pos h p7
      refine r_aload_n hX (p2 := 58) rfl rfl rfl ⟨_, Or.inl rfl⟩ ?_
      refine r_gf hX (p2 := 61) (v := vR (cr 501)) rfl rfl (hc5 0 (by decide)) rfl rfl rfl ?_
      refine r_iload_n hX (p2 := 62) rfl rfl rfl ?_
      obtain ⟨c4, h⟩ := ck_some h
      refine r_aaload hX (p2 := 63) rfl rfl hr501 rfl c4 (y := cc 0 a1.toNat) rfl ?_
      refine r_gf hX (p2 := 66) (v := vR (cc 3 a1.toNat)) rfl rfl (hc0 a1.toNat (tn_lt c4)) rfl rfl rfl ?_
      refine r_aload_n hX (p2 := 67) rfl rfl rfl ⟨_, Or.inl rfl⟩ ?_
      refine r_gf hX (p2 := 70) (v := vR (cc 4 0)) rfl rfl (hc5 0 (by decide)) rfl rfl rfl ?_
      refine r_gf hX (p2 := 73) (v := vR (cc 3 2)) rfl rfl (hc4 0 (by decide)) rfl rfl rfl ?_
      obtain ⟨q5, hq5, h⟩ := bd_some h
      refine r_callv hX (p2 := 76) (v := none) (as := [vR (cc 3 2)]) (r := []) (st2 := []) rfl rfl rfl rfl rfl (hc3 a1.toNat (Nat.lt_succ_of_lt (tn_lt c4))) rfl rfl (c_X3_copyFrom xs (e + 7) a1.toNat 2 (Nat.lt_succ_of_lt (tn_lt c4)) (by decide) q3 q5 hq5) ?_
      refine r_aload_n hX (p2 := 77) rfl rfl rfl ⟨_, Or.inl rfl⟩ ?_
      refine r_gf hX (p2 := 80) (v := vR (cc 4 0)) rfl rfl (hc5 0 (by decide)) rfl rfl rfl ?_
      refine r_gf hX (p2 := 83) (v := vR (cc 3 2)) rfl rfl (hc4 0 (by decide)) rfl rfl rfl ?_
      refine r_gf hX (p2 := 86) (v := vI (sI q5 304 2)) rfl rfl (hc3 2 (by decide)) rfl rfl rfl ?_
      exact r_iretI hX rfl rfl (eTI_ok h)
    · have h := it_neg h p7
      refine r_aload_n hX (p2 := 37) rfl rfl rfl ⟨_, Or.inl rfl⟩ ?_
      refine r_aload_n hX (p2 := 38) rfl rfl rfl ⟨_, Or.inl rfl⟩ ?_
      refine r_gf hX (p2 := 41) (v := vR (cc 4 0)) rfl rfl (hc5 0 (by decide)) rfl rfl rfl ?_
      refine r_gf hX (p2 := 44) (v := vI (sI q3 401 0)) rfl rfl (hc4 0 (by decide)) rfl rfl rfl ?_
      obtain ⟨s6, hs6, h⟩ := bs_some h
      refine r_pfI hX (p2 := 47) rfl rfl (hc5 0 (by decide)) rfl rfl rfl rfl rfl rfl hs6 ?_
      exact r_throw hX rfl (by omega) rfl (eTI_no h)
  · have h := it_neg h p8
    exact r_throw hX rfl (by omega) rfl (eTI_no h)
noncomputable def f_L_template (a1 : Int) (s : pS) : Option (Int × pS) := (f_X5_template a1 s).bind (fun q1 => (sel q1.1 (fun r2 => bs (wA q1.2 700 0 (pm_up (sA q1.2 700 0) 0 r2)) (fun s4 => some (0, s4))) (fun e3 => (if e3 = 0 then some (1, q1.2) else none))))
set_option maxRecDepth 10000 in
theorem c_L_template (xs : Nat → Int) (e : Nat) (a1 : Int) (s : pS) (q : Int × pS) (h : f_L_template a1 s = some q) : pCall pm_tx 1001 xs pm_P (e + 10 + 1) 168 [vR (cc 5 0), vI a1, vR (ca 700 0)] (pW s) (.inl (some (vI q.1))) (pW q.2) := by
  refine pCall_of mL_template rfl rfl (fun X hX => ?_)
  show X [some (vR (cc 5 0)), some (vI a1), some (vR (ca 700 0)), none] [] 0 (pW s)
  replace hX : pm_clo 1001 xs (pCall pm_tx 1001 xs pm_P (e + 10)) (e + 10) mL_template (eI q) X := hX
  unfold f_L_template at h
  refine r_aload_n hX (p2 := 1) rfl rfl rfl ⟨_, Or.inl rfl⟩ ?_
  refine r_iconst hX (p2 := 2) rfl rfl rfl ?_
  refine r_aload_n hX (p2 := 3) rfl rfl rfl ⟨_, Or.inl rfl⟩ ?_
  refine r_iload_n hX (p2 := 4) rfl rfl rfl ?_
  obtain ⟨q1, hq1, h⟩ := bd_some h
  have hcq1 := (c_X5_template xs e a1 s q1 hq1)
  rcases hvq1 : q1.1 with r2 | e3
  · rw [hvq1] at h hcq1
    refine r_callv hX (p2 := 7) (v := some (vI r2)) (as := [vI a1]) (r := [vI 0, vR (ca 700 0)]) (st2 := [vI r2, vI 0, vR (ca 700 0)]) rfl rfl rfl rfl rfl (hc5 0 (by decide)) rfl rfl hcq1 ?_
    have h := sel_l h
    refine r_i2l hX (p2 := 8) rfl rfl ?_
    obtain ⟨s4, hs4, h⟩ := bs_some h
    refine r_lastore hX (p2 := 9) (j := 0) rfl rfl (ha700 0 (by decide)) rfl rfl ⟨by decide, by decide⟩ rfl hs4 ?_
    refine r_goto hX (p2 := 15) rfl (by decide) ?_
    refine r_iconst hX (p2 := 16) rfl rfl rfl ?_
    exact r_iretI hX rfl rfl (eI_ok h)
  · rw [hvq1] at h hcq1
    have h := sel_r h
    by_cases p5 : e3 = 0
    · have h := it_pos h p5
      subst p5
      refine r_callt hX (p2 := 12) (as := [vI a1]) (r := [vI 0, vR (ca 700 0)]) rfl rfl rfl rfl (hc5 0 (by decide)) rfl hcq1 rfl rfl ?_
      refine r_astore_n hX (p2 := 13) (ls2 := [some (vR (cc 5 0)), some (vI a1), some (vR (ca 700 0)), some (vX 1)]) rfl rfl ⟨0, Or.inr rfl⟩ rfl rfl ?_
      refine r_iconst hX (p2 := 14) rfl rfl rfl ?_
      exact r_iretI hX rfl rfl (eI_ok h)
    have h := it_neg h p5
    cases h
noncomputable def f_X6_isAxis_14 (y0 : Int) (s : pS) : Option (Int × pS) := ck (y0 = 0 ∨ y0 = 1) (some (y0, s))
set_option maxRecDepth 10000 in
theorem t_X6_isAxis_14 (xs : Nat → Int) (e : Nat) (q : Int × pS) (X : List (Option pV) → List pV → Nat → pH → Prop) (hX : pm_clo 1001 xs (pCall pm_tx 1001 xs pm_P e) e mX6_isAxis (eI q) X) : ∀  (y0 : Int) (d0 : Option pV) (s : pS), f_X6_isAxis_14 y0 s = some q → X [d0] [vI y0] 14 (pW s) := by
  intro y0 d0 s h
  unfold f_X6_isAxis_14 at h
  obtain ⟨c1, h⟩ := ck_some h
  exact r_iretZ hX rfl rfl c1 (eI_ok h)
noncomputable def f_X6_isAxis_9 (s : pS) : Option (Int × pS) := f_X6_isAxis_14 1 s
set_option maxRecDepth 10000 in
theorem t_X6_isAxis_9 (xs : Nat → Int) (e : Nat) (q : Int × pS) (X : List (Option pV) → List pV → Nat → pH → Prop) (hX : pm_clo 1001 xs (pCall pm_tx 1001 xs pm_P e) e mX6_isAxis (eI q) X) : ∀  (d0 : Option pV) (s : pS), f_X6_isAxis_9 s = some q → X [d0] [] 9 (pW s) := by
  intro d0 s h
  unfold f_X6_isAxis_9 at h
  refine r_iconst hX (p2 := 10) rfl rfl rfl ?_
  refine r_goto hX (p2 := 14) rfl (by decide) ?_
  exact t_X6_isAxis_14 xs e q X hX 1 d0 s h
noncomputable def f_X6_isAxis (a0 : Int) (s : pS) : Option (Int × pS) := (if a0 = 0 then f_X6_isAxis_9 s else (if a0 ≠ 1 then f_X6_isAxis_14 0 s else f_X6_isAxis_9 s))
set_option maxRecDepth 10000 in
theorem c_X6_isAxis (xs : Nat → Int) (e : Nat) (a0 : Int) (s : pS) (q : Int × pS) (h : f_X6_isAxis a0 s = some q) : pCall pm_tx 1001 xs pm_P (e + 1) 101 [vI a0] (pW s) (.inl (some (vI q.1))) (pW q.2) := by
  refine pCall_of mX6_isAxis rfl rfl (fun X hX => ?_)
  show X [some (vI a0)] [] 0 (pW s)
  replace hX : pm_clo 1001 xs (pCall pm_tx 1001 xs pm_P e) e mX6_isAxis (eI q) X := hX
  unfold f_X6_isAxis at h
  refine r_iload_n hX (p2 := 1) rfl rfl rfl ?_
  refine r_if hX (p2 := 9) (p3 := 4) (P := a0 = 0) rfl (by decide) rfl rfl (fun p2 => ?_) (fun p2 => ?_)
  · have h := it_pos h p2
    exact t_X6_isAxis_9 xs e q X hX (some (vI a0)) s h
  · have h := it_neg h p2
    refine r_iload_n hX (p2 := 5) rfl rfl rfl ?_
    refine r_iconst hX (p2 := 6) rfl rfl rfl ?_
    refine r_icmp hX (p2 := 13) (p3 := 9) (P := a0 ≠ 1) rfl (by decide) rfl rfl (fun p1 => ?_) (fun p1 => ?_)
    · have h := it_pos h p1
      refine r_iconst hX (p2 := 14) rfl rfl rfl ?_
      exact t_X6_isAxis_14 xs e q X hX 0 (some (vI a0)) s h
    · have h := it_neg h p1
      exact t_X6_isAxis_9 xs e q X hX (some (vI a0)) s h
noncomputable def f_X6_fails_33 (y0 : Int) (s : pS) : Option (Int × pS) := ck (y0 = 0 ∨ y0 = 1) (some (y0, s))
set_option maxRecDepth 10000 in
theorem t_X6_fails_33 (xs : Nat → Int) (e : Nat) (q : Int × pS) (X : List (Option pV) → List pV → Nat → pH → Prop) (hX : pm_clo 1001 xs (pCall pm_tx 1001 xs pm_P e) e mX6_fails (eI q) X) : ∀  (y0 : Int) (d0 : Option pV) (d1 : Option pV) (d2 : Option pV) (s : pS), f_X6_fails_33 y0 s = some q → X [d0, d1, d2] [vI y0] 33 (pW s) := by
  intro y0 d0 d1 d2 s h
  unfold f_X6_fails_33 at h
  obtain ⟨c1, h⟩ := ck_some h
  exact r_iretZ hX rfl rfl c1 (eI_ok h)
noncomputable def f_X6_fails_18 (y1 : Int) (s : pS) : Option (Int × pS) := bs (wI s 600 0 y1) (fun s1 => (if (sI s1 600 0) ≤ 0 then f_X6_fails_33 0 s1 else f_X6_fails_33 1 s1))
set_option maxRecDepth 10000 in
theorem t_X6_fails_18 (xs : Nat → Int) (e : Nat) (q : Int × pS) (X : List (Option pV) → List pV → Nat → pH → Prop) (hX : pm_clo 1001 xs (pCall pm_tx 1001 xs pm_P e) e mX6_fails (eI q) X) : ∀  (y1 : Int) (d1 : Option pV) (d2 : Option pV) (s : pS), f_X6_fails_18 y1 s = some q → X [some (vR (cc 6 0)), d1, d2] [vI y1, vR (cc 6 0)] 18 (pW s) := by
  intro y1 d1 d2 s h
  unfold f_X6_fails_18 at h
  obtain ⟨s1, hs1, h⟩ := bs_some h
  refine r_pfI hX (p2 := 21) rfl rfl (hc6 0 (by decide)) rfl rfl rfl rfl rfl rfl hs1 ?_
  refine r_aload_n hX (p2 := 22) rfl rfl rfl ⟨_, Or.inl rfl⟩ ?_
  refine r_gf hX (p2 := 25) (v := vI (sI s1 600 0)) rfl rfl (hc6 0 (by decide)) rfl rfl rfl ?_
  refine r_if hX (p2 := 32) (p3 := 28) (P := (sI s1 600 0) ≤ 0) rfl (by decide) rfl rfl (fun p2 => ?_) (fun p2 => ?_)
  · have h := it_pos h p2
    refine r_iconst hX (p2 := 33) rfl rfl rfl ?_
    exact t_X6_fails_33 xs e q X hX 0 (some (vR (cc 6 0))) d1 d2 s1 h
  · have h := it_neg h p2
    refine r_iconst hX (p2 := 29) rfl rfl rfl ?_
    refine r_goto hX (p2 := 33) rfl (by decide) ?_
    exact t_X6_fails_33 xs e q X hX 1 (some (vR (cc 6 0))) d1 d2 s1 h
noncomputable def f_X6_fails (a1 : Int) (a2 : Int) (s : pS) : Option (Int × pS) := (if a1 = 0 then (if a2 = 0 then f_X6_fails_18 0 s else f_X6_fails_18 2 s) else f_X6_fails_18 1 s)
set_option maxRecDepth 10000 in
theorem c_X6_fails (xs : Nat → Int) (e : Nat) (a1 : Int) (a2 : Int) (s : pS) (q : Int × pS) (h : f_X6_fails a1 a2 s = some q) : pCall pm_tx 1001 xs pm_P (e + 1) 100 [vR (cc 6 0), vI a1, vI a2] (pW s) (.inl (some (vI q.1))) (pW q.2) := by
  refine pCall_of mX6_fails rfl rfl (fun X hX => ?_)
  show X [some (vR (cc 6 0)), some (vI a1), some (vI a2)] [] 0 (pW s)
  replace hX : pm_clo 1001 xs (pCall pm_tx 1001 xs pm_P e) e mX6_fails (eI q) X := hX
  unfold f_X6_fails at h
  refine r_aload_n hX (p2 := 1) rfl rfl rfl ⟨_, Or.inl rfl⟩ ?_
  refine r_iload_n hX (p2 := 2) rfl rfl rfl ?_
  refine r_if hX (p2 := 9) (p3 := 5) (P := a1 = 0) rfl (by decide) rfl rfl (fun p2 => ?_) (fun p2 => ?_)
  · have h := it_pos h p2
    refine r_iload_n hX (p2 := 10) rfl rfl rfl ?_
    refine r_if hX (p2 := 17) (p3 := 13) (P := a2 = 0) rfl (by decide) rfl rfl (fun p1 => ?_) (fun p1 => ?_)
    · have h := it_pos h p1
      refine r_iconst hX (p2 := 18) rfl rfl rfl ?_
      exact t_X6_fails_18 xs e q X hX 0 (some (vI a1)) (some (vI a2)) s h
    · have h := it_neg h p1
      refine r_iconst hX (p2 := 14) rfl rfl rfl ?_
      refine r_goto hX (p2 := 18) rfl (by decide) ?_
      exact t_X6_fails_18 xs e q X hX 2 (some (vI a1)) (some (vI a2)) s h
  · have h := it_neg h p2
    refine r_iconst hX (p2 := 6) rfl rfl rfl ?_
    refine r_goto hX (p2 := 18) rfl (by decide) ?_
    exact t_X6_fails_18 xs e q X hX 1 (some (vI a1)) (some (vI a2)) s h
noncomputable def f_X6_now_24 (y0 : Int) (s : pS) : Option (Int × pS) := some (y0, s)
set_option maxRecDepth 10000 in
theorem t_X6_now_24 (xs : Nat → Int) (e : Nat) (q : Int × pS) (X : List (Option pV) → List pV → Nat → pH → Prop) (hX : pm_clo 1001 xs (pCall pm_tx 1001 xs pm_P e) e mX6_now (eI q) X) : ∀  (y0 : Int) (d0 : Option pV) (s : pS), f_X6_now_24 y0 s = some q → X [d0] [vI y0] 24 (pW s) := by
  intro y0 d0 s h
  unfold f_X6_now_24 at h
  exact r_iretI hX rfl rfl (eI_ok h)
noncomputable def f_X6_now (s : pS) : Option (Int × pS) := (if (sI s 610 0) ≤ (sI s 609 0) then f_X6_now_24 (-1) s else ck (0 ≤ (sI s 609 0) ∧ (sI s 609 0) < 41) (f_X6_now_24 (sA s 602 0 (sI s 609 0).toNat) s))
set_option maxRecDepth 10000 in
theorem c_X6_now (xs : Nat → Int) (e : Nat) (s : pS) (q : Int × pS) (h : f_X6_now s = some q) : pCall pm_tx 1001 xs pm_P (e + 1) 104 [vR (cc 6 0)] (pW s) (.inl (some (vI q.1))) (pW q.2) := by
  refine pCall_of mX6_now rfl rfl (fun X hX => ?_)
  show X [some (vR (cc 6 0))] [] 0 (pW s)
  replace hX : pm_clo 1001 xs (pCall pm_tx 1001 xs pm_P e) e mX6_now (eI q) X := hX
  unfold f_X6_now at h
  refine r_aload_n hX (p2 := 1) rfl rfl rfl ⟨_, Or.inl rfl⟩ ?_
  refine r_gf hX (p2 := 4) (v := vI (sI s 609 0)) rfl rfl (hc6 0 (by decide)) rfl rfl rfl ?_
  refine r_aload_n hX (p2 := 5) rfl rfl rfl ⟨_, Or.inl rfl⟩ ?_
  refine r_gf hX (p2 := 8) (v := vI (sI s 610 0)) rfl rfl (hc6 0 (by decide)) rfl rfl rfl ?_
  refine r_icmp hX (p2 := 23) (p3 := 11) (P := (sI s 610 0) ≤ (sI s 609 0)) rfl (by decide) rfl rfl (fun p2 => ?_) (fun p2 => ?_)
  · have h := it_pos h p2
    refine r_iconst hX (p2 := 24) rfl rfl rfl ?_
    exact t_X6_now_24 xs e q X hX (-1) (some (vR (cc 6 0))) s h
  · have h := it_neg h p2
    refine r_aload_n hX (p2 := 12) rfl rfl rfl ⟨_, Or.inl rfl⟩ ?_
    refine r_gf hX (p2 := 15) (v := vR (ca 602 0)) rfl rfl (hc6 0 (by decide)) rfl rfl rfl ?_
    refine r_aload_n hX (p2 := 16) rfl rfl rfl ⟨_, Or.inl rfl⟩ ?_
    refine r_gf hX (p2 := 19) (v := vI (sI s 609 0)) rfl rfl (hc6 0 (by decide)) rfl rfl rfl ?_
    obtain ⟨c1, h⟩ := ck_some h
    refine r_iaload hX (p2 := 20) (j := (sI s 609 0).toNat) rfl rfl (ha602 0 (by decide)) rfl rfl c1 rfl ?_
    refine r_goto hX (p2 := 24) rfl (by decide) ?_
    exact t_X6_now_24 xs e q X hX (sA s 602 0 (sI s 609 0).toNat) (some (vR (cc 6 0))) s h
noncomputable def f_X6_isLetter_17 (y0 : Int) (s : pS) : Option (Int × pS) := ck (y0 = 0 ∨ y0 = 1) (some (y0, s))
set_option maxRecDepth 10000 in
theorem t_X6_isLetter_17 (xs : Nat → Int) (e : Nat) (q : Int × pS) (X : List (Option pV) → List pV → Nat → pH → Prop) (hX : pm_clo 1001 xs (pCall pm_tx 1001 xs pm_P e) e mX6_isLetter (eI q) X) : ∀  (y0 : Int) (d0 : Option pV) (s : pS), f_X6_isLetter_17 y0 s = some q → X [d0] [vI y0] 17 (pW s) := by
  intro y0 d0 s h
  unfold f_X6_isLetter_17 at h
  obtain ⟨c1, h⟩ := ck_some h
  exact r_iretZ hX rfl rfl c1 (eI_ok h)
noncomputable def f_X6_isLetter_16 (s : pS) : Option (Int × pS) := f_X6_isLetter_17 0 s
set_option maxRecDepth 10000 in
theorem t_X6_isLetter_16 (xs : Nat → Int) (e : Nat) (q : Int × pS) (X : List (Option pV) → List pV → Nat → pH → Prop) (hX : pm_clo 1001 xs (pCall pm_tx 1001 xs pm_P e) e mX6_isLetter (eI q) X) : ∀  (d0 : Option pV) (s : pS), f_X6_isLetter_16 s = some q → X [d0] [] 16 (pW s) := by
  intro d0 s h
  unfold f_X6_isLetter_16 at h
  refine r_iconst hX (p2 := 17) rfl rfl rfl ?_
  exact t_X6_isLetter_17 xs e q X hX 0 d0 s h
noncomputable def f_X6_isLetter (a0 : Int) (s : pS) : Option (Int × pS) := (if a0 < 97 then f_X6_isLetter_16 s else (if 122 < a0 then f_X6_isLetter_16 s else f_X6_isLetter_17 1 s))
set_option maxRecDepth 10000 in
theorem c_X6_isLetter (xs : Nat → Int) (e : Nat) (a0 : Int) (s : pS) (q : Int × pS) (h : f_X6_isLetter a0 s = some q) : pCall pm_tx 1001 xs pm_P (e + 1) 106 [vI a0] (pW s) (.inl (some (vI q.1))) (pW q.2) := by
  refine pCall_of mX6_isLetter rfl rfl (fun X hX => ?_)
  show X [some (vI a0)] [] 0 (pW s)
  replace hX : pm_clo 1001 xs (pCall pm_tx 1001 xs pm_P e) e mX6_isLetter (eI q) X := hX
  unfold f_X6_isLetter at h
  refine r_iload_n hX (p2 := 1) rfl rfl rfl ?_
  refine r_bipush hX (p2 := 3) rfl rfl rfl ?_
  refine r_icmp hX (p2 := 16) (p3 := 6) (P := a0 < 97) rfl (by decide) rfl rfl (fun p2 => ?_) (fun p2 => ?_)
  · have h := it_pos h p2
    exact t_X6_isLetter_16 xs e q X hX (some (vI a0)) s h
  · have h := it_neg h p2
    refine r_iload_n hX (p2 := 7) rfl rfl rfl ?_
    refine r_bipush hX (p2 := 9) rfl rfl rfl ?_
    refine r_icmp hX (p2 := 16) (p3 := 12) (P := 122 < a0) rfl (by decide) rfl rfl (fun p1 => ?_) (fun p1 => ?_)
    · have h := it_pos h p1
      exact t_X6_isLetter_16 xs e q X hX (some (vI a0)) s h
    · have h := it_neg h p1
      refine r_iconst hX (p2 := 13) rfl rfl rfl ?_
      refine r_goto hX (p2 := 17) rfl (by decide) ?_
      exact t_X6_isLetter_17 xs e q X hX 1 (some (vI a0)) s h
noncomputable def f_X6_word_58 (K7 : Int → Int → Int → pS → Option (Int × pS)) (K75 : Int → Int → pS → Option (Int × pS)) (x1 : Int) (x3 : Int) (x4 : Int) (y0 : Int) (s : pS) : Option (Int × pS) := ck (inR ((sI s 609 0) + 1)) (bs (wI s 609 0 ((sI s 609 0) + 1)) (fun s2 => ck (inR (x4 + 1)) (K7 y0 x3 (x4 + 1) s2)))
set_option maxRecDepth 10000 in
theorem t_X6_word_58 (xs : Nat → Int) (e : Nat) (q : Int × pS) (X : List (Option pV) → List pV → Nat → pH → Prop) (hX : pm_clo 1001 xs (pCall pm_tx 1001 xs pm_P (e + 1)) (e + 1) mX6_word (eL q) X) (K7 : Int → Int → Int → pS → Option (Int × pS)) (K75 : Int → Int → pS → Option (Int × pS)) (hK7 : ∀ (x1 : Int) (x3 : Int) (x4 : Int) (s : pS), K7 x1 x3 x4 s = some q → X [some (vR (cc 6 0)), some (vL x1), none, some (vI x3), some (vI x4)] [] 7 (pW s)) (hK75 : ∀ (x1 : Int) (x3 : Int) (d0 : Option pV) (d4 : Option pV) (s : pS), K75 x1 x3 s = some q → X [d0, some (vL x1), none, some (vI x3), d4] [] 75 (pW s)) : ∀  (x1 : Int) (x3 : Int) (x4 : Int) (y0 : Int) (s : pS), f_X6_word_58 K7 K75 x1 x3 x4 y0 s = some q → X [some (vR (cc 6 0)), some (vL x1), none, some (vI x3), some (vI x4)] [vL y0] 58 (pW s) := by
  intro x1 x3 x4 y0 s h
  unfold f_X6_word_58 at h
  refine r_lstore_n hX (p2 := 59) (ls2 := [some (vR (cc 6 0)), some (vL y0), none, some (vI x3), some (vI x4)]) rfl rfl rfl rfl ?_
  refine r_aload_n hX (p2 := 60) rfl rfl rfl ⟨_, Or.inl rfl⟩ ?_
  refine r_dup hX (p2 := 61) rfl rfl rfl ?_
  refine r_gf hX (p2 := 64) (v := vI (sI s 609 0)) rfl rfl (hc6 0 (by decide)) rfl rfl rfl ?_
  refine r_iconst hX (p2 := 65) rfl rfl rfl ?_
  obtain ⟨c1, h⟩ := ck_some h
  refine r_iadd hX (p2 := 66) rfl rfl c1 ?_
  obtain ⟨s2, hs2, h⟩ := bs_some h
  refine r_pfI hX (p2 := 69) rfl rfl (hc6 0 (by decide)) rfl rfl rfl rfl rfl rfl hs2 ?_
  obtain ⟨c3, h⟩ := ck_some h
  refine r_iinc hX (p2 := 72) (ls2 := [some (vR (cc 6 0)), some (vL y0), none, some (vI x3), some (vI (x4 + 1))]) rfl rfl rfl rfl c3 rfl ?_
  refine r_goto hX (p2 := 7) rfl (by decide) ?_
  exact hK7 y0 x3 (x4 + 1) s2 h
noncomputable def f_X6_word_29 (K7 : Int → Int → Int → pS → Option (Int × pS)) (K75 : Int → Int → pS → Option (Int × pS)) (x1 : Int) (x4 : Int) (y0 : Int) (s : pS) : Option (Int × pS) := (if y0 = 0 then ck (inL (x1 * 32)) (ck (0 ≤ (sI s 609 0) ∧ (sI s 609 0) < 41) (ck (inL ((x1 * 32) + (sA s 602 0 (sI s 609 0).toNat))) (ck (inL (((x1 * 32) + (sA s 602 0 (sI s 609 0).toNat)) - 96)) (f_X6_word_58 K7 K75 x1 y0 x4 (((x1 * 32) + (sA s 602 0 (sI s 609 0).toNat)) - 96) s)))) else f_X6_word_58 K7 K75 x1 y0 x4 0 s)
set_option maxRecDepth 10000 in
theorem t_X6_word_29 (xs : Nat → Int) (e : Nat) (q : Int × pS) (X : List (Option pV) → List pV → Nat → pH → Prop) (hX : pm_clo 1001 xs (pCall pm_tx 1001 xs pm_P (e + 1)) (e + 1) mX6_word (eL q) X) (K7 : Int → Int → Int → pS → Option (Int × pS)) (K75 : Int → Int → pS → Option (Int × pS)) (hK7 : ∀ (x1 : Int) (x3 : Int) (x4 : Int) (s : pS), K7 x1 x3 x4 s = some q → X [some (vR (cc 6 0)), some (vL x1), none, some (vI x3), some (vI x4)] [] 7 (pW s)) (hK75 : ∀ (x1 : Int) (x3 : Int) (d0 : Option pV) (d4 : Option pV) (s : pS), K75 x1 x3 s = some q → X [d0, some (vL x1), none, some (vI x3), d4] [] 75 (pW s)) : ∀  (x1 : Int) (x4 : Int) (y0 : Int) (d3 : Option pV) (s : pS), f_X6_word_29 K7 K75 x1 x4 y0 s = some q → X [some (vR (cc 6 0)), some (vL x1), none, d3, some (vI x4)] [vI y0] 29 (pW s) := by
  intro x1 x4 y0 d3 s h
  unfold f_X6_word_29 at h
  refine r_istore_n hX (p2 := 30) (ls2 := [some (vR (cc 6 0)), some (vL x1), none, some (vI y0), some (vI x4)]) rfl rfl rfl rfl ?_
  refine r_iload_n hX (p2 := 31) rfl rfl rfl ?_
  refine r_if hX (p2 := 38) (p3 := 34) (P := y0 = 0) rfl (by decide) rfl rfl (fun p5 => ?_) (fun p5 => ?_)
  · have h := it_pos h p5
    refine r_lload_n hX (p2 := 39) rfl rfl rfl ?_
    refine r_ldc2 hX (p2 := 42) (x := 32) rfl rfl rfl rfl ?_
    obtain ⟨c1, h⟩ := ck_some h
    refine r_lmul hX (p2 := 43) rfl rfl c1 ?_
    refine r_aload_n hX (p2 := 44) rfl rfl rfl ⟨_, Or.inl rfl⟩ ?_
    refine r_gf hX (p2 := 47) (v := vR (ca 602 0)) rfl rfl (hc6 0 (by decide)) rfl rfl rfl ?_
    refine r_aload_n hX (p2 := 48) rfl rfl rfl ⟨_, Or.inl rfl⟩ ?_
    refine r_gf hX (p2 := 51) (v := vI (sI s 609 0)) rfl rfl (hc6 0 (by decide)) rfl rfl rfl ?_
    obtain ⟨c2, h⟩ := ck_some h
    refine r_iaload hX (p2 := 52) (j := (sI s 609 0).toNat) rfl rfl (ha602 0 (by decide)) rfl rfl c2 rfl ?_
    refine r_i2l hX (p2 := 53) rfl rfl ?_
    obtain ⟨c3, h⟩ := ck_some h
    refine r_ladd hX (p2 := 54) rfl rfl c3 ?_
    refine r_ldc2 hX (p2 := 57) (x := 96) rfl rfl rfl rfl ?_
    obtain ⟨c4, h⟩ := ck_some h
    refine r_lsub hX (p2 := 58) rfl rfl c4 ?_
    exact t_X6_word_58 xs e q X hX _ _ hK7 hK75 x1 y0 x4 (((x1 * 32) + (sA s 602 0 (sI s 609 0).toNat)) - 96) s h
  · have h := it_neg h p5
    refine r_lconst hX (p2 := 35) (x := 0) rfl rfl rfl ?_
    refine r_goto hX (p2 := 58) rfl (by decide) ?_
    exact t_X6_word_58 xs e q X hX _ _ hK7 hK75 x1 y0 x4 0 s h
noncomputable def f_X6_word_7 (K75 : Int → Int → pS → Option (Int × pS)) : Nat → Int → Int → Int → pS → Option (Int × pS)
  | 0, _, _, _, _ => none
  | n + 1, x1, x3, x4, s => (f_X6_now s).bind (fun q1 => (f_X6_isLetter q1.1 q1.2).bind (fun q2 => (if q2.1 = 0 then K75 x1 x3 q2.2 else (if x4 ≤ 11 then f_X6_word_29 (f_X6_word_7 K75 n) K75 x1 x4 0 q2.2 else f_X6_word_29 (f_X6_word_7 K75 n) K75 x1 x4 1 q2.2))))
set_option maxRecDepth 10000 in
theorem t_X6_word_7 (xs : Nat → Int) (e : Nat) (q : Int × pS) (X : List (Option pV) → List pV → Nat → pH → Prop) (hX : pm_clo 1001 xs (pCall pm_tx 1001 xs pm_P (e + 1)) (e + 1) mX6_word (eL q) X) (K75 : Int → Int → pS → Option (Int × pS)) (hK75 : ∀ (x1 : Int) (x3 : Int) (d0 : Option pV) (d4 : Option pV) (s : pS), K75 x1 x3 s = some q → X [d0, some (vL x1), none, some (vI x3), d4] [] 75 (pW s)) : ∀ (n : Nat) (x1 : Int) (x3 : Int) (x4 : Int) (s : pS), f_X6_word_7 K75 n x1 x3 x4 s = some q → X [some (vR (cc 6 0)), some (vL x1), none, some (vI x3), some (vI x4)] [] 7 (pW s) := by
  intro n
  induction n with
  | zero =>
    intro x1 x3 x4 s h
    rw [f_X6_word_7] at h
    cases h
  | succ n ih =>
    intro x1 x3 x4 s h
    rw [f_X6_word_7] at h
    refine r_aload_n hX (p2 := 8) rfl rfl rfl ⟨_, Or.inl rfl⟩ ?_
    obtain ⟨q1, hq1, h⟩ := bd_some h
    refine r_callv hX (p2 := 11) (v := some (vI q1.1)) (as := []) (r := []) (st2 := [vI q1.1]) rfl rfl rfl rfl rfl (hc6 0 (by decide)) rfl rfl (c_X6_now xs e s q1 hq1) ?_
    obtain ⟨q2, hq2, h⟩ := bd_some h
    refine r_calls0 hX (p2 := 14) (v := some (vI q2.1)) (as := [vI q1.1]) (r := []) (st2 := [vI q2.1]) rfl rfl rfl rfl rfl rfl (c_X6_isLetter xs e q1.1 q1.2 q2 hq2) ?_
    refine r_if hX (p2 := 75) (p3 := 17) (P := q2.1 = 0) rfl (by decide) rfl rfl (fun p4 => ?_) (fun p4 => ?_)
    · have h := it_pos h p4
      exact hK75 x1 x3 (some (vR (cc 6 0))) (some (vI x4)) q2.2 h
    · have h := it_neg h p4
      refine r_iload hX (p2 := 19) rfl rfl rfl ?_
      refine r_bipush hX (p2 := 21) rfl rfl rfl ?_
      refine r_icmp hX (p2 := 28) (p3 := 24) (P := x4 ≤ 11) rfl (by decide) rfl rfl (fun p3 => ?_) (fun p3 => ?_)
      · have h := it_pos h p3
        refine r_iconst hX (p2 := 29) rfl rfl rfl ?_
        exact t_X6_word_29 xs e q X hX _ _ ih hK75 x1 x4 0 (some (vI x3)) q2.2 h
      · have h := it_neg h p3
        refine r_iconst hX (p2 := 25) rfl rfl rfl ?_
        refine r_goto hX (p2 := 29) rfl (by decide) ?_
        exact t_X6_word_29 xs e q X hX _ _ ih hK75 x1 x4 1 (some (vI x3)) q2.2 h
noncomputable def f_X6_word_86 (x1 : Int) (y0 : Int) (s : pS) : Option (Int × pS) := some (y0, s)
set_option maxRecDepth 10000 in
theorem t_X6_word_86 (xs : Nat → Int) (e : Nat) (q : Int × pS) (X : List (Option pV) → List pV → Nat → pH → Prop) (hX : pm_clo 1001 xs (pCall pm_tx 1001 xs pm_P (e + 1)) (e + 1) mX6_word (eL q) X) : ∀  (x1 : Int) (y0 : Int) (d0 : Option pV) (d3 : Option pV) (d4 : Option pV) (s : pS), f_X6_word_86 x1 y0 s = some q → X [d0, some (vL x1), none, d3, d4] [vL y0] 86 (pW s) := by
  intro x1 y0 d0 d3 d4 s h
  unfold f_X6_word_86 at h
  exact r_lreturn hX rfl rfl (eL_ok h)
noncomputable def f_X6_word (s : pS) : Option (Int × pS) := f_X6_word_7 (fun x1 x3 s1 => (if x3 = 0 then f_X6_word_86 x1 x1 s1 else f_X6_word_86 x1 (-1) s1)) 400 0 0 0 s
set_option maxRecDepth 10000 in
theorem c_X6_word (xs : Nat → Int) (e : Nat) (s : pS) (q : Int × pS) (h : f_X6_word s = some q) : pCall pm_tx 1001 xs pm_P (e + 1 + 1) 110 [vR (cc 6 0)] (pW s) (.inl (some (vL q.1))) (pW q.2) := by
  refine pCall_of mX6_word rfl rfl (fun X hX => ?_)
  show X [some (vR (cc 6 0)), none, none, none, none] [] 0 (pW s)
  replace hX : pm_clo 1001 xs (pCall pm_tx 1001 xs pm_P (e + 1)) (e + 1) mX6_word (eL q) X := hX
  unfold f_X6_word at h
  refine r_lconst hX (p2 := 1) (x := 0) rfl rfl rfl ?_
  refine r_lstore_n hX (p2 := 2) (ls2 := [some (vR (cc 6 0)), some (vL 0), none, none, none]) rfl rfl rfl rfl ?_
  refine r_iconst hX (p2 := 3) rfl rfl rfl ?_
  refine r_istore_n hX (p2 := 4) (ls2 := [some (vR (cc 6 0)), some (vL 0), none, some (vI 0), none]) rfl rfl rfl rfl ?_
  refine r_iconst hX (p2 := 5) rfl rfl rfl ?_
  refine r_istore hX (p2 := 7) (ls2 := [some (vR (cc 6 0)), some (vL 0), none, some (vI 0), some (vI 0)]) rfl rfl rfl rfl ?_
  refine t_X6_word_7 xs e q X hX _ (fun x1 x3 d0 d4 s1 h => ?_) 400 0 0 0 s h
  refine r_iload_n hX (p2 := 76) rfl rfl rfl ?_
  refine r_if hX (p2 := 85) (p3 := 79) (P := x3 = 0) rfl (by decide) rfl rfl (fun p2 => ?_) (fun p2 => ?_)
  · have h := it_pos h p2
    refine r_lload_n hX (p2 := 86) rfl rfl rfl ?_
    exact t_X6_word_86 xs e q X hX x1 x1 d0 (some (vI x3)) d4 s1 h
  · have h := it_neg h p2
    refine r_ldc2 hX (p2 := 82) (x := -1) rfl rfl rfl rfl ?_
    refine r_goto hX (p2 := 86) rfl (by decide) ?_
    exact t_X6_word_86 xs e q X hX x1 (-1) d0 (some (vI x3)) d4 s1 h
