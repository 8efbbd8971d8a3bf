/-! ===== THE CLASS'S READER, on ===== -/
theorem tx10 : pm_tx 10 = [97, 117, 116, 111] := by decide
theorem tx11 : pm_tx 11 = [97, 120] := by decide
theorem tx12 : pm_tx 12 = [105, 110] := by decide
theorem tx9 : pm_tx 9 = [102, 114] := by decide
theorem tx8 : pm_tx 8 = [109, 97, 120, 40] := by decide
theorem tx7 : pm_tx 7 = [102, 105, 116, 40] := by decide
theorem tx6 : pm_tx 6 = [114, 101, 112, 101, 97, 116, 40] := by decide
theorem Pw_mono (T : Nat → Int) (n : Int) (cs : List Int) (p : Int) : p ≤ (Pw T n cs p).2 := mono_of (Loc_w (Int.le_refl n) cs) p
theorem Pnum_mono (T : Nat → Int) (n p : Int) : p ≤ (Pnum T n p).2 := mono_of (Loc_num (Int.le_refl n)) p
theorem Pplain_mono (T : Nat → Int) (n p : Int) : p ≤ (Pplain T n p).2 := mono_of (Loc_plain (Int.le_refl n)) p
theorem Pshare_mono (T : Nat → Int) (n k : Int) (u : UInt32) (p : Int) : p ≤ (Pshare T n k u p).2 := mono_of (Loc_share (Int.le_refl n)) p
theorem Pt_mono (T : Nat → Int) (n a p : Int) : p ≤ (Pt T n a p).2 := mono_of (Loc_t (Int.le_refl n)) p
theorem Ptrack_mono (T : Nat → Int) (n p : Int) : p ≤ (Ptrack T n p).2 := mono_of (Loc_track (Int.le_refl n)) p
section
variable {b : pS} {T : Nat → Int} {n p k ir fi ti c : Int} {u : UInt32} {D : Dr}
theorem kt_wordP {α : Type} (h : CB b T n) (hp : 0 ≤ p) (i : Nat) {l : List Int} (hl : pm_tx i = l) (hi : l.length < 400) (a : α) : ∃ r1 : Int, f_X4_takeWord i (cS b p k ir fi ti c u D) = some (r1, cS b (Pb (Pw T n l) (fun _ => Pp a) p).2 k ir fi ti c u D) ∧ r1 = rb (Pb (Pw T n l) (fun _ => Pp a) p).1 ∧ (∀ x, (Pb (Pw T n l) (fun _ => Pp a) p).1 = some x → x = a) := by
  have hw := kt_word (k := k) (ir := ir) (fi := fi) (ti := ti) (c := c) (u := u) (D := D) h hp i (by rw [hl]; exact hi)
  rw [hl] at hw
  cases e : (Pw T n l p).1 with
  | none => rw [Pb_none e]; exact ⟨0, by rw [hw, e]; rfl, rfl, fun x hx => by cases hx⟩
  | some y => rw [Pb_some e]; exact ⟨1, by rw [hw, e]; rfl, rfl, fun x hx => (Option.some.inj hx).symm⟩
theorem kt_plain (h : CB b T n) (hp : 0 ≤ p) : ok (f_X4_readPlain (cS b p k ir fi ti c u D)) (fun q => q.1 = rb (Pplain T n p).1 ∧ ∃ k' u', q.2 = cS b (Pplain T n p).2 k' ir fi ti c u' D ∧ ∀ x, (Pplain T n p).1 = some x → (k', u') = x) := by
  unfold f_X4_readPlain
  refine ok_bs ?_
  rw [cS_F405w]
  refine ok_eq (kt_peek h hp) ?_
  unfold Pplain
  by_cases h1 : p < n ∧ T p.toNat = 97
  · rw [Pi_y h1]
    refine ok_neg (show ¬ pkc T n p ≠ 97 from fun q => q ((pkc_eq (by decide)).mpr h1)) (ok_bs ?_)
    rw [cS_I404w]
    obtain ⟨r1, e, e1, e2⟩ := kt_wordP (k := 3) (ir := ir) (fi := fi) (ti := ti) (c := c) (u := FP.fconst0) (D := D) h hp 10 tx10 (by decide) ((3 : Int), FP.fconst0)
    refine ok_eq e (ok_ck (by rw [e1]; exact rb_01 _) (ok_some ⟨e1, _, _, rfl, fun x hx => (e2 x hx).symm⟩))
  · rw [Pi_n h1]
    refine ok_pos (show pkc T n p ≠ 97 from fun q => h1 ((pkc_eq (by decide)).mp q)) ?_
    refine ok_eq (kt_take h hp 109) ?_
    by_cases h2 : p < n ∧ T p.toNat = 109
    · rw [Pc_y h2, Pt_y h2]
      refine ok_pos (rbs ()) (ok_eq (kt_peek h (by show 0 ≤ p + 1; omega)) ?_)
      by_cases h3 : p + 1 < n ∧ T (p + 1).toNat = 97
      · rw [Pi_y h3]
        refine ok_neg (show ¬ pkc T n (p + 1) ≠ 97 from fun q => q ((pkc_eq (by decide)).mpr h3)) (ok_bs ?_)
        rw [cS_I404w]
        obtain ⟨r1, e, e1, e2⟩ := kt_wordP (p := p + 1) (k := 2) (ir := ir) (fi := fi) (ti := ti) (c := c) (u := FP.fconst0) (D := D) h (by omega) 11 tx11 (by decide) ((2 : Int), FP.fconst0)
        refine ok_eq e (ok_ck (by rw [e1]; exact rb_01 _) (ok_some ⟨e1, _, _, rfl, fun x hx => (e2 x hx).symm⟩))
      · rw [Pi_n h3]
        refine ok_pos (show pkc T n (p + 1) ≠ 97 from fun q => h3 ((pkc_eq (by decide)).mp q)) (ok_bs ?_)
        rw [cS_I404w]
        obtain ⟨r1, e, e1, e2⟩ := kt_wordP (p := p + 1) (k := 1) (ir := ir) (fi := fi) (ti := ti) (c := c) (u := FP.fconst0) (D := D) h (by omega) 12 tx12 (by decide) ((1 : Int), FP.fconst0)
        refine ok_eq e (ok_ck (by rw [e1]; exact rb_01 _) (ok_some ⟨e1, _, _, rfl, fun x hx => (e2 x hx).symm⟩))
    · rw [Pc_n h2, Pt_n h2]
      refine ok_neg (rbn (α := Unit)) (ok_bs ?_)
      rw [cS_I404w]
      refine ok_seq (kt_num h hp) (fun q hq => ?_)
      obtain ⟨g1, u', g2, g3⟩ := hq
      refine ok_ck (by rw [g1]; exact rb_01 _) (ok_some ?_)
      cases e : (Pnum T n p).1 with
      | none =>
        rw [Pb_none e]
        exact ⟨by rw [g1, e]; rfl, _, _, g2, fun x hx => by cases hx⟩
      | some y =>
        rw [Pb_some e]
        exact ⟨by rw [g1, e]; rfl, _, _, g2, fun x hx => by rw [g3 y e]; exact Option.some.inj hx⟩
theorem kt_share (h : CB b T n) (hp : 0 ≤ p) : ok (f_X4_readShareSign (cS b p k ir fi ti c u D)) (fun q => q.1 = rb (Pshare T n k u p).1 ∧ ∃ k', q.2 = cS b (Pshare T n k u p).2 k' ir fi ti c u D ∧ ∀ x, (Pshare T n k u p).1 = some x → (k', u) = x) := by
  unfold f_X4_readShareSign f_X4_readShareSign_16 Pshare
  rw [cS_I404]
  refine ok_if (fun h0 => ?_) (fun h0 => ?_)
  · rw [if_pos h0]
    exact ok_some ⟨rfl, _, rfl, fun x hx => Option.some.inj hx⟩
  · rw [if_neg h0]
    refine ok_eq (kt_peek h hp) ?_
    by_cases h1 : p < n ∧ T p.toNat = 102
    · rw [Pi_y h1]
      refine ok_pos (show pkc T n p = 102 from (pkc_eq (by decide)).mpr h1) (ok_bs ?_)
      rw [cS_I404w]
      obtain ⟨r1, e, e1, e2⟩ := kt_wordP (k := 4) (ir := ir) (fi := fi) (ti := ti) (c := c) (u := u) (D := D) h hp 9 tx9 (by decide) ((4 : Int), u)
      refine ok_eq e (ok_ck (by rw [e1]; exact rb_01 _) (ok_some ⟨e1, _, rfl, fun x hx => (e2 x hx).symm⟩))
    · rw [Pi_n h1]
      refine ok_neg (show ¬ pkc T n p = 102 from fun q => h1 ((pkc_eq (by decide)).mp q)) (ok_some ?_)
      exact ⟨rfl, _, rfl, fun x hx => Option.some.inj hx⟩
theorem kt_add (hc : 0 ≤ c) (hc2 : c < 12) (a1 : Int) (a2 : UInt32) (a3 : Int) (a4 : UInt32) : f_X3_add 2 a1 a2 a3 a4 (cS b p k ir fi ti c u D) = some (cS b p k ir fi ti (c + 1) u (upD D c (a1, a2, a3, a4))) := by
  refine of_ok ?_
  unfold f_X3_add f_X3_add_60
  rw [cS_I304]
  refine ok_neg (by omega) (ok_ck ⟨hc, hc2⟩ (ok_bs ?_))
  rw [cS_A300, cS_A300w, cS_I304]
  refine ok_ck ⟨hc, hc2⟩ (ok_bs ?_)
  rw [cS_B301, cS_B301w, cS_I304]
  refine ok_ck ⟨hc, hc2⟩ (ok_bs ?_)
  rw [cS_A302, cS_A302w, cS_I304]
  refine ok_ck ⟨hc, hc2⟩ (ok_bs ?_)
  rw [cS_B303, cS_B303w, cS_I304]
  refine ok_ck (inR_of (by omega)) (ok_bs ?_)
  rw [cS_I304w]
  exact ok_some rfl
/-- what a reading of a track leaves -/
def ctk (b : pS) (ir fi ti c : Int) (D : Dr) (r : Option Tk × Int) (q : Int × pS) : Prop := q.1 = rb r.1 ∧ ∃ k' u' c' D', q.2 = cS b r.2 k' ir fi ti c' u' D' ∧ ∀ t, r.1 = some t → c' = c + 1 ∧ D' = upD D c t
theorem kt_mm (h : CB b T n) (hp : 0 ≤ p) (hc : 0 ≤ c) (hc2 : c < 12) : ok (f_X4_readMinmax (cS b p k ir fi ti c u D)) (ctk b ir fi ti c D (Pmm T n p)) := by
  unfold f_X4_readMinmax f_X4_readMinmax_16 f_X4_readMinmax_60 Pmm
  have hw := kt_word (k := k) (ir := ir) (fi := fi) (ti := ti) (c := c) (u := u) (D := D) h hp 8 (by decide)
  rw [tx8] at hw
  refine ok_eq hw ?_
  have m1 := Pw_mono T n [109, 97, 120, 40] p
  cases e1 : (Pw T n [109, 97, 120, 40] p).1 with
  | none =>
    rw [Pb_none e1]
    exact ok_pos rfl (ok_some ⟨rfl, _, _, _, _, rfl, fun t ht => by cases ht⟩)
  | some x1 =>
  rw [Pb_some e1]
  refine ok_neg (rbs ()) (ok_seq (kt_plain h (by omega)) (fun q hq => ?_))
  obtain ⟨a1, k1, u1, a2, a3⟩ := hq
  have m2 := Pplain_mono T n (Pw T n [109, 97, 120, 40] p).2
  rw [a1, a2]
  cases e2 : (Pplain T n (Pw T n [109, 97, 120, 40] p).2).1 with
  | none =>
    rw [Pb_none e2]
    exact ok_neg (rbn (α := Unit)) (ok_some ⟨rfl, _, _, _, _, rfl, fun t ht => by cases ht⟩)
  | some x2 =>
  have a4 := a3 x2 e2
  rw [Pb_some e2]
  generalize (Pplain T n (Pw T n [109, 97, 120, 40] p).2).2 = p2 at m2 ⊢
  refine ok_pos (rbs ()) (ok_bs (ok_bs (ok_eq (kt_take h (by omega) 44) ?_)))
  rw [cS_I404, cS_F405]
  have m3 := Pt_mono T n 44 p2
  cases e3 : (Pt T n 44 p2).1 with
  | none =>
    rw [Pb_none e3]
    exact ok_pos rfl (ok_some ⟨rfl, _, _, _, _, rfl, fun t ht => by cases ht⟩)
  | some x3 =>
  rw [Pb_some e3]
  generalize (Pt T n 44 p2).2 = p3 at m3 ⊢
  refine ok_neg (rbs ()) (ok_seq (kt_plain h (by omega)) (fun q hq => ?_))
  obtain ⟨b1, k2, u2, b2, b3⟩ := hq
  have m4 := Pplain_mono T n p3
  rw [b1, b2]
  cases e4 : (Pplain T n p3).1 with
  | none =>
    rw [Pb_none e4]
    exact ok_pos rfl (ok_some ⟨rfl, _, _, _, _, rfl, fun t ht => by cases ht⟩)
  | some x4 =>
  have b4 := b3 x4 e4
  rw [Pb_some e4, ← b4]
  generalize (Pplain T n p3).2 = p4 at m4 ⊢
  refine ok_neg (rbs ()) (ok_seq (kt_share h (by omega)) (fun q hq => ?_))
  obtain ⟨d1, k3, d2, d3⟩ := hq
  have m5 := Pshare_mono T n k2 u2 p4
  rw [d1, d2]
  cases e5 : (Pshare T n k2 u2 p4).1 with
  | none =>
    rw [Pb_none e5]
    exact ok_pos rfl (ok_some ⟨rfl, _, _, _, _, rfl, fun t ht => by cases ht⟩)
  | some x5 =>
  have d4 := d3 x5 e5
  rw [Pb_some e5, ← d4]
  generalize (Pshare T n k2 u2 p4).2 = p5 at m5 ⊢
  refine ok_neg (rbs ()) (ok_eq (kt_take h (by omega) 41) ?_)
  cases e6 : (Pt T n 41 p5).1 with
  | none =>
    rw [Pb_none e6]
    exact ok_neg (rbn (α := Unit)) (ok_some ⟨rfl, _, _, _, _, rfl, fun t ht => by cases ht⟩)
  | some x6 =>
  rw [Pb_some e6]
  refine ok_pos (rbs ()) ?_
  rw [cS_I404, cS_F405]
  refine ok_eq (kt_add hc hc2 _ _ _ _) (ok_some ⟨rfl, _, _, _, _, rfl, fun t ht => ⟨rfl, ?_⟩⟩)
  have ht := Option.some.inj ht
  rw [← ht, ← a4]
theorem kt_fit (h : CB b T n) (hp : 0 ≤ p) (hc : 0 ≤ c) (hc2 : c < 12) : ok (f_X4_readFit (cS b p k ir fi ti c u D)) (ctk b ir fi ti c D (Pfit T n p)) := by
  unfold f_X4_readFit f_X4_readFit_25 Pfit
  have hw := kt_word (k := k) (ir := ir) (fi := fi) (ti := ti) (c := c) (u := u) (D := D) h hp 7 (by decide)
  rw [tx7] at hw
  refine ok_eq hw ?_
  have m1 := Pw_mono T n [102, 105, 116, 40] p
  cases e1 : (Pw T n [102, 105, 116, 40] p).1 with
  | none =>
    rw [Pb_none e1]
    exact ok_pos rfl (ok_some ⟨rfl, _, _, _, _, rfl, fun t ht => by cases ht⟩)
  | some x1 =>
  rw [Pb_some e1]
  generalize (Pw T n [102, 105, 116, 40] p).2 = p1 at m1 ⊢
  refine ok_neg (rbs ()) (ok_seq (kt_num h (by omega)) (fun q hq => ?_))
  obtain ⟨a1, u1, a2, a3⟩ := hq
  have m2 := Pnum_mono T n p1
  rw [a1, a2]
  cases e2 : (Pnum T n p1).1 with
  | none =>
    rw [Pb_none e2]
    exact ok_pos rfl (ok_some ⟨rfl, _, _, _, _, rfl, fun t ht => by cases ht⟩)
  | some x2 =>
  have a4 := a3 x2 e2
  rw [Pb_some e2, ← a4]
  generalize (Pnum T n p1).2 = p2 at m2 ⊢
  refine ok_neg (rbs ()) (ok_eq (kt_take h (by omega) 41) ?_)
  cases e6 : (Pt T n 41 p2).1 with
  | none =>
    rw [Pb_none e6]
    exact ok_neg (rbn (α := Unit)) (ok_some ⟨rfl, _, _, _, _, rfl, fun t ht => by cases ht⟩)
  | some x6 =>
  rw [Pb_some e6]
  refine ok_pos (rbs ()) ?_
  rw [cS_F405]
  refine ok_eq (kt_add hc hc2 _ _ _ _) (ok_some ⟨rfl, _, _, _, _, rfl, fun t ht => ⟨rfl, ?_⟩⟩)
  have ht := Option.some.inj ht
  rw [← ht]
theorem kt_end (h : CB b T n) (hp : 0 ≤ p) (hc : 0 ≤ c) (hc2 : c < 12) : ok (f_X4_readTrack_45 (cS b p k ir fi ti c u D)) (ctk b ir fi ti c D (Pend T n k u p)) := by
  unfold f_X4_readTrack_45 f_X4_readTrack_102 Pend
  refine ok_seq (kt_share h hp) (fun q hq => ?_)
  obtain ⟨d1, k3, d2, d3⟩ := hq
  rw [d1, d2]
  cases e5 : (Pshare T n k u p).1 with
  | none =>
    rw [Pb_none e5]
    exact ok_neg (rbn (α := Unit)) (ok_some ⟨rfl, _, _, _, _, rfl, fun t ht => by cases ht⟩)
  | some x5 =>
  have d4 := d3 x5 e5
  rw [Pb_some e5, ← d4]
  refine ok_pos (rbs ()) ?_
  rw [cS_I404, cS_F405]
  refine ok_if (fun hk => ?_) (fun hk => ?_)
  · rw [if_pos (show (k3, u).1 ≠ 4 from hk)]
    refine ok_eq (kt_add hc hc2 _ _ _ _) (ok_some ⟨rfl, _, _, _, _, rfl, fun t ht => ⟨rfl, ?_⟩⟩)
    have ht := Option.some.inj ht
    rw [← ht]
  · rw [if_neg (show ¬ (k3, u).1 ≠ 4 from hk)]
    refine ok_eq (kt_add hc hc2 _ _ _ _) (ok_some ⟨rfl, _, _, _, _, rfl, fun t ht => ⟨rfl, ?_⟩⟩)
    have ht := Option.some.inj ht
    rw [← ht]
theorem kt_track (h : CB b T n) (hp : 0 ≤ p) (hc : 0 ≤ c) (hc2 : c < 12) : ok (f_X4_readTrack (cS b p k ir fi ti c u D)) (ctk b ir fi ti c D (Ptrack T n p)) := by
  unfold f_X4_readTrack Ptrack
  refine ok_eq (kt_peek h hp) ?_
  by_cases h1 : p < n ∧ T p.toNat = 102
  · rw [Pi_y h1]
    refine ok_neg (show ¬ pkc T n p ≠ 102 from fun q => q ((pkc_eq (by decide)).mpr h1)) ?_
    refine ok_seq (kt_fit h hp hc hc2) (fun q hq => ok_ck (by rw [hq.1]; exact rb_01 _) (ok_some hq))
  · rw [Pi_n h1]
    refine ok_pos (show pkc T n p ≠ 102 from fun q => h1 ((pkc_eq (by decide)).mp q)) ?_
    refine ok_seq (kt_plain h hp) (fun q hq => ?_)
    obtain ⟨b1, k2, u2, b2, b3⟩ := hq
    have m4 := Pplain_mono T n p
    rw [b1, b2]
    cases e4 : (Pplain T n p).1 with
    | none =>
      rw [Pb_none e4]
      exact ok_neg (rbn (α := Unit)) (ok_some ⟨rfl, _, _, _, _, rfl, fun t ht => by cases ht⟩)
    | some x4 =>
    have b4 := b3 x4 e4
    rw [Pb_some e4, ← b4]
    generalize (Pplain T n p).2 = p4 at m4 ⊢
    refine ok_pos (rbs ()) ?_
    rw [cS_I404]
    refine ok_if (fun hk => ?_) (fun hk => ?_)
    · rw [if_pos (show (k2, u2).1 ≠ 1 from hk)]
      exact kt_end h (by omega) hc hc2
    · rw [if_neg (show ¬ (k2, u2).1 ≠ 1 from hk)]
      refine ok_eq (kt_peek h (by omega)) ?_
      by_cases h2 : p4 < n ∧ T p4.toNat = 109
      · rw [Pi_y h2]
        refine ok_neg (show ¬ pkc T n p4 ≠ 109 from fun q => q ((pkc_eq (by decide)).mpr h2)) ?_
        refine ok_seq (kt_mm h (by omega) hc hc2) (fun q hq => ok_ck (by rw [hq.1]; exact rb_01 _) (ok_some hq))
      · rw [Pi_n h2]
        refine ok_pos (show pkc T n p4 ≠ 109 from fun q => h2 ((pkc_eq (by decide)).mp q)) ?_
        exact kt_end h (by omega) hc hc2
end
