/-! ===== THE REFERENCE'S READER: minmax and tracks ===== -/
theorem Pplain_q (T : Nat → Int) (n p : Int) (x : Int × UInt32) (h : (Pplain T n p).1 = some x) : 0 ≤ x.1 ∧ x.1 ≤ 3 ∧ (x.1 ≠ 0 → x.2 = FP.fconst0) ∧ nn x.2 ∧ fb 14 x.2 := by
  have key : ∀ (l : List Int) (p : Int) (k : Int), 0 ≤ k → k ≤ 3 → (Pb (Pw T n l) (fun _ => Pp (k, FP.fconst0)) p).1 = some x → 0 ≤ x.1 ∧ x.1 ≤ 3 ∧ (x.1 ≠ 0 → x.2 = FP.fconst0) ∧ nn x.2 ∧ fb 14 x.2 := by
    intro l p k h1 h2 h
    cases e : (Pw T n l p).1 with
    | none => rw [Pb_none e] at h; cases h
    | some y =>
      rw [Pb_some e] at h
      have h := Option.some.inj h
      rw [← h]
      exact ⟨h1, h2, fun _ => rfl, nn0, fb0 14⟩
  unfold Pplain at h
  by_cases h1 : p < n ∧ T p.toNat = 97
  · rw [Pi_y h1] at h
    exact key _ _ _ (by decide) (by decide) h
  · rw [Pi_n h1] at h
    by_cases h2 : p < n ∧ T p.toNat = 109
    · rw [Pc_y h2] at h
      by_cases h3 : p + 1 < n ∧ T (p + 1).toNat = 97
      · rw [Pi_y h3] at h
        exact key _ _ _ (by decide) (by decide) h
      · rw [Pi_n h3] at h
        exact key _ _ _ (by decide) (by decide) h
    · rw [Pc_n h2] at h
      cases e : (Pnum T n p).1 with
      | none => rw [Pb_none e] at h; cases h
      | some y =>
        rw [Pb_some e] at h
        have h := Option.some.inj h
        have hq := Pnum_q T n p y e
        rw [← h]
        exact ⟨show (0 : Int) ≤ 0 by decide, show (0 : Int) ≤ 3 by decide, fun q => absurd rfl q, hq.1, hq.2⟩
theorem Pshare_q (T : Nat → Int) (n k : Int) (u : UInt32) (p : Int) (x : Int × UInt32) (h : (Pshare T n k u p).1 = some x) : x.2 = u ∧ (x.1 = k ∨ x.1 = 4) := by
  unfold Pshare at h
  split at h
  · have h := Option.some.inj h
    rw [← h]
    exact ⟨rfl, Or.inl rfl⟩
  · by_cases h1 : p < n ∧ T p.toNat = 102
    · rw [Pi_y h1] at h
      cases e : (Pw T n [102, 114] p).1 with
      | none => rw [Pb_none e] at h; cases h
      | some y =>
        rw [Pb_some e] at h
        have h := Option.some.inj h
        rw [← h]
        exact ⟨rfl, Or.inr rfl⟩
    · rw [Pi_n h1] at h
      have h := Option.some.inj h
      rw [← h]
      exact ⟨rfl, Or.inl rfl⟩
theorem Psd0 (T : Nat → Int) (n : Int) : Psd T n 0 = Pplain T n := by
  funext p
  unfold Psd
  cases e : (Pplain T n p).1 with
  | none => rw [Pb_none e, ← e]
  | some y => rw [Pb_some e, if_pos rfl]; show (some y, _) = _; rw [← e]
theorem Psd1 (T : Nat → Int) (n : Int) : Psd T n 1 = Pb (Pplain T n) (fun x => Pshare T n x.1 x.2) := rfl
theorem Psd_k (T : Nat → Int) (n a p : Int) (x : Int × UInt32) (h : (Psd T n a p).1 = some x) : 0 ≤ x.1 ∧ x.1 ≤ 4 := by
  unfold Psd at h
  cases e : (Pplain T n p).1 with
  | none => rw [Pb_none e] at h; cases h
  | some y =>
    have hq := Pplain_q T n p y e
    rw [Pb_some e] at h
    by_cases ha : a = 0
    · rw [if_pos ha] at h
      have h := Option.some.inj h
      rw [← h]
      omega
    · rw [if_neg ha] at h
      have := Pshare_q T n y.1 y.2 _ x h
      omega
theorem Loc_sd {N n : Int} (hn : n ≤ N) {T : Nat → Int} {a : Int} : Loc N n (Psd T N a) (Psd T n a) := Loc_b (Loc_plain hn) (fun _ => Loc_if (Loc_pp _) (Loc_share hn))
theorem Psd_rng (T : Nat → Int) (n a p : Int) (hp : p ≤ n) : p ≤ (Psd T n a p).2 ∧ (Psd T n a p).2 ≤ n := ⟨((Loc_sd (Int.le_refl n)).1 p).1, ((Loc_sd (Int.le_refl n)).1 p).2 hp⟩
/-- a minmax from its bracket on -/
noncomputable def Pmr (T : Nat → Int) (n : Int) : PR Tk := Pb (Psd T n 0) (fun a => Pb (Pt T n 44) (fun _ => Pb (Psd T n 1) (fun d => Pb (Pt T n 41) (fun _ => Pp (a.1, a.2, d.1, d.2)))))
theorem Pmm_eq (T : Nat → Int) (n p : Int) : Pmm T n p = Pb (Pw T n [109, 97, 120, 40]) (fun _ => Pmr T n) p := by
  have e : ∀ a : Int × UInt32, Pb (Psd T n 1) (fun d => Pb (Pt T n 41) (fun _ => Pp ((a.1, a.2, d.1, d.2) : Tk))) = Pb (Pplain T n) (fun b => Pb (Pshare T n b.1 b.2) (fun d => Pb (Pt T n 41) (fun _ => Pp (a.1, a.2, d.1, d.2)))) := by
    intro a
    funext p
    rw [Psd1, Pb_assoc]
  unfold Pmm Pmr
  rw [Psd0]
  simp only [e]
def trel (t : Tk) (lk : Int) (lu : UInt32) (hk : Int) (hu : UInt32) : Prop := lk = t.1 ∧ hk = t.2.2.1 ∧ (t.1 = 0 → lu = t.2.1) ∧ (t.2.2.1 = 0 ∨ t.2.2.1 = 4 ∨ t.2.2.1 = 5 → hu = t.2.2.2)
theorem Run_stop {T : Nat → Int} {n : Int} : ∀ {ws : List Int} {p : Int}, Run T n ws p → ¬ (p + ws.length < n ∧ 97 ≤ T (p + ws.length).toNat ∧ T (p + ws.length).toNat ≤ 122)
  | [], p, h => by
    rw [List.length_nil, show p + ((0 : Nat) : Int) = p by omega]
    exact h
  | x :: xs, p, h => by
    rw [List.length_cons, show p + ((xs.length + 1 : Nat) : Int) = p + 1 + (xs.length : Int) by omega]
    exact Run_stop h.2.2.2.2
theorem Pt_let {T : Nat → Int} {n p c : Int} (hc : ¬ (97 ≤ c ∧ c ≤ 122)) (h1 : 97 ≤ T p.toNat) (h2 : T p.toNat ≤ 122) : Pt T n c p = (none, p) := Pt_n (fun q => hc ⟨by omega, by omega⟩)
theorem Pw1 {T : Nat → Int} {n c p : Int} : Pw T n [c] p = Pt T n c p := by
  by_cases h : p < n ∧ T p.toNat = c
  · rw [Pt_y h]
    exact Pb_some' (Pt_y h)
  · rw [Pt_n h]
    exact Pb_none' (Pt_n h)
theorem fz_lt {n p : Int} (h : p < n) : fz n p = 0 := if_neg (by omega)
section
variable {b : pS} {T : Nat → Int} {n p st rd kd lk hk : Int} {nu lu hu : UInt32} {D : Dr}
/-- read, or refused with the right word -/
def rtk (b : pS) (n rd : Int) (D : Dr) (r : Option Tk × Int) (q : Int × pS) : Prop := ∃ p' st' kd' lk' hk' nu' lu' hu', q.2 = rS b p' n st' rd kd' lk' hk' nu' lu' hu' D ∧ ((q.1 = 1 ∧ ∃ t, r.1 = some t ∧ p' = r.2 ∧ trel t lk' lu' hk' hu') ∨ (q.1 = 0 ∧ r.1 = none ∧ st' = fz n r.2))
theorem k6_mm (h : RB b T n) (hp : 0 ≤ p) (hpn : p ≤ n) : ok (f_X6_readMinmax (rS b p n st rd kd lk hk nu lu hu D)) (rtk b n rd D (Pb (Pt T n 40) (fun _ => Pmr T n) p)) := by
  unfold f_X6_readMinmax f_X6_readMinmax_17 f_X6_readMinmax_52
  refine ok_eq (k6_takes h hp hpn 40) ?_
  by_cases h1 : p < n ∧ T p.toNat = 40
  · rw [Pb_some' (Pt_y h1), Pt_y h1]
    refine ok_neg (rbs ()) (ok_seq (k6_side h (by omega) (by show p + 1 ≤ n; omega) 0) (fun q hq => ?_))
    obtain ⟨p', st', kd', nu', e1, ht⟩ := hq
    have mr := Psd_rng T n 0 (p + 1) (by omega)
    have mr : p + 1 ≤ (Psd T n 0 (p + 1)).2 ∧ (Psd T n 0 (p + 1)).2 ≤ n := mr
    rw [e1]
    unfold Pmr
    rcases ht with ⟨g0, a, g1, g2, g3, g4⟩ | ⟨g0, g1, g2⟩ | ⟨g0, ⟨a, g1⟩, g2, g3, g4, g5⟩
    · rw [g0, Pb_some g1]
      refine ok_pos (by decide) (ok_bs ?_)
      rw [rS_I613, rS_I615w]
      refine ok_bs ?_
      rw [rS_F614, rS_F617w]
      have g2 : p' = (Psd T n 0 (p + 1)).2 := g2
      rw [← g2] at mr ⊢
      refine ok_eq (k6_takes h (by omega) (by omega) 44) ?_
      by_cases h2 : p' < n ∧ T p'.toNat = 44
      · rw [Pb_some' (Pt_y h2), Pt_y h2]
        refine ok_neg (rbs ()) (ok_seq (k6_side h (by omega) (by show p' + 1 ≤ n; omega) 1) (fun q hq => ?_))
        obtain ⟨p2, st2, kd2, nu2, e2, ht2⟩ := hq
        have mr2 : p' + 1 ≤ (Psd T n 1 (p' + 1)).2 ∧ (Psd T n 1 (p' + 1)).2 ≤ n := Psd_rng T n 1 (p' + 1) (by omega)
        rw [e2]
        rcases ht2 with ⟨k0, d, k1, k2, k3, k4⟩ | ⟨k0, k1, k2⟩ | ⟨k0, ⟨d, k1⟩, k2, k3, k4, k5⟩
        · rw [k0, Pb_some k1]
          refine ok_pos (by decide) (ok_bs ?_)
          rw [rS_I613, rS_I616w]
          refine ok_bs ?_
          rw [rS_F614, rS_F618w]
          have k2 : p2 = (Psd T n 1 (p' + 1)).2 := k2
          rw [← k2] at mr2 ⊢
          refine ok_eq (k6_takes h (by omega) (by omega) 41) (ok_ck (rb_01 _) (ok_some ?_))
          by_cases h3 : p2 < n ∧ T p2.toNat = 41
          · rw [Pb_some' (Pt_y h3), Pt_y h3]
            refine ⟨_, _, _, _, _, _, _, _, rfl, Or.inl ⟨rfl, _, rfl, rfl, g3, k3, fun z => g4 (Or.inl z), fun z => k4 ?_⟩⟩
            have hk := Psd_k T n 1 (p' + 1) d k1
            have z : d.1 = 0 ∨ d.1 = 4 ∨ d.1 = 5 := z
            omega
          · rw [Pb_none' (Pt_n h3), Pt_n h3]
            exact ⟨_, _, _, _, _, _, _, _, rfl, Or.inr ⟨rfl, rfl, rfl⟩⟩
        · rw [k0, Pb_none k1]
          exact ok_neg (by decide) (ok_some ⟨_, _, _, _, _, _, _, _, rfl, Or.inr ⟨rfl, rfl, k2⟩⟩)
        · rw [k0, Pb_some k1]
          refine ok_neg (by decide) (ok_some ⟨_, _, _, _, _, _, _, _, rfl, Or.inr ?_⟩)
          rw [Pb_none' (Pt_let (by decide) k4 k5)]
          exact ⟨rfl, rfl, by rw [k2]; exact (fz_lt k3).symm⟩
      · rw [Pb_none' (Pt_n h2), Pt_n h2]
        exact ok_pos rfl (ok_some ⟨_, _, _, _, _, _, _, _, rfl, Or.inr ⟨rfl, rfl, rfl⟩⟩)
    · rw [g0, Pb_none g1]
      exact ok_neg (by decide) (ok_some ⟨_, _, _, _, _, _, _, _, rfl, Or.inr ⟨rfl, rfl, g2⟩⟩)
    · rw [g0, Pb_some g1]
      refine ok_neg (by decide) (ok_some ⟨_, _, _, _, _, _, _, _, rfl, Or.inr ?_⟩)
      rw [Pb_none' (Pt_let (by decide) g4 g5)]
      exact ⟨rfl, rfl, by rw [g2]; exact (fz_lt g3).symm⟩
  · rw [Pb_none' (Pt_n h1), Pt_n h1]
    exact ok_pos rfl (ok_some ⟨_, _, _, _, _, _, _, _, rfl, Or.inr ⟨rfl, rfl, rfl⟩⟩)
abbrev preA (a : Int) (ws : List Int) : Prop := pre3 ws ∨ ws <+: wFi ∨ ws <+: wMm ∨ (a = 0 ∧ ws <+: wRe)
/-- a word that is no track -/
theorem k6_trackW (h : RB b T n) (hp : 0 ≤ p) (a : Int) {ws : List Int} (hR : Run T n ws p) (h0 : ws ≠ []) (hn : p + ws.length ≤ n) (n1 : ws ≠ wAu) (n2 : ws ≠ wMi) (n3 : ws ≠ wMa) (n4 : p + ws.length < n → ws ≠ wMm) (n5 : p + ws.length < n → ws ≠ wFi) :
    ok (f_X6_readTrack a (rS b p n st rd kd lk hk nu lu hu D)) (fun q => q.1 = 0 ∧ ∃ p' kd' lk' hk' nu' lu' hu', q.2 = rS b p' n (@ite _ (p + (ws.length : Int) = n ∧ preA a ws) (Classical.propDecidable _) 1 0) rd kd' lk' hk' nu' lu' hu' D) := by
  have hw := Run_lts hR
  have hl : p < n ∧ 97 ≤ T p.toNat ∧ T p.toNat ≤ 122 := by
    cases ws with
    | nil => exact absurd rfl h0
    | cons x xs => exact ⟨hR.1, by rw [hR.2.1]; exact hR.2.2.1, by rw [hR.2.1]; exact hR.2.2.2.1⟩
  unfold f_X6_readTrack
  refine k6_let h hp (fun _ => ?_) (fun q => absurd hl q)
  refine ok_pos (show (1 : Int) ≠ 0 by decide) (ok_eq (k6_word h hR hp hn) (ok_eq (k6_simple _ _) ?_))
  dsimp only
  rw [smp_no hw n1 n2 n3, rS_I609, rS_I610]
  by_cases he : p + (ws.length : Int) = n
  · refine ok_neg (fun q => q he) ?_
    have fin : ∀ y0 : Int, (y0 = 1 ∧ preA a ws ∨ y0 = 0 ∧ ¬ preA a ws) → ok (f_X6_readTrack_151 (wcd ws.reverse) (-1) y0 (rS b (p + ws.length) n st rd kd lk hk nu lu hu D)) (fun q => q.1 = 0 ∧ ∃ p' kd' lk' hk' nu' lu' hu', q.2 = rS b p' n (@ite _ (p + (ws.length : Int) = n ∧ preA a ws) (Classical.propDecidable _) 1 0) rd kd' lk' hk' nu' lu' hu' D) := by
      intro y0 hy
      unfold f_X6_readTrack_151 f_X6_readTrack_173 f_X6_readTrack_198
      refine ok_pos (show (-1 : Int) < 0 by decide) ?_
      rcases hy with ⟨hy, hz⟩ | ⟨hy, hz⟩
      · refine ok_neg (by omega) (ok_bs ?_)
        rw [rS_I611w, if_pos (show p + (ws.length : Int) = n ∧ preA a ws from ⟨he, hz⟩)]
        refine ok_bs ?_
        rw [rS_I615w]
        refine ok_bs ?_
        rw [rS_I616w]
        exact ok_pos (show (-1 : Int) < 0 by decide) (ok_ck (Or.inl rfl) (ok_some ⟨rfl, _, _, _, _, _, _, _, rfl⟩))
      · refine ok_pos hy (ok_bs ?_)
        rw [rS_I611w, if_neg (show ¬ (p + (ws.length : Int) = n ∧ preA a ws) from fun q => hz q.2)]
        refine ok_bs ?_
        rw [rS_I615w]
        refine ok_bs ?_
        rw [rS_I616w]
        exact ok_pos (show (-1 : Int) < 0 by decide) (ok_ck (Or.inl rfl) (ok_some ⟨rfl, _, _, _, _, _, _, _, rfl⟩))
    unfold f_X6_readTrack_146 f_X6_readTrack_150
    refine ok_eq (k6_bsimple hw h0 _) ?_
    by_cases c1 : pre3 ws
    · rw [if_pos c1]
      exact ok_pos (show (1 : Int) ≠ 0 by decide) (fin 1 (Or.inl ⟨rfl, Or.inl c1⟩))
    · rw [if_neg c1]
      refine ok_neg (show ¬ (0 : Int) ≠ 0 by decide) (ok_eq (k6_begins hw h0 l_Fi (by decide) c_Fi _) ?_)
      by_cases c2 : ws <+: wFi
      · rw [if_pos c2]
        exact ok_pos (show (1 : Int) ≠ 0 by decide) (fin 1 (Or.inl ⟨rfl, Or.inr (Or.inl c2)⟩))
      · rw [if_neg c2]
        refine ok_neg (show ¬ (0 : Int) ≠ 0 by decide) (ok_eq (k6_begins hw h0 l_Mm (by decide) c_Mm _) ?_)
        by_cases c3 : ws <+: wMm
        · rw [if_pos c3]
          exact ok_pos (show (1 : Int) ≠ 0 by decide) (fin 1 (Or.inl ⟨rfl, Or.inr (Or.inr (Or.inl c3))⟩))
        · rw [if_neg c3]
          refine ok_neg (show ¬ (0 : Int) ≠ 0 by decide) (ok_if (fun ha => fin 0 (Or.inr ⟨rfl, ?_⟩)) (fun ha => ?_))
          · intro q
            rcases q with q | q | q | q
            · exact c1 q
            · exact c2 q
            · exact c3 q
            · exact ha q.1
          · have ha := Classical.byContradiction ha
            refine ok_eq (k6_begins hw h0 l_Re (by decide) c_Re _) ?_
            by_cases c4 : ws <+: wRe
            · rw [if_pos c4]
              exact ok_neg (show ¬ (1 : Int) = 0 by decide) (fin 1 (Or.inl ⟨rfl, Or.inr (Or.inr (Or.inr ⟨ha, c4⟩))⟩))
            · rw [if_neg c4]
              refine ok_pos rfl (fin 0 (Or.inr ⟨rfl, ?_⟩))
              intro q
              rcases q with q | q | q | q
              · exact c1 q
              · exact c2 q
              · exact c3 q
              · exact c4 q.2
  · refine ok_pos he (ok_pos (show (-1 : Int) < 0 by decide) ?_)
    refine ok_pos (lc_ne.mpr (fun q => n4 (by omega) ((w_eq hw l_Mm (by decide) c_Mm).mp q))) ?_
    refine ok_pos (lc_ne.mpr (fun q => n5 (by omega) ((w_eq hw l_Fi (by decide) c_Fi).mp q))) (ok_bs ?_)
    rw [rS_I611w, if_neg (show ¬ (p + (ws.length : Int) = n ∧ preA a ws) from fun q => he q.1)]
    exact ok_some ⟨rfl, _, _, _, _, _, _, _, rfl⟩
/-- auto, min, max -/
theorem k6_trackS (h : RB b T n) (hp : 0 ≤ p) (a : Int) {ws : List Int} (hR : Run T n ws p) (h0 : ws ≠ []) (hn : p + ws.length ≤ n) {k : Int} (hk0 : 0 ≤ k) (hs : smp (wcd ws.reverse) = k) (hpre : pre3 ws) :
    ok (f_X6_readTrack a (rS b p n st rd kd lk hk nu lu hu D)) (fun q => q.1 = 1 ∧ ∃ st', q.2 = rS b (p + ws.length) n st' rd kd k k nu lu hu D) := by
  have hw := Run_lts hR
  have hl : p < n ∧ 97 ≤ T p.toNat ∧ T p.toNat ≤ 122 := by
    cases ws with
    | nil => exact absurd rfl h0
    | cons x xs => exact ⟨hR.1, by rw [hR.2.1]; exact hR.2.2.1, by rw [hR.2.1]; exact hR.2.2.2.1⟩
  unfold f_X6_readTrack
  refine k6_let h hp (fun _ => ?_) (fun q => absurd hl q)
  refine ok_pos (show (1 : Int) ≠ 0 by decide) (ok_eq (k6_word h hR hp hn) (ok_eq (k6_simple _ _) ?_))
  dsimp only
  rw [hs, rS_I609, rS_I610]
  by_cases he : p + (ws.length : Int) = n
  · refine ok_neg (fun q => q he) ?_
    refine ok_eq (k6_bsimple hw h0 _) ?_
    rw [if_pos hpre]
    refine ok_pos (show (1 : Int) ≠ 0 by decide) ?_
    unfold f_X6_readTrack_146 f_X6_readTrack_151 f_X6_readTrack_173 f_X6_readTrack_198
    refine ok_neg (by omega) (ok_bs ?_)
    rw [rS_I611w]
    refine ok_bs ?_
    rw [rS_I615w]
    refine ok_bs ?_
    rw [rS_I616w]
    exact ok_neg (by omega) (ok_ck (Or.inr rfl) (ok_some ⟨rfl, _, rfl⟩))
  · refine ok_pos he (ok_neg (by omega) (ok_bs ?_))
    rw [rS_I615w]
    refine ok_bs ?_
    rw [rS_I616w]
    exact ok_some ⟨rfl, _, rfl⟩
end
