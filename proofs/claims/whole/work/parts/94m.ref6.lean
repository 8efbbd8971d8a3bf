/-! ===== THE REFERENCE'S READER IS THE PURE ONE ===== -/
section
variable {b : pS} {T : Nat → Int} {n p st rd kd lk hk : Int} {nu lu hu : UInt32} {E E0 D : Dr}
theorem k6_isRep_y (h : RB b T n) (hp : 0 ≤ p) {ws : List Int} (hR : Run T n ws p) (hn : p + ws.length ≤ n) (hw : ws = wRe) (he : p + ws.length < n) : f_X6_isRepeat (rS b p n st rd kd lk hk nu lu hu E) = some (1, rS b (p + ws.length) n st rd kd lk hk nu lu hu E) := by
  refine of_ok ?_
  unfold f_X6_isRepeat f_X6_isRepeat_34 f_X6_isRepeat_46
  refine ok_bs (ok_eq (k6_word h hR hp hn) ?_)
  dsimp only
  rw [rS_I609, rS_I609, rS_I610]
  refine ok_neg (fun q => lc_ne.mp q ((w_eq (Run_lts hR) l_Re (by decide) c_Re).mpr hw)) (ok_neg (by omega) (ok_pos (show (1 : Int) ≠ 0 by decide) (ok_ck (Or.inr rfl) (ok_some rfl))))
theorem k6_isRep_n (h : RB b T n) (hp : 0 ≤ p) {ws : List Int} (hR : Run T n ws p) (hn : p + ws.length ≤ n) (hw : ¬ (ws = wRe ∧ p + ws.length < n)) : f_X6_isRepeat (rS b p n st rd kd lk hk nu lu hu E) = some (0, rS b p n st rd kd lk hk nu lu hu E) := by
  refine of_ok ?_
  unfold f_X6_isRepeat f_X6_isRepeat_33 f_X6_isRepeat_34 f_X6_isRepeat_46
  refine ok_bs (ok_eq (k6_word h hR hp hn) ?_)
  dsimp only
  rw [rS_I609, rS_I609, rS_I610]
  have fin : ok (if (0 : Int) ≠ 0 then ck ((0 : Int) = 0 ∨ (0 : Int) = 1) (some ((0 : Int), rS b (p + ws.length) n st rd kd lk hk nu lu hu E)) else bs (wI (rS b (p + ws.length) n st rd kd lk hk nu lu hu E) 609 0 p) (fun s1 => ck ((0 : Int) = 0 ∨ (0 : Int) = 1) (some ((0 : Int), s1)))) (fun x => x = (0, rS b p n st rd kd lk hk nu lu hu E)) := by
    refine ok_neg (show ¬ (0 : Int) ≠ 0 by decide) (ok_bs (ok_ck (Or.inl rfl) ?_))
    rw [rS_I609w]
    exact ok_some rfl
  refine ok_if (fun h1 => fin) (fun h1 => ok_if (fun h2 => fin) (fun h2 => ?_))
  exact absurd ⟨(w_eq (Run_lts hR) l_Re (by decide) c_Re).mp (Classical.byContradiction (fun q => h1 (lc_ne.mpr q))), by omega⟩ hw
/-- from the bracket of a repeat on -/
def Pentr (T : Nat → Int) (n c : Int) : PR Int := Pb (Pt T n 40) (fun _ => Pb (Pdig T n c) (fun t => Pb (Pt T n 44) (fun _ => Pp t)))
theorem k6_ent (h : RB b T n) (hp : 0 ≤ p) (hpn : p ≤ n) (hc : 0 ≤ rd) (hc2 : rd ≤ 11) (hF : DFr E0 E) {N : Nat} {go : Int × Int × Int → PR (Int × Dr)}
    (ihI : ∀ (ti p st : Int), 0 ≤ p → p ≤ n → Jx 1 rd ti rd → ok (f_X6_readRepeat_102 kr166 kr173 400 ti rd 1 (rS b p n st rd kd lk hk nu lu hu E)) (fun q => ok (kRR N q) (rtx b n E0 (go (1, rd, ti) p)))) :
    ok (f_X6_readRepeat (rS b p n st rd kd lk hk nu lu hu E)) (fun q => ok (kRR N q) (rtx b n E0 (Pb (Pentr T n rd) (fun t => go (1, rd, t)) p))) := by
  have h40 := h.2.2.1
  unfold f_X6_readRepeat f_X6_readRepeat_52 f_X6_readRepeat_69 Pentr
  refine ok_eq (k6_takes h hp hpn 40) ?_
  by_cases h1 : p < n ∧ T p.toNat = 40
  · rw [Pb_congr (Pb_some' (Pt_y h1)), Pt_y h1]
    refine ok_pos (rbs ()) (ok_eq (k6_now h (by show 0 ≤ p + 1; omega)) ?_)
    have hr : -1 ≤ nwc T n (p + 1) ∧ nwc T n (p + 1) ≤ 126 := by
      unfold nwc
      split
      · have := h.2.2.2 (p + 1).toNat (by omega)
        omega
      · omega
    refine ok_ck (inR_of (by show -2147483648 ≤ nwc T n (p + 1) - 48 ∧ nwc T n (p + 1) - 48 ≤ 2147483647; omega)) (ok_bs ?_)
    dsimp only
    rw [rS_I609, rS_I610, rS_I612]
    have fin : ∀ st, Pdig T n rd (p + 1) = (none, p + 1) → ok (if p + 1 ≠ n then bs (wI (rS b (p + 1) n st rd kd lk hk nu lu hu E) 611 0 0) (fun s1 => some ((0 : Int), s1)) else bs (wI (rS b (p + 1) n st rd kd lk hk nu lu hu E) 611 0 1) (fun s1 => some ((0 : Int), s1))) (fun q => ok (kRR N q) (rtx b n E0 (Pb (Pb (Pdig T n rd) (fun t => Pb (Pt T n 44) (fun _ => Pp t))) (fun t => go (1, rd, t)) (p + 1)))) := by
      intro st e
      rw [Pb_none' (Pb_none' e)]
      refine ok_if (fun c1 => ok_bs ?_) (fun c1 => ok_bs ?_)
      · rw [rS_I611w]
        refine ok_some (R0 N ?_)
        rw [rS_I611]
        exact ⟨_, _, _, _, _, _, _, _, _, _, rfl, hF, Or.inr ⟨rfl, (if_neg c1).symm⟩⟩
      · rw [rS_I611w]
        refine ok_some (R0 N ?_)
        rw [rS_I611]
        exact ⟨_, _, _, _, _, _, _, _, _, _, rfl, hF, Or.inr ⟨rfl, (if_pos (Classical.byContradiction c1)).symm⟩⟩
    by_cases hd : p + 1 < n ∧ 1 ≤ T (p + 1).toNat - 48 ∧ T (p + 1).toNat - 48 ≤ 9 ∧ rd + (T (p + 1).toNat - 48) ≤ 12
    · have ed : Pdig T n rd (p + 1) = (some (T (p + 1).toNat - 48), p + 1 + 1) := if_pos hd
      have ek : nwc T n (p + 1) = T (p + 1).toNat := if_pos hd.1
      rw [Pb_congr (Pb_some' ed), ek]
      refine ok_neg (by omega) (ok_neg (by omega) (ok_neg (by omega) (ok_ck (inR_of (by omega)) (ok_pos hd.2.2.2 (ok_ck (inR_of (by omega)) (ok_bs ?_))))))
      rw [rS_I609w]
      refine ok_eq (k6_takes h (by omega) (by omega) 44) ?_
      by_cases h2 : p + 1 + 1 < n ∧ T (p + 1 + 1).toNat = 44
      · rw [Pt_y h2]
        have e3 : Pb (Pb (Pt T n 44) (fun _ => Pp (T (p + 1).toNat - 48))) (fun t => go (1, rd, t)) (p + 1 + 1) = go (1, rd, T (p + 1).toNat - 48) (p + 1 + 1 + 1) := by
          rw [Pb_congr (Pb_some' (Pt_y h2))]
          rfl
        rw [e3]
        refine ok_pos (rbs ()) (ok_bs ?_)
        rw [rS_I612]
        refine ihI _ _ _ (by omega) (by omega) ⟨Or.inr rfl, hc, Int.le_refl _, hd.2.1, hd.2.2.1, ?_⟩
        rw [Int.sub_self, Int.zero_add, Int.mul_one]
        exact hd.2.2.2
      · rw [Pt_n h2, Pb_none' (Pb_none' (Pt_n h2))]
        refine ok_neg (rbn (α := Unit)) (ok_some (R0 N ?_))
        rw [rS_I611]
        exact ⟨_, _, _, _, _, _, _, _, _, _, rfl, hF, Or.inr ⟨rfl, rfl⟩⟩
    · have ed : Pdig T n rd (p + 1) = (none, p + 1) := if_neg hd
      refine ok_if (fun c1 => fin _ ed) (fun c1 => ok_if (fun c2 => fin _ ed) (fun c2 => ok_if (fun c3 => fin _ ed) (fun c3 => ok_ck (inR_of (by omega)) (ok_neg ?_ (fin _ ed)))))
      intro c4
      have ek : nwc T n (p + 1) = T (p + 1).toNat := if_pos (by omega)
      rw [ek] at c2 c3 c4
      exact hd ⟨by omega, by omega, by omega, by omega⟩
  · rw [Pb_none' (Pb_none' (Pt_n h1)), Pt_n h1]
    refine ok_neg (rbn (α := Unit)) (ok_some (R0 N ?_))
    rw [rS_I611]
    exact ⟨_, _, _, _, _, _, _, _, _, _, rfl, hF, Or.inr ⟨rfl, rfl⟩⟩
def kA (b : pS) (T : Nat → Int) (n : Int) (E0 : Dr) (m N : Nat) : Prop := ∀ (p st rd kd lk hk : Int) (nu lu hu : UInt32) (E D : Dr), 0 ≤ p → p < n → 0 ≤ rd → rd ≤ 11 → 12 ≤ rd + m → DRel rd E D → DFr E0 E → ok (f_X6_reads_21 kr93 kr116 N (rS b p n st rd kd lk hk nu lu hu E)) (rtx b n E0 (Ploop T n m 0 0 1 rd D p))
def kB (b : pS) (T : Nat → Int) (n : Int) (E0 : Dr) (m N N2 : Nat) : Prop := ∀ (fi ti p st rd kd lk hk : Int) (nu lu hu : UInt32) (E D : Dr), 0 ≤ p → p ≤ n → Jx 1 fi ti rd → 12 ≤ rd + m → DRel rd E D → DFr E0 E → ok (f_X6_readRepeat_102 kr166 kr173 N2 ti fi 1 (rS b p n st rd kd lk hk nu lu hu E)) (fun q => ok (kRR N q) (rtx b n E0 (Ploop T n m 1 fi ti rd D p)))
theorem kB_step (h : RB b T n) {m N N2 : Nat} (hA : kA b T n E0 m N) (hB : kB b T n E0 m N N2) (h2 : 1 ≤ N2) : kB b T n E0 (m + 1) N (N2 + 1) := by
  intro fi ti p st rd kd lk hk nu lu hu E D hp hpn hJ hm hD hF
  exact k6_inner h hA hB h2 hp hpn hJ hm hD hF
theorem kA_step (h : RB b T n) {m N : Nat} (hA : kA b T n E0 m N) (hB : kB b T n E0 (m + 1) N 400) : kA b T n E0 (m + 1) (N + 1) := by
  intro p st rd kd lk hk nu lu hu E D hp hpn hc hc2 hm hD hF
  have h40 := h.2.2.1
  rw [f_X6_reads_21]
  refine ok_bs ?_
  rw [rS_I611w]
  obtain ⟨ws, hR, hn⟩ := Run_ex T n (n - p).toNat p (by omega)
  show ok _ (rtx b n E0 (Pb (Phead T n 0 0 1 rd) (Pstep T n (Ploop T n m) rd D) p))
  unfold Phead
  rw [if_neg (show ¬ (0 : Int) ≠ 0 by decide)]
  by_cases h114 : T p.toNat = 114
  · have h0 : ws ≠ [] := fun e => by
      rw [e] at hR
      exact hR ⟨hpn, by omega, by omega⟩
    have hx : ∃ xs, ws = 114 :: xs := by
      cases ws with
      | nil => exact absurd rfl h0
      | cons x xs => exact ⟨xs, by rw [← hR.2.1, h114]⟩
    obtain ⟨xs, hx⟩ := hx
    have eP : ∀ q, Pw T n [114, 101, 112, 101, 97, 116, 40] p = (none, q) → Pb (Pi T n 114 (Pb (Pent T n rd) (fun t => Pp (1, rd, t))) (Pp (0, 0, 1))) (Pstep T n (Ploop T n m) rd D) p = (none, q) := by
      intro q e
      have e1 : Pi T n 114 (Pb (Pent T n rd) (fun t => Pp ((1, rd, t) : Int × Int × Int))) (Pp (0, 0, 1)) p = (none, q) := by
        rw [Pi_y ⟨hpn, h114⟩]
        exact Pb_none' (Pb_none' e)
      exact Pb_none' e1
    have hpre : preA 0 ws ↔ ws <+: wRe := by
      constructor
      · intro q
        rcases q with q | q | q | q
        · rw [hx] at q
          simp [pre3, List.cons_prefix_cons] at q
        · rw [hx] at q
          simp [List.cons_prefix_cons] at q
        · rw [hx] at q
          simp [List.cons_prefix_cons] at q
        · exact q.2
      · intro q; exact Or.inr (Or.inr (Or.inr ⟨rfl, q⟩))
    have nA : ws ≠ wAu := by rw [hx]; simp
    have nI : ws ≠ wMi := by rw [hx]; simp
    have nX : ws ≠ wMa := by rw [hx]; simp
    have nM : ws ≠ wMm := by rw [hx]; simp
    have nF : ws ≠ wFi := by rw [hx]; simp
    have no : ¬ (ws = wRe ∧ p + ws.length < n) → ∀ q, Pw T n [114, 101, 112, 101, 97, 116, 40] p = (none, q) → (q = n ↔ p + (ws.length : Int) = n ∧ ws <+: wRe) → ok ((f_X6_isRepeat (rS b p n 0 rd kd lk hk nu lu hu E)).bind (fun q2 => (if q2.1 = 0 then (f_X6_readTrack 0 q2.2).bind (fun q3 => (if q3.1 ≠ 0 then (f_X6_keep q3.2).bind (fun q4 => f_X6_reads_62 (f_X6_reads_21 kr93 kr116 N) kr93 kr116 q4) else some ((sI q3.2 611 0), q3.2))) else (f_X6_readRepeat q2.2).bind (fun q6 => (if q6.1 ≠ 0 then f_X6_reads_62 (f_X6_reads_21 kr93 kr116 N) kr93 kr116 q6.2 else some ((sI q6.2 611 0), q6.2)))))) (rtx b n E0 (Pb (Pi T n 114 (Pb (Pent T n rd) (fun t => Pp (1, rd, t))) (Pp (0, 0, 1))) (Pstep T n (Ploop T n m) rd D) p)) := by
      intro hno q e1 e2
      rw [eP q e1]
      refine ok_eq (k6_isRep_n h hp hR hn hno) (ok_pos rfl ?_)
      refine ok_seq (k6_trackW h hp 0 hR h0 hn nA nI nX (fun _ => nM) (fun _ => nF)) (fun q' hq => ?_)
      obtain ⟨q1, p', kd', lk', hk', nu', lu', hu', q2⟩ := hq
      rw [q1, q2]
      refine ok_neg (show ¬ (0 : Int) ≠ 0 by decide) (ok_some ⟨_, _, _, _, _, _, _, _, _, _, rfl, hF, Or.inr ⟨rfl, ?_⟩⟩)
      rw [rS_I611]
      show _ = fz n q
      unfold fz
      by_cases hq : q = n
      · rw [if_pos hq, if_pos (show p + (ws.length : Int) = n ∧ preA 0 ws from ⟨(e2.mp hq).1, hpre.mpr (e2.mp hq).2⟩)]
      · rw [if_neg hq, if_neg (show ¬ (p + (ws.length : Int) = n ∧ preA 0 ws) from fun z => hq (e2.mpr ⟨z.1, hpre.mp z.2⟩))]
    rcases Pw_paren (c := 40) (by decide) wRe ws p l_Re hR hn with ⟨g1, g2⟩ | ⟨g1, q, g2, g3⟩
    · have g2 : Pw T n [114, 101, 112, 101, 97, 116, 40] p = Pw T n [40] (p + 6) := g2
      have el : (ws.length : Int) = 6 := by rw [g1]; rfl
      by_cases he : p + (ws.length : Int) < n
      · refine ok_eq (k6_isRep_y h hp hR hn g1 he) (ok_neg (show ¬ (1 : Int) = 0 by decide) ?_)
        refine ok_bind ?_
        have e1 : Pb (Pi T n 114 (Pb (Pent T n rd) (fun t => Pp ((1, rd, t) : Int × Int × Int))) (Pp (0, 0, 1))) (Pstep T n (Ploop T n m) rd D) p = Pb (Pentr T n rd) (fun t => Pstep T n (Ploop T n m) rd D (1, rd, t)) (p + ws.length) := by
          have a1 : Pent T n rd p = Pentr T n rd (p + ws.length) := by
            unfold Pent Pentr
            refine Pb_congr ?_
            rw [g2, Pw1, el]
          have a2 : Pi T n 114 (Pb (Pent T n rd) (fun t => Pp ((1, rd, t) : Int × Int × Int))) (Pp (0, 0, 1)) p = Pb (Pentr T n rd) (fun t => Pp (1, rd, t)) (p + ws.length) := by
            rw [Pi_y ⟨hpn, h114⟩]
            exact Pb_congr a1
          rw [Pb_congr a2, Pb_assoc]
          rfl
        rw [e1]
        exact k6_ent h (by omega) (by omega) hc hc2 hF (go := Pstep T n (Ploop T n m) rd D) (fun ti p' st' hp' hpn' hJ => hB rd ti p' st' rd _ _ _ _ _ _ _ D hp' hpn' hJ hm hD hF)
      · refine no (fun q => he q.2) (p + 6) ?_ ?_
        · rw [g2, Pw1]
          exact Pt_n (fun q => by omega)
        · rw [g1]
          exact ⟨fun z => ⟨by rw [← z]; rfl, List.prefix_refl _⟩, fun z => by rw [← z.1]; rfl⟩
    · exact no (fun q => g1 q.1) q g2 g3
  · have e0 : Pi T n 114 (Pb (Pent T n rd) (fun t => Pp ((1, rd, t) : Int × Int × Int))) (Pp (0, 0, 1)) p = (some (0, 0, 1), p) := by
      rw [Pi_n (fun q => h114 q.2)]
      rfl
    rw [Pb_some' e0]
    have hno : ¬ (ws = wRe ∧ p + ws.length < n) := fun q => by
      rw [q.1] at hR
      exact h114 hR.2.1
    refine ok_eq (k6_isRep_n h hp hR hn hno) (ok_pos rfl ?_)
    refine ok_seq (k6_track h hp (by omega) 0 (fun _ q => h114 q.2)) (fun q hq => ?_)
    obtain ⟨p1, st1, kd1, lk1, hk1, nu1, lu1, hu1, e1, ht⟩ := hq
    have m1 := Ptrack_mono T n p
    have m2 : (Ptrack T n p).2 ≤ n := ((Loc_track (Int.le_refl n)).1 p).2 (by omega)
    rw [e1]
    unfold Pstep
    rcases ht with ⟨g0, t, g1, g2, g3⟩ | ⟨g0, g1, g2⟩ | ⟨g0, ⟨t, g1⟩, g2, g3, g4, g5⟩
    · rw [g0, Pb_some g1]
      refine ok_pos (show (1 : Int) ≠ 0 by decide) ?_
      rw [if_neg (show ¬ ((0, 0, 1) : Int × Int × Int).1 ≠ 0 from fun z => z rfl), ← g2]
      rw [← g2] at m1 m2
      refine ok_eq (k6_keep hc (by omega)) ?_
      exact k6_tail h (by omega) (by omega) (by omega) (by omega) (DRel_up (x := (lk1, lu1, hk1, hu1)) hc hD g3) (DFr_up hc hF) (by omega) hA
    · rw [g0, Pb_none g1]
      refine ok_neg (show ¬ (0 : Int) ≠ 0 by decide) (ok_some ?_)
      rw [rS_I611]
      exact ⟨_, _, _, _, _, _, _, _, _, _, rfl, hF, Or.inr ⟨rfl, g2⟩⟩
    · rw [g0, Pb_some g1]
      refine ok_neg (show ¬ (0 : Int) ≠ 0 by decide) (ok_some ?_)
      rw [if_neg (show ¬ ((0, 0, 1) : Int × Int × Int).1 ≠ 0 from fun z => z rfl), Ptail_let g3 g4 g5]
      rw [rS_I611]
      exact ⟨_, _, _, _, _, _, _, _, _, _, rfl, hF, Or.inr ⟨rfl, by rw [g2]; exact (fz_lt g3).symm⟩⟩
theorem kAB (h : RB b T n) : ∀ m : Nat, m ≤ 12 → (∀ N, m ≤ N → kA b T n E0 m N) ∧ (∀ N N2, m ≤ N + 1 → m < N2 → kB b T n E0 m N N2)
  | 0, _ => ⟨fun N _ p st rd kd lk hk nu lu hu E D h1 h2 h3 h4 h5 => by omega, fun N N2 _ _ fi ti p st rd kd lk hk nu lu hu E D h1 h2 h3 h4 => by have := Jx_c h3; omega⟩
  | m + 1, hm12 => by
    obtain ⟨hA, hB⟩ := kAB h m (by omega)
    have hB' : ∀ N N2, m + 1 ≤ N + 1 → m + 1 < N2 → kB b T n E0 (m + 1) N N2 := by
      intro N N2 h1 h2
      obtain ⟨N3, rfl⟩ : ∃ N3, N2 = N3 + 1 := ⟨N2 - 1, by omega⟩
      exact kB_step h (hA N (by omega)) (hB N N3 (by omega) (by omega)) (by omega)
    refine ⟨fun N hN => ?_, hB'⟩
    obtain ⟨N1, rfl⟩ : ∃ N1, N = N1 + 1 := ⟨N - 1, by omega⟩
    exact kA_step h (hA N1 (by omega)) (hB' N1 400 (by omega) (by omega))
theorem k6_reads (h : RB b T n) {en : Int} (hF : DFr E0 E) : ok (f_X6_reads n (rS b p en st rd kd lk hk nu lu hu E)) (rtx b n E0 (Ptext T n D)) := by
  have h0 := h.2.1
  unfold f_X6_reads Ptext
  refine ok_bs ?_
  rw [rS_I609w]
  refine ok_bs ?_
  rw [rS_I610w]
  refine ok_bs ?_
  rw [rS_I612w]
  by_cases hn : n = 0
  · rw [if_pos hn]
    exact ok_neg (fun q => q hn) (ok_some ⟨_, _, _, _, _, _, _, _, _, _, rfl, hF, Or.inl ⟨rfl, _, rfl, rfl, fun j hj => by have hj : (j : Int) < 0 := hj; omega⟩⟩)
  · rw [if_neg hn]
    refine ok_pos hn ?_
    exact (kAB h 12 (by omega)).1 400 (by omega) 0 _ 0 _ _ _ _ _ _ _ _ (by omega) (by omega) (by omega) (by omega) (by omega) (fun j hj => by omega) hF
end
