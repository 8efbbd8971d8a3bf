/-! ===== WORDS: THE REFERENCE'S CODES ===== -/
theorem lc_ne {x y : Int} : pm_lc x y ≠ 0 ↔ x ≠ y := by
  unfold pm_lc
  split
  · omega
  · split <;> omega
theorem lc_le {x y : Int} : pm_lc x y ≤ 0 ↔ x ≤ y := by
  unfold pm_lc
  split
  · omega
  · split <;> omega
/-- the letters from p on -/
def Run (T : Nat → Int) (n : Int) : List Int → Int → Prop
  | [], p => ¬ (p < n ∧ 97 ≤ T p.toNat ∧ T p.toNat ≤ 122)
  | x :: xs, p => p < n ∧ T p.toNat = x ∧ 97 ≤ x ∧ x ≤ 122 ∧ Run T n xs (p + 1)
theorem Run_ex (T : Nat → Int) (n : Int) : ∀ (m : Nat) (p : Int), n - p = m → ∃ ws, Run T n ws p ∧ p + ws.length ≤ n
  | 0, p, h => ⟨[], fun q => by omega, by simp only [List.length_nil]; omega⟩
  | m + 1, p, h => by
    by_cases hl : 97 ≤ T p.toNat ∧ T p.toNat ≤ 122
    · obtain ⟨ws, h1, h2⟩ := Run_ex T n m (p + 1) (by omega)
      exact ⟨T p.toNat :: ws, ⟨by omega, rfl, hl.1, hl.2, h1⟩, by simp only [List.length_cons]; omega⟩
    · exact ⟨[], fun q => hl q.2, by simp only [List.length_nil]; omega⟩
def lts (r : List Int) : Prop := ∀ x ∈ r, 97 ≤ x ∧ x ≤ 122
theorem Run_lts {T : Nat → Int} {n : Int} : ∀ {ws : List Int} {p : Int}, Run T n ws p → lts ws
  | [], p, _ => fun x hx => by cases hx
  | y :: ys, p, h => fun x hx => by
    rcases List.mem_cons.mp hx with rfl | hx
    · exact ⟨h.2.2.1, h.2.2.2.1⟩
    · exact Run_lts h.2.2.2.2 x hx
theorem lts_cons {x : Int} {r : List Int} (h : lts (x :: r)) : 97 ≤ x ∧ x ≤ 122 ∧ lts r := ⟨(h x List.mem_cons_self).1, (h x List.mem_cons_self).2, fun y hy => h y (List.mem_cons_of_mem _ hy)⟩
theorem lts_rev {r : List Int} (h : lts r) : lts r.reverse := fun x hx => h x (List.mem_reverse.mp hx)
/-- the code of a word, its last letter first -/
def cdr : List Int → Int
  | [] => 0
  | x :: r => cdr r * 32 + x - 96
theorem cdr_nn : ∀ {r : List Int}, lts r → 0 ≤ cdr r
  | [], _ => Int.le_refl _
  | x :: r, h => by
    obtain ⟨h1, h2, h3⟩ := lts_cons h
    have := cdr_nn h3
    show 0 ≤ cdr r * 32 + x - 96
    omega
theorem cdr_pos {x : Int} {r : List Int} (h : lts (x :: r)) : 1 ≤ cdr (x :: r) := by
  obtain ⟨h1, h2, h3⟩ := lts_cons h
  have := cdr_nn h3
  show 1 ≤ cdr r * 32 + x - 96
  omega
theorem cdr_inj : ∀ {r z : List Int}, lts r → lts z → cdr r = cdr z → r = z
  | [], [], _, _, _ => rfl
  | [], y :: z, _, h2, h => by
    have := cdr_pos h2
    rw [← h] at this
    exact absurd this (by decide)
  | x :: r, [], h1, _, h => by
    have := cdr_pos h1
    rw [h] at this
    exact absurd this (by decide)
  | x :: r, y :: z, h1, h2, h => by
    obtain ⟨a1, a2, a3⟩ := lts_cons h1
    obtain ⟨b1, b2, b3⟩ := lts_cons h2
    have h : cdr r * 32 + x - 96 = cdr z * 32 + y - 96 := h
    have e1 : cdr r = cdr z := by omega
    have e2 : x = y := by omega
    rw [cdr_inj a3 b3 e1, e2]
theorem cdr_lt : ∀ (m : Nat) {r : List Int}, lts r → r.length ≤ m → cdr r < (32 : Int) ^ m
  | m, [], _, _ => by
    show (0 : Int) < 32 ^ m
    exact Int.pow_pos (by decide)
  | 0, x :: r, _, h2 => by simp at h2
  | m + 1, x :: r, h1, h2 => by
    obtain ⟨a1, a2, a3⟩ := lts_cons h1
    have ih := cdr_lt m a3 (by simp only [List.length_cons] at h2; omega)
    show cdr r * 32 + x - 96 < 32 ^ (m + 1)
    rw [Int.pow_succ]
    generalize (32 : Int) ^ m = z at ih
    omega
theorem cdr_11 {r : List Int} (h : lts r) (hl : r.length ≤ 11) : cdr r < 36028797018963968 := cdr_lt 11 h hl
theorem cdr_suf : ∀ {r z : List Int}, lts z → r <:+ z → cdr r ≤ cdr z
  | r, [], _, h => by rw [List.suffix_nil.mp h]; exact Int.le_refl _
  | r, y :: z, h1, h => by
    rcases List.suffix_cons_iff.mp h with rfl | h
    · exact Int.le_refl _
    · obtain ⟨b1, b2, b3⟩ := lts_cons h1
      have := cdr_suf b3 h
      have := cdr_nn b3
      show cdr r ≤ cdr z * 32 + y - 96
      omega
/-- what the reference's word gives -/
def wcd (r : List Int) : Int := if r.length ≤ 12 then cdr r else -1
theorem wcd_eq {r z : List Int} (h1 : lts r) (h2 : lts z) (hz : z.length ≤ 12) : wcd r = cdr z ↔ r = z := by
  unfold wcd
  split
  · exact ⟨cdr_inj h1 h2, fun h => by rw [h]⟩
  · rename_i h
    have := cdr_nn h2
    exact ⟨fun q => by omega, fun q => by rw [q] at h; exact absurd hz h⟩
theorem k6_begins_3 {r : List Int} (hr : lts r) (hp : 1 ≤ cdr r) (x2 : Int) (s : pS) : ∀ (N : Nat) (z : List Int), lts z → z.length < N → f_X6_begins_3 (fun x0 x2 x4 s1 => f_X6_begins_27 x0 x2 x4 s1) N (cdr r) x2 (cdr z) s = some (@ite _ (r <:+ z) (Classical.propDecidable _) 1 0, s)
  | 0, z, _, h => by omega
  | N + 1, z, hz, h => by
    refine of_ok ?_
    rw [f_X6_begins_3]
    refine ok_neg (fun q => by have := lc_le.mp q; omega) ?_
    by_cases hle : cdr z ≤ cdr r
    · refine ok_pos (lc_le.mpr hle) ?_
      unfold f_X6_begins_27 f_X6_begins_39
      by_cases he : cdr z = cdr r
      · have e := cdr_inj hz hr he
        rw [if_pos (show r <:+ z by rw [e]; exact List.suffix_refl r)]
        exact ok_neg (fun q => lc_ne.mp q he) (ok_ck (Or.inr rfl) (ok_some rfl))
      · rw [if_neg (show ¬ r <:+ z from fun q => he (Int.le_antisymm hle (cdr_suf hz q)))]
        exact ok_pos (lc_ne.mpr he) (ok_ck (Or.inl rfl) (ok_some rfl))
    · refine ok_neg (fun q => hle (lc_le.mp q)) ?_
      have hnn := cdr_nn hz
      refine ok_ck ⟨hnn, by decide⟩ (ok_bs ?_)
      cases z with
      | nil => exact absurd (show (0 : Int) ≤ cdr r by omega) hle
      | cons y z =>
        obtain ⟨b1, b2, b3⟩ := lts_cons hz
        rw [show cdr (y :: z) / 32 = cdr z by show (cdr z * 32 + y - 96) / 32 = cdr z; omega]
        refine ok_of (k6_begins_3 hr hp x2 s N z b3 (by simp only [List.length_cons] at h; omega)) ?_
        by_cases hs : r <:+ z
        · rw [if_pos hs, if_pos (List.suffix_cons_iff.mpr (Or.inr hs))]
        · rw [if_neg hs, if_neg (fun q => ?_)]
          rcases List.suffix_cons_iff.mp q with e | e
          · exact hle (by rw [e]; exact Int.le_refl _)
          · exact hs e
theorem k6_begins {ws V : List Int} (hw : lts ws) (h0 : ws ≠ []) (hV : lts V) (hl : V.length ≤ 12) {v : Int} (hv : cdr V.reverse = v) (s : pS) : f_X6_begins (wcd ws.reverse) v s = some (@ite _ (ws <+: V) (Classical.propDecidable _) 1 0, s) := by
  have hr := lts_rev hw
  have hz := lts_rev hV
  have hnn := cdr_nn hz
  rw [← hv]
  unfold f_X6_begins
  by_cases h12 : ws.reverse.length ≤ 12
  · have e : wcd ws.reverse = cdr ws.reverse := if_pos h12
    rw [e]
    have hp : 1 ≤ cdr ws.reverse := by
      cases hx : ws.reverse with
      | nil => exact absurd (List.reverse_eq_nil_iff.mp hx) h0
      | cons y ys => exact cdr_pos (by rw [← hx]; exact hr)
    rw [k6_begins_3 hr hp _ s 400 V.reverse hz (by rw [List.length_reverse]; omega)]
    by_cases hs : ws <+: V
    · rw [if_pos hs, if_pos (List.reverse_suffix.mpr hs)]
    · rw [if_neg hs, if_neg (fun q => hs (List.reverse_suffix.mp q))]
  · have e : wcd ws.reverse = -1 := if_neg h12
    rw [e, if_neg (show ¬ ws <+: V from fun q => by have := List.IsPrefix.length_le q; rw [List.length_reverse] at h12; omega)]
    refine of_ok ?_
    rw [f_X6_begins_3]
    refine ok_pos (lc_le.mpr (by omega)) ?_
    unfold f_X6_begins_27 f_X6_begins_39
    exact ok_pos (lc_ne.mpr (by omega)) (ok_ck (Or.inl rfl) (ok_some rfl))
/-! the words -/
abbrev wAu : List Int := [97, 117, 116, 111]
abbrev wMi : List Int := [109, 105, 110]
abbrev wMa : List Int := [109, 97, 120]
abbrev wFi : List Int := [102, 105, 116]
abbrev wMm : List Int := [109, 105, 110, 109, 97, 120]
abbrev wRe : List Int := [114, 101, 112, 101, 97, 116]
theorem l_Au : lts wAu := by unfold lts; decide
theorem l_Mi : lts wMi := by unfold lts; decide
theorem l_Ma : lts wMa := by unfold lts; decide
theorem l_Fi : lts wFi := by unfold lts; decide
theorem l_Mm : lts wMm := by unfold lts; decide
theorem l_Re : lts wRe := by unfold lts; decide
theorem c_Au : cdr wAu.reverse = 54927 := by decide
theorem c_Mi : cdr wMi.reverse = 13614 := by decide
theorem c_Ma : cdr wMa.reverse = 13368 := by decide
theorem c_Fi : cdr wFi.reverse = 6452 := by decide
theorem c_Mm : cdr wMm.reverse = 446116920 := by decide
theorem c_Re : cdr wRe.reverse = 609752116 := by decide
theorem w_eq {ws V : List Int} {v : Int} (hw : lts ws) (hV : lts V) (hl : V.length ≤ 12) (hv : cdr V.reverse = v) : wcd ws.reverse = v ↔ ws = V := by
  rw [← hv, wcd_eq (lts_rev hw) (lts_rev hV) (by rw [List.length_reverse]; exact hl)]
  exact ⟨fun h => List.reverse_inj.mp h, fun h => by rw [h]⟩
/-! what the pure reader does on a run of letters -/
theorem Pw_paren {T : Nat → Int} {n c : Int} (hc : ¬ (97 ≤ c ∧ c ≤ 122)) : ∀ (V ws : List Int) (p : Int), lts V → Run T n ws p → p + ws.length ≤ n → (ws = V ∧ Pw T n (V ++ [c]) p = Pw T n [c] (p + V.length)) ∨ (ws ≠ V ∧ ∃ q, Pw T n (V ++ [c]) p = (none, q) ∧ (q = n ↔ p + ws.length = n ∧ ws <+: V))
  | [], [], p, _, _, _ => Or.inl ⟨rfl, by simp⟩
  | [], x :: xs, p, _, h, hn => by
    refine Or.inr ⟨by simp, p, ?_, ?_⟩
    · exact Pb_none' (Pt_n (fun q => hc ⟨by rw [← q.2, h.2.1]; exact h.2.2.1, by rw [← q.2, h.2.1]; exact h.2.2.2.1⟩))
    · have := h.1
      constructor
      · intro q; omega
      · intro q
        have := List.IsPrefix.length_le q.2
        simp at this
  | v :: V, [], p, hV, h, hn => by
    refine Or.inr ⟨by simp, p, ?_, ?_⟩
    · obtain ⟨a1, a2, -⟩ := lts_cons hV
      exact Pb_none' (Pt_n (fun q => h ⟨q.1, by omega, by omega⟩))
    · simp
  | v :: V, x :: xs, p, hV, h, hn => by
    obtain ⟨a1, a2, a3⟩ := lts_cons hV
    by_cases hx : x = v
    · subst hx
      have e : Pw T n (x :: V ++ [c]) p = Pw T n (V ++ [c]) (p + 1) := Pb_some' (Pt_y ⟨h.1, h.2.1⟩)
      rw [e]
      rcases Pw_paren hc V xs (p + 1) a3 h.2.2.2.2 (by simp only [List.length_cons] at hn; omega) with ⟨g1, g2⟩ | ⟨g1, q, g2, g3⟩
      · refine Or.inl ⟨by rw [g1], ?_⟩
        rw [g2, List.length_cons]
        rw [show p + 1 + (V.length : Int) = p + ((V.length + 1 : Nat) : Int) by omega]
      · refine Or.inr ⟨by simp [g1], q, g2, ?_⟩
        rw [g3, List.cons_prefix_cons, List.length_cons]
        constructor
        · intro z; exact ⟨by omega, rfl, z.2⟩
        · intro z; exact ⟨by omega, z.2.2⟩
    · refine Or.inr ⟨by simp [hx], p, Pb_none' (Pt_n (fun q => hx (by rw [← h.2.1, q.2]))), ?_⟩
      have := h.1
      constructor
      · intro q; omega
      · intro q
        rw [List.cons_prefix_cons] at q
        exact absurd q.2.1 hx
theorem Pw_word {T : Nat → Int} {n : Int} : ∀ (V ws : List Int) (p : Int), lts V → Run T n ws p → p + ws.length ≤ n → (ws = V ∧ Pw T n V p = (some (), p + V.length)) ∨ (∃ y ys, ws = V ++ y :: ys ∧ Pw T n V p = (some (), p + V.length) ∧ Run T n (y :: ys) (p + V.length)) ∨ ((∀ ys, ws ≠ V ++ ys) ∧ ∃ q, Pw T n V p = (none, q) ∧ (q = n ↔ p + ws.length = n ∧ ws <+: V))
  | [], [], p, _, _, _ => Or.inl ⟨rfl, by simp [Pw, Pp]⟩
  | [], x :: xs, p, _, h, hn => by
    refine Or.inr (Or.inl ⟨x, xs, rfl, by simp [Pw, Pp], ?_⟩)
    rw [List.length_nil, show p + ((0 : Nat) : Int) = p by omega]
    exact h
  | v :: V, [], p, hV, h, hn => by
    refine Or.inr (Or.inr ⟨by simp, p, ?_, ?_⟩)
    · obtain ⟨a1, a2, -⟩ := lts_cons hV
      exact Pb_none' (Pt_n (fun q => h ⟨q.1, by omega, by omega⟩))
    · simp
  | v :: V, x :: xs, p, hV, h, hn => by
    obtain ⟨a1, a2, a3⟩ := lts_cons hV
    by_cases hx : x = v
    · subst hx
      have e : Pw T n (x :: V) p = Pw T n V (p + 1) := Pb_some' (Pt_y ⟨h.1, h.2.1⟩)
      rw [e, List.length_cons, show p + ((V.length + 1 : Nat) : Int) = p + 1 + (V.length : Int) by omega]
      rcases Pw_word V xs (p + 1) a3 h.2.2.2.2 (by simp only [List.length_cons] at hn; omega) with ⟨g1, g2⟩ | ⟨y, ys, g1, g2, g3⟩ | ⟨g1, q, g2, g3⟩
      · exact Or.inl ⟨by rw [g1], g2⟩
      · exact Or.inr (Or.inl ⟨y, ys, by rw [g1]; rfl, g2, g3⟩)
      · refine Or.inr (Or.inr ⟨fun ys => by simp [g1], q, g2, ?_⟩)
        rw [g3, List.cons_prefix_cons, List.length_cons]
        constructor
        · intro z; exact ⟨by omega, rfl, z.2⟩
        · intro z; exact ⟨by omega, z.2.2⟩
    · refine Or.inr (Or.inr ⟨fun ys => by simp [hx], p, Pb_none' (Pt_n (fun q => hx (by rw [← h.2.1, q.2]))), ?_⟩)
      have := h.1
      constructor
      · intro q; omega
      · intro q
        rw [List.cons_prefix_cons] at q
        exact absurd q.2.1 hx
