/-! ===== THE REFERENCE'S READER: characters, words, numbers ===== -/
def RB (b : pS) (T : Nat → Int) (n : Int) : Prop := sA b 602 0 = T ∧ 0 ≤ n ∧ n ≤ 40 ∧ ∀ j : Nat, (j : Int) < n → 32 ≤ T j ∧ T j ≤ 126
def nwc (T : Nat → Int) (n p : Int) : Int := if p < n then T p.toNat else -1
theorem nwc_eq {T : Nat → Int} {n p c : Int} (hc : c ≠ -1) : nwc T n p = c ↔ (p < n ∧ T p.toNat = c) := by
  unfold nwc
  split
  · rename_i h
    exact ⟨fun q => ⟨h, q⟩, fun q => q.2⟩
  · rename_i h
    exact ⟨fun q => absurd q.symm hc, fun q => absurd q.1 h⟩
def fz (n p : Int) : Int := if p = n then 1 else 0
def stq {α : Type} (o : Option α) (st z : Int) : Int := match o with
  | some _ => st
  | none => z
def smp (w : Int) : Int := if w = 54927 then 3 else if w = 13614 then 1 else if w = 13368 then 2 else -1
theorem k6_simple (w : Int) (s : pS) : f_X6_simple w s = some (smp w, s) := by
  refine of_ok ?_
  unfold f_X6_simple f_X6_simple_37 smp
  refine ok_if (fun h1 => ?_) (fun h1 => ?_)
  · rw [if_neg (lc_ne.mp h1)]
    refine ok_if (fun h2 => ?_) (fun h2 => ?_)
    · rw [if_neg (lc_ne.mp h2)]
      refine ok_if (fun h3 => ?_) (fun h3 => ?_)
      · rw [if_neg (lc_ne.mp h3)]
        exact ok_some rfl
      · rw [if_pos (Classical.byContradiction (fun q => h3 (lc_ne.mpr q)))]
        exact ok_some rfl
    · rw [if_pos (Classical.byContradiction (fun q => h2 (lc_ne.mpr q)))]
      exact ok_some rfl
  · rw [if_pos (Classical.byContradiction (fun q => h1 (lc_ne.mpr q)))]
    exact ok_some rfl
theorem k6_isLetter (a : Int) (s : pS) : f_X6_isLetter a s = some (if 97 ≤ a ∧ a ≤ 122 then 1 else 0, s) := by
  refine of_ok ?_
  unfold f_X6_isLetter f_X6_isLetter_16 f_X6_isLetter_17
  refine ok_if (fun h1 => ?_) (fun h1 => ok_if (fun h2 => ?_) (fun h2 => ?_))
  · rw [if_neg (by omega)]
    exact ok_ck (Or.inl rfl) (ok_some rfl)
  · rw [if_neg (by omega)]
    exact ok_ck (Or.inl rfl) (ok_some rfl)
  · rw [if_pos (by omega)]
    exact ok_ck (Or.inr rfl) (ok_some rfl)
section
variable {b : pS} {T : Nat → Int} {n p st rd kd lk hk : Int} {nu lu hu : UInt32} {D : Dr}
theorem rS_602 : sA (rS b p n st rd kd lk hk nu lu hu D) 602 0 = sA b 602 0 := rS_Ao (by decide)
theorem k6_now (h : RB b T n) (hp : 0 ≤ p) : f_X6_now (rS b p n st rd kd lk hk nu lu hu D) = some (nwc T n p, rS b p n st rd kd lk hk nu lu hu D) := by
  obtain ⟨h2, h3, h4, h5⟩ := h
  unfold f_X6_now f_X6_now_24 nwc
  rw [rS_I610, rS_I609, rS_602, h2]
  by_cases hl : p < n
  · rw [if_neg (show ¬ n ≤ p by omega), ck_pos (show 0 ≤ p ∧ p < 41 by omega), if_pos hl]
  · rw [if_pos (show n ≤ p by omega), if_neg hl]
/-- is a letter there -/
theorem k6_let (h : RB b T n) (hp : 0 ≤ p) {P : Int × pS → Prop} {k : Int × pS → Option (Int × pS)}
    (h1 : (p < n ∧ 97 ≤ T p.toNat ∧ T p.toNat ≤ 122) → ok (k (1, rS b p n st rd kd lk hk nu lu hu D)) P) (h0 : ¬ (p < n ∧ 97 ≤ T p.toNat ∧ T p.toNat ≤ 122) → ok (k (0, rS b p n st rd kd lk hk nu lu hu D)) P) :
    ok ((f_X6_now (rS b p n st rd kd lk hk nu lu hu D)).bind (fun q1 => (f_X6_isLetter q1.1 q1.2).bind k)) P := by
  refine ok_eq (k6_now h hp) (ok_eq (k6_isLetter _ _) ?_)
  unfold nwc
  by_cases hl : p < n
  · rw [if_pos hl]
    by_cases hz : 97 ≤ T p.toNat ∧ T p.toNat ≤ 122
    · rw [if_pos hz]; exact h1 ⟨hl, hz⟩
    · rw [if_neg hz]; exact h0 (fun q => hz q.2)
  · rw [if_neg hl, if_neg (by omega)]
    exact h0 (fun q => hl q.1)
theorem k6_takes (h : RB b T n) (hp : 0 ≤ p) (hpn : p ≤ n) (a : Int) : f_X6_takes a (rS b p n st rd kd lk hk nu lu hu D) = some (rb (Pt T n a p).1, rS b (Pt T n a p).2 n (stq (Pt T n a p).1 st (fz n (Pt T n a p).2)) rd kd lk hk nu lu hu D) := by
  obtain ⟨h2, h3, h4, h5⟩ := h
  refine of_ok ?_
  unfold f_X6_takes
  rw [rS_I610, rS_I609, rS_602, h2]
  by_cases hl : p < n
  · refine ok_pos (by omega) (ok_ck (by omega) ?_)
    by_cases hc : T p.toNat = a
    · refine ok_pos hc (ok_ck (inR_of (by omega)) (ok_bs ?_))
      rw [rS_I609w, Pt_y ⟨hl, hc⟩]
      exact ok_some rfl
    · refine ok_neg hc (ok_bs ?_)
      rw [rS_I611w, Pt_n (fun q => hc q.2)]
      refine ok_some ?_
      show _ = (0, rS b p n (fz n p) rd kd lk hk nu lu hu D)
      rw [show fz n p = 0 from if_neg (by omega)]
  · refine ok_neg (by omega) (ok_bs ?_)
    rw [rS_I611w, Pt_n (fun q => hl q.1)]
    refine ok_some ?_
    show _ = (0, rS b p n (fz n p) rd kd lk hk nu lu hu D)
    rw [show fz n p = 1 from if_pos (by omega)]
theorem k6_word_7 (h : RB b T n) : ∀ (ws : List Int) (N : Nat) (p : Int) (r : List Int), lts r → Run T n ws p → 0 ≤ p → p + ws.length ≤ n → ws.length < N → r.length + ws.length ≤ 40 →
    f_X6_word_7 (fun x1 x3 s1 => (if x3 = 0 then f_X6_word_86 x1 x1 s1 else f_X6_word_86 x1 (-1) s1)) N (if r.length ≤ 12 then cdr r else 0) (if r.length ≤ 12 then 0 else 1) (r.length : Int) (rS b p n st rd kd lk hk nu lu hu D) = some (wcd (ws.reverse ++ r), rS b (p + ws.length) n st rd kd lk hk nu lu hu D)
  | [], N + 1, p, r, hr, hR, hp, hn, hN, h40 => by
    refine of_ok ?_
    rw [f_X6_word_7]
    refine k6_let h hp (fun q => absurd q hR) (fun _ => ?_)
    refine ok_pos rfl ?_
    unfold f_X6_word_86
    rw [show ([] : List Int).reverse ++ r = r from rfl, show p + (([] : List Int).length : Int) = p by simp]
    unfold wcd
    by_cases h12 : r.length ≤ 12
    · rw [if_pos h12, if_pos h12, if_pos h12]
      exact ok_pos rfl (ok_some rfl)
    · rw [if_neg h12, if_neg h12, if_neg h12]
      exact ok_neg (by decide) (ok_some rfl)
  | x :: xs, N + 1, p, r, hr, hR, hp, hn, hN, h40 => by
    obtain ⟨a1, a2, a3, a4, a5⟩ := hR
    have hn40 := h.2.2.1
    rw [List.length_cons] at hn hN h40
    refine of_ok ?_
    rw [f_X6_word_7]
    refine k6_let h hp (fun _ => ?_) (fun q => absurd ⟨a1, by omega, by omega⟩ q)
    refine ok_neg (show ¬ (1 : Int) = 0 by decide) ?_
    have hr' : lts (x :: r) := fun y hy => by
      rcases List.mem_cons.mp hy with rfl | hy
      · exact ⟨a3, a4⟩
      · exact hr y hy
    have e1 : (x :: xs).reverse ++ r = xs.reverse ++ (x :: r) := by simp
    have e2 : p + (((x :: xs).length : Nat) : Int) = p + 1 + (xs.length : Int) := by rw [List.length_cons]; omega
    rw [e1, e2]
    have ih := k6_word_7 h xs N (p + 1) (x :: r) hr' a5 (by omega) (by omega) (by omega) (by rw [List.length_cons]; omega)
    rw [List.length_cons] at ih
    rw [show ((r.length + 1 : Nat) : Int) = (r.length : Int) + 1 by omega] at ih
    by_cases h11 : r.length ≤ 11
    · refine ok_pos (by omega) ?_
      have hb := cdr_11 hr h11
      have hb0 := cdr_nn hr
      unfold f_X6_word_29 f_X6_word_58
      rw [if_pos (show r.length ≤ 12 by omega), rS_I609, rS_602, h.1, a2]
      refine ok_pos rfl (ok_ck ⟨by omega, by omega⟩ (ok_ck (by omega) (ok_ck ⟨by omega, by omega⟩ (ok_ck ⟨by omega, by omega⟩ (ok_ck (inR_of (by omega)) (ok_bs (ok_ck (inR_of (by omega)) ?_)))))))
      rw [rS_I609w]
      rw [if_pos (show r.length + 1 ≤ 12 by omega), if_pos (show r.length + 1 ≤ 12 by omega)] at ih
      exact ok_of ih rfl
    · refine ok_neg (by omega) ?_
      unfold f_X6_word_29 f_X6_word_58
      rw [rS_I609]
      refine ok_neg (by decide) (ok_ck (inR_of (by omega)) (ok_bs (ok_ck (inR_of (by omega)) ?_)))
      rw [rS_I609w]
      rw [if_neg (show ¬ r.length + 1 ≤ 12 by omega), if_neg (show ¬ r.length + 1 ≤ 12 by omega)] at ih
      exact ok_of ih rfl
theorem k6_word (h : RB b T n) {ws : List Int} (hR : Run T n ws p) (hp : 0 ≤ p) (hn : p + ws.length ≤ n) : f_X6_word (rS b p n st rd kd lk hk nu lu hu D) = some (wcd ws.reverse, rS b (p + ws.length) n st rd kd lk hk nu lu hu D) := by
  unfold f_X6_word
  have h40 := h.2.2.1
  have e := k6_word_7 (st := st) (rd := rd) (kd := kd) (lk := lk) (hk := hk) (nu := nu) (lu := lu) (hu := hu) (D := D) h ws 400 p [] (fun x hx => by cases hx) hR hp hn (by omega) (by simp only [List.length_nil]; omega)
  rw [List.append_nil] at e
  exact e
theorem k6_isDigit (h : RB b T n) (hp : 0 ≤ p) : f_X6_isDigit (rS b p n st rd kd lk hk nu lu hu D) = some (if p < n ∧ 48 ≤ T p.toNat ∧ T p.toNat ≤ 57 then 1 else 0, rS b p n st rd kd lk hk nu lu hu D) := by
  refine of_ok ?_
  unfold f_X6_isDigit f_X6_isDigit_22 f_X6_isDigit_23
  refine ok_eq (k6_now h hp) ?_
  by_cases hl : p < n
  · have e : nwc T n p = T p.toNat := if_pos hl
    rw [e]
    refine ok_if (fun h1 => ?_) (fun h1 => ?_)
    · rw [if_neg (by omega)]
      exact ok_ck (Or.inl rfl) (ok_some rfl)
    · refine ok_eq (k6_now h hp) ?_
      rw [e]
      refine ok_if (fun h2 => ?_) (fun h2 => ?_)
      · rw [if_neg (by omega)]
        exact ok_ck (Or.inl rfl) (ok_some rfl)
      · rw [if_pos (by omega)]
        exact ok_ck (Or.inr rfl) (ok_some rfl)
  · have e : nwc T n p = -1 := if_neg hl
    rw [e, if_neg (show ¬ (p < n ∧ 48 ≤ T p.toNat ∧ T p.toNat ≤ 57) by omega)]
    exact ok_pos (show (-1 : Int) < 48 by decide) (ok_ck (Or.inl rfl) (ok_some rfl))
theorem k6_digits_7 (h : RB b T n) : ∀ (m N : Nat) (x1 kd x2 p : Int), 0 ≤ p → m < N → x1 = x2 + m → 0 ≤ x2 → x2 + m ≤ 4 → 0 ≤ kd → kd < tp x2 → ∀ v y p', Pd T n m kd x2 p = (some (v, y), p') → ∀ P, ok (f_X6_digits_59 y (rS b p' n st rd v lk hk nu lu hu D)) P → ok (f_X6_digits_7 (fun x2 s2 => f_X6_digits_59 x2 s2) N x1 x2 (rS b p n st rd kd lk hk nu lu hu D)) P
  | 0, N + 1, x1, kd, x2, p, hp, hN, h1, h2, h3, h4, h5, v, y, p', e, P, hk' => by
    have e : (some (kd, x2), p) = (some (v, y), p') := e
    injection e with e1 e2
    injection e1 with e1
    injection e1 with e1 e3
    rw [f_X6_digits_7]
    refine ok_pos (by omega) ?_
    rw [e1, e2, e3]
    exact hk'
  | m + 1, N + 1, x1, kd, x2, p, hp, hN, h1, h2, h3, h4, h5, v, y, p', e, P, hk' => by
    have e : (if p < n ∧ 48 ≤ T p.toNat ∧ T p.toNat ≤ 57 then Pd T n m (kd * 10 + (T p.toNat - 48)) (x2 + 1) (p + 1) else (some (kd, x2), p)) = (some (v, y), p') := e
    rw [f_X6_digits_7]
    refine ok_neg (by omega) (ok_eq (k6_isDigit h hp) ?_)
    by_cases hl : p < n ∧ 48 ≤ T p.toNat ∧ T p.toNat ≤ 57
    · rw [if_pos hl] at e
      rw [if_pos hl]
      have hs := tp_step h2 (by omega) h4 h5 (d := T p.toNat - 48) (by omega) (by omega)
      have ht := tp4 (c := x2 + 1)
      have ht2 := tp4 (c := x2)
      have h40 := h.2.2.1
      refine ok_neg (show ¬ (1 : Int) = 0 by decide) ?_
      rw [rS_I613, rS_I609, rS_602, h.1]
      refine ok_ck (inR_of (by omega)) (ok_ck (by omega) (ok_ck (inR_of (by omega)) (ok_ck (inR_of (by omega)) (ok_bs ?_))))
      rw [rS_I613w, rS_I609]
      refine ok_ck (inR_of (by omega)) (ok_bs ?_)
      rw [rS_I609w]
      refine ok_ck (inR_of (by omega)) ?_
      rw [show 10 * kd + T p.toNat - 48 = kd * 10 + (T p.toNat - 48) by omega]
      exact k6_digits_7 h m N x1 _ (x2 + 1) (p + 1) (by omega) (by omega) (by omega) (by omega) (by omega) hs.1 hs.2 v y p' e P hk'
    · rw [if_neg hl] at e
      rw [if_neg hl]
      injection e with e1 e2
      injection e1 with e1
      injection e1 with e1 e3
      refine ok_pos rfl ?_
      rw [e1, e2, e3]
      exact hk'
theorem k6_digits (h : RB b T n) (hp : 0 ≤ p) (m : Nat) (hm : m ≤ 4) {v y p' : Int} (e : Pd T n m 0 0 p = (some (v, y), p')) : f_X6_digits (m : Int) (rS b p n st rd kd lk hk nu lu hu D) = some (y, rS b p' n (if y = 0 then fz n p' else st) rd v lk hk nu lu hu D) := by
  refine of_ok ?_
  unfold f_X6_digits
  refine ok_bs ?_
  rw [rS_I613w]
  refine k6_digits_7 h m 400 _ 0 0 p hp (by omega) (by omega) (by omega) (by omega) (by omega) tp0 v y p' e _ ?_
  unfold f_X6_digits_59 f_X6_digits_83 f_X6_digits_80
  refine ok_if (fun h0 => ?_) (fun h0 => ?_)
  · rw [if_neg h0]
    exact ok_some rfl
  · have hy : y = 0 := Classical.byContradiction h0
    rw [rS_I609, rS_I610, if_pos hy]
    refine ok_if (fun h1 => ok_bs ?_) (fun h1 => ok_bs ?_)
    · rw [rS_I611w, show fz n p' = 0 from if_neg h1]
      exact ok_some rfl
    · rw [rS_I611w, show fz n p' = 1 from if_pos (Classical.byContradiction h1)]
      exact ok_some rfl
theorem k6_num (h : RB b T n) (hp : 0 ≤ p) : ok (f_X6_readNumber (rS b p n st rd kd lk hk nu lu hu D)) (fun q => q.1 = rb (Pnum T n p).1 ∧ ∃ st' kd' nu', q.2 = rS b (Pnum T n p).2 n st' rd kd' lk hk nu' lu hu D ∧ (∀ x, (Pnum T n p).1 = some x → nu' = x) ∧ ((Pnum T n p).1 = none → st' = fz n (Pnum T n p).2)) := by
  unfold f_X6_readNumber
  obtain ⟨v, y, e, q1, q2, q3, q4⟩ := Pd_ok T n 4 0 0 p (by omega) (by omega) (by omega) tp0
  have q5 := tp4 (c := y)
  have h40 := h.2.2.1
  refine ok_eq (k6_digits h hp 4 (by omega) e) ?_
  have E0 : Pnum T n p = (if y = 0 then Pz else Pc T n 46 (Pb (Pd T n 3 0 0) (fun w => if w.2 = 0 then Pz else Pp (FP.fadd (nmw v) (nmf w.1 w.2)))) (Pp (nmw v))) (p + (y - 0)) := Pb_some' e
  rw [E0]
  by_cases hy : y = 0
  · refine ok_neg (fun q => q hy) (ok_some ?_)
    rw [if_pos hy, if_pos hy]
    exact ⟨rfl, _, _, _, rfl, fun x hx => (by cases hx), fun _ => rfl⟩
  · refine ok_pos hy (ok_bs ?_)
    rw [if_neg hy, if_neg hy, rS_I613, rS_F614w]
    refine ok_eq (k6_now h (by omega)) ?_
    by_cases hd : p + (y - 0) < n ∧ T (p + (y - 0)).toNat = 46
    · rw [Pc_y hd]
      refine ok_pos ((nwc_eq (by decide)).mpr hd) ?_
      rw [rS_I609]
      refine ok_ck (inR_of (by omega)) (ok_bs ?_)
      rw [rS_I609w]
      obtain ⟨w, z, e2, r1, r2, r3, r4⟩ := Pd_ok T n 3 0 0 (p + (y - 0) + 1) (by omega) (by omega) (by omega) tp0
      have r5 := tp4 (c := z)
      refine ok_eq (k6_digits h (by omega) 3 (by omega) e2) ?_
      rw [Pb_some' e2]
      by_cases hz : z = 0
      · refine ok_neg (fun q => q hz) (ok_some ?_)
        rw [if_pos (show (w, z).2 = 0 from hz), if_pos hz]
        exact ⟨rfl, _, _, _, rfl, fun x hx => (by cases hx), fun _ => rfl⟩
      · rw [if_neg (show ¬ (w, z).2 = 0 from hz), if_neg hz]
        have hq := nmf_q (c := z) (v := w) (by omega) (by omega) r3 r4
        have hq2 := nma_q (v := v) (w := w) (c := z) q3 (by omega) (by omega) (by omega) r3 r4
        rw [rS_F614, rS_I613]
        have fin : ok (f_X6_readNumber_84 (FP.i2f (Int32.ofInt v)) (FP.i2f (Int32.ofInt w)) (dvr z) (rS b (p + (y - 0) + 1 + (z - 0)) n st rd w lk hk (FP.i2f (Int32.ofInt v)) lu hu D)) (fun q => q.1 = rb (Pp (α := UInt32) (FP.fadd (nmw v) (nmf w z)) (p + (y - 0) + 1 + (z - 0))).1 ∧ ∃ st' kd' nu', q.2 = rS b (Pp (α := UInt32) (FP.fadd (nmw v) (nmf w z)) (p + (y - 0) + 1 + (z - 0))).2 n st' rd kd' lk hk nu' lu hu D ∧ (∀ x, (Pp (α := UInt32) (FP.fadd (nmw v) (nmf w z)) (p + (y - 0) + 1 + (z - 0))).1 = some x → nu' = x) ∧ ((Pp (α := UInt32) (FP.fadd (nmw v) (nmf w z)) (p + (y - 0) + 1 + (z - 0))).1 = none → st' = fz n (Pp (α := UInt32) (FP.fadd (nmw v) (nmf w z)) (p + (y - 0) + 1 + (z - 0))).2)) := by
          unfold f_X6_readNumber_84
          refine ok_ck (fb_n32 hq.2 (by omega)) (ok_ck (fb_n32 hq2.2 (by omega)) (ok_bs (ok_some ?_)))
          rw [rS_F614w]
          exact ⟨rfl, _, _, _, rfl, fun x hx => Option.some.inj hx, fun hx => by cases hx⟩
        refine ok_pos hz (ok_if (fun a1 => ok_if (fun a2 => ?_) (fun a2 => ?_)) (fun a1 => ?_))
        · have : dvr z = UInt32.ofNat 1148846080 := by unfold dvr; rw [if_neg a1, if_neg a2]
          rw [this] at fin
          exact fin
        · have : dvr z = UInt32.ofNat 1120403456 := by unfold dvr; rw [if_neg a1, if_pos (Classical.byContradiction a2)]
          rw [this] at fin
          exact fin
        · have : dvr z = UInt32.ofNat 1092616192 := by unfold dvr; rw [if_pos (Classical.byContradiction a1)]
          rw [this] at fin
          exact fin
    · rw [Pc_n hd]
      refine ok_neg (fun q => hd ((nwc_eq (by decide)).mp q)) (ok_some ?_)
      exact ⟨rfl, _, _, _, rfl, fun x hx => Option.some.inj hx, fun hx => by cases hx⟩
end
