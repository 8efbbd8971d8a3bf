/-! ===== HIT AND ITEM ===== -/
/-- does x lie between p and p + e -/
def cvb (x p e : UInt32) : Bool := !decide (pm_fc .l x p < 0) && !decide (0 ≤ pm_fc .g x (FP.fadd p e))
def cvr (x p e : UInt32) : Int := if cvb x p e then 1 else 0
theorem k0_covers (A j : Nat) (x : UInt32) (s : pS) (hj : j < 10) (h0 : 0 ≤ sA s 11 A j ∧ sA s 11 A j ≤ 12) (hb : sA s 11 A j ≠ 0 → fb 120 (sB s 10 A (sA s 11 A j - 1).toNat) ∧ fb 120 (sB s 12 A j)) : f_X0_covers A j x s = some (if sA s 11 A j = 0 then 0 else cvr x (sB s 10 A (sA s 11 A j - 1).toNat) (sB s 12 A j), s) := by
  refine of_ok ?_
  unfold f_X0_covers f_X0_covers_48 f_X0_covers_49
  simp only [nnat]
  refine ok_ck (by omega) (ok_if (fun q => ?_) (fun q => ?_))
  · rw [if_neg q]
    obtain ⟨b1, b2⟩ := hb q
    refine ok_ck (by omega) (ok_ck (inR_of (by omega)) (ok_ck (by omega) (ok_bs ?_)))
    unfold cvr cvb
    refine ok_if (fun q1 => ok_ck (by simp) (ok_some ?_)) (fun q1 => ok_ck (by omega) (ok_ck (fb_n32 (fb_add b1 b2 (by omega)) (by omega)) (ok_if (fun q2 => ok_ck (by simp) (ok_some ?_)) (fun q2 => ok_ck (by simp) (ok_some ?_)))))
    · rw [decide_eq_true q1]; rfl
    · rw [decide_eq_false q1, decide_eq_true q2]; rfl
    · rw [decide_eq_false q1, decide_eq_false q2]; rfl
  · rw [if_pos (Classical.not_not.mp q)]
    exact ok_some rfl
theorem k6_covers (A j : Nat) (x : UInt32) (s : pS) (hA : A < 2) (hj : j < 10) (h0 : 1 ≤ sA s 631 0 (2 * j + A) ∧ sA s 631 0 (2 * j + A) ≤ 12) (hb : fb 120 (sB s 637 0 (12 * A + (sA s 631 0 (2 * j + A) - 1).toNat)) ∧ fb 120 (sB s 632 0 (2 * j + A))) : f_X6_covers j A x s = some (cvr x (sB s 637 0 (12 * A + (sA s 631 0 (2 * j + A) - 1).toNat)) (sB s 632 0 (2 * j + A)), s) := by
  refine of_ok ?_
  unfold f_X6_covers f_X6_covers_47 f_X6_covers_48
  have hfirst : f_X6_firstOf A j s = some (sA s 631 0 (2 * j + A) - 1, s) := by
    refine of_ok ?_
    unfold f_X6_firstOf
    rw [i2]
    exact ok_ck (inR_of (by omega)) (ok_ck (inR_of (by omega)) (ok_ck (by omega) (ok_ck (inR_of (by omega)) (ok_some rfl))))
  refine ok_ck (inR_of (by omega)) (ok_eq hfirst ?_)
  dsimp only
  have ei : (12 * (A : Int) + (sA s 631 0 (2 * j + A) - 1)).toNat = 12 * A + (sA s 631 0 (2 * j + A) - 1).toNat := by omega
  rw [ei]
  refine ok_ck (inR_of (by omega)) (ok_ck (by omega) (ok_bs ?_))
  rw [i2]
  unfold cvr cvb
  refine ok_if (fun q1 => ok_ck (by simp) (ok_some ?_)) (fun q1 => ok_ck (inR_of (by omega)) (ok_ck (inR_of (by omega)) (ok_ck (by omega) (ok_ck (fb_n32 (fb_add hb.1 hb.2 (by omega)) (by omega)) (ok_if (fun q2 => ok_ck (by simp) (ok_some ?_)) (fun q2 => ok_ck (by simp) (ok_some ?_)))))))
  · rw [decide_eq_true q1]; rfl
  · rw [decide_eq_false q1, decide_eq_true q2]; rfl
  · rw [decide_eq_false q1, decide_eq_false q2]; rfl
def hres (p : Nat → Bool) : Nat → Nat → Int
  | _, 0 => -1
  | k, d + 1 => if p k then (k : Int) else hres p (k + 1) d
theorem hres_none {p : Nat → Bool} : ∀ {d k : Nat}, (∀ j, k ≤ j → j < k + d → p j = false) → hres p k d = -1
  | 0, k, _ => rfl
  | d + 1, k, h => by
    rw [hres, if_neg (by rw [h k (by omega) (by omega)]; decide)]
    exact hres_none (fun j h1 h2 => h j (by omega) (by omega))
theorem hres_more {p : Nat → Bool} {e : Nat} : ∀ {d k : Nat}, (∀ j, k + d ≤ j → j < k + d + e → p j = false) → hres p k (d + e) = hres p k d
  | 0, k, h => by
    rw [Nat.zero_add]
    exact hres_none (fun j h1 h2 => h j (by omega) (by omega))
  | d + 1, k, h => by
    rw [show d + 1 + e = (d + e) + 1 by omega, hres, hres]
    split
    · rfl
    · exact hres_more (fun j h1 h2 => h j (by omega) (by omega))
theorem op_hit (x y : UInt32) (s : pS) (hI : Inv s) : opI (f_X5_hit x y) (f_X6_hit x y) s := by
  have hI' := hI
  obtain ⟨hT, hR, hP0, hP1, hC, hI0, hI1, hF, hS0, hS1, hL0, hL1, hX⟩ := hI'
  obtain ⟨c1, c2, c3⟩ := id hC
  obtain ⟨n, hn⟩ : ∃ n : Nat, sI s 504 0 = (n : Int) := ⟨(sI s 504 0).toNat, by omega⟩
  have hlb := hL0.2.2
  obtain ⟨li, hli⟩ : ∃ li : Nat, sI s 630 0 = (li : Int) := ⟨(sI s 630 0).toNat, by omega⟩
  have hln : li ≤ n := by have := hlb.2.1; omega
  have hn10 : n ≤ 10 := by omega
  have lab : ∀ A, gLs s A → ∀ j, j < n → (0 ≤ sA s 11 A j ∧ sA s 11 A j ≤ 12) ∧ (sA s 11 A j ≠ 0 → fb 120 (sB s 10 A (sA s 11 A j - 1).toNat) ∧ fb 120 (sB s 12 A j)) ∧ (j < li → sA s 11 A j = sA s 631 0 (2 * j + A)) ∧ (li ≤ j → sA s 11 A j = 0) ∧ (sA s 11 A j ≠ 0 → sB s 10 A (sA s 11 A j - 1).toNat = sB s 637 0 (12 * A + (sA s 11 A j - 1).toNat) ∧ sB s 12 A j = sB s 632 0 (2 * j + A)) := by
    intro A g j hj
    obtain ⟨g1, g2, g3, g4, g5⟩ := g
    obtain ⟨q1, q2⟩ := g5 j (by omega)
    by_cases hjl : j < li
    · obtain ⟨r1, r2, r3, r4⟩ := q1 (by omega)
      have hcnt : sI s 8 A ≤ 12 := by
        rcases g1 with l | l
        · omega
        · exact l.2.2.1
      refine ⟨⟨r2, by omega⟩, fun h0 => ?_, fun _ => r1, fun h => by omega, fun h0 => ?_⟩
      · rcases g1 with l | l
        · omega
        · have := l.2.2.2.2.2 (sA s 11 A j - 1).toNat (by omega)
          exact ⟨this.2.2.2, (r4 h0).2⟩
      · rcases g1 with l | l
        · omega
        · have := l.2.2.2.2.2 (sA s 11 A j - 1).toNat (by omega)
          exact ⟨this.2.1, (r4 h0).1⟩
    · have h0 := q2 (by omega)
      exact ⟨by omega, fun h => absurd h0 h, fun h => absurd h hjl, fun _ => h0, fun h => absurd h0 h⟩
  have l0 := lab 0 hL0
  have l1 := lab 1 hL1
  generalize hp : (fun j : Nat => decide (sA s 11 0 j ≠ 0) && (cvb x (sB s 10 0 (sA s 11 0 j - 1).toNat) (sB s 12 0 j) && cvb y (sB s 10 1 (sA s 11 1 j - 1).toNat) (sB s 12 1 j))) = p
  have e5 : f_X5_hit x y s = some (hres p 0 n, s) := by
    refine of_ok ?_
    unfold f_X5_hit
    have key : ∀ (d k N : Nat), d < N → k + d = n → ok (f_X5_hit_2 (fun s1 => some ((-1), s1)) N x y (k : Int) s) (fun q => q = (hres p k d, s)) := by
      intro d
      induction d with
      | zero =>
        intro k N h1 h2
        obtain ⟨N, rfl⟩ : ∃ q, N = q + 1 := ⟨N - 1, by omega⟩
        rw [f_X5_hit_2]
        exact ok_pos (by omega) (ok_some rfl)
      | succ d ih =>
        intro k N h1 h2
        obtain ⟨N, rfl⟩ : ∃ q, N = q + 1 := ⟨N - 1, by omega⟩
        have hk : k < n := by omega
        obtain ⟨a1, a2, a3, a4, a5⟩ := l0 k hk
        obtain ⟨b1, b2, b3, b4, b5⟩ := l1 k hk
        have hxk := hX k (by omega)
        have next := ih (k + 1) N (by omega) (by omega)
        rw [f_X5_hit_2, hres]
        unfold f_X5_hit_40
        refine ok_neg (by omega) (ok_eq (k0_covers 0 k x s (by omega) a1 a2) ?_)
        dsimp only
        have ep : p k = (decide (sA s 11 0 k ≠ 0) && (cvb x (sB s 10 0 (sA s 11 0 k - 1).toNat) (sB s 12 0 k) && cvb y (sB s 10 1 (sA s 11 1 k - 1).toNat) (sB s 12 1 k))) := by rw [← hp]
        by_cases h0 : sA s 11 0 k = 0
        · rw [if_pos h0]
          have : p k = false := by rw [ep, decide_eq_false (fun h => h h0)]; rfl
          rw [this]
          exact ok_pos rfl (ok_ck (inR_of (by omega)) next)
        · rw [if_neg h0]
          have h1' : sA s 11 1 k ≠ 0 := fun h => h0 (hxk.mpr h)
          rw [decide_eq_true h0, Bool.true_and] at ep
          unfold cvr
          cases hc0 : cvb x (sB s 10 0 (sA s 11 0 k - 1).toNat) (sB s 12 0 k) with
          | false =>
            rw [hc0, Bool.false_and] at ep
            rw [ep]
            exact ok_pos rfl (ok_ck (inR_of (by omega)) next)
          | true =>
            rw [hc0, Bool.true_and] at ep
            refine ok_neg (by decide) (ok_eq (k0_covers 1 k y s (by omega) b1 b2) ?_)
            dsimp only
            rw [if_neg h1']
            unfold cvr
            cases hc1 : cvb y (sB s 10 1 (sA s 11 1 k - 1).toNat) (sB s 12 1 k) with
            | false =>
              rw [hc1] at ep
              rw [ep]
              exact ok_pos rfl (ok_ck (inR_of (by omega)) next)
            | true =>
              rw [hc1] at ep
              rw [ep]
              exact ok_neg (by decide) (ok_some rfl)
    exact key n 0 400 (by omega) (by omega)
  have e6 : f_X6_hit x y s = some (hres p 0 li, wI s 600 0 0) := by
    refine of_ok ?_
    unfold f_X6_hit
    refine ok_bs ?_
    generalize hs1 : wI s 600 0 0 = s1
    have q630 : sI s1 630 0 = (li : Int) := by rw [← hs1, sI_wI, if_neg (by omega)]; exact hli
    have qA : ∀ f i, sA s1 f i = sA s f i := fun f i => by rw [← hs1, sA_wI]
    have qB : ∀ f i, sB s1 f i = sB s f i := fun f i => by rw [← hs1, sB_wI]
    have key : ∀ (d k N : Nat), d < N → k + d = li → ok (f_X6_hit_7 (fun s2 => some ((-1), s2)) N x y (k : Int) s1) (fun q => q = (hres p k d, s1)) := by
      intro d
      induction d with
      | zero =>
        intro k N h1 h2
        obtain ⟨N, rfl⟩ : ∃ q, N = q + 1 := ⟨N - 1, by omega⟩
        rw [f_X6_hit_7]
        exact ok_pos (by omega) (ok_some rfl)
      | succ d ih =>
        intro k N h1 h2
        obtain ⟨N, rfl⟩ : ∃ q, N = q + 1 := ⟨N - 1, by omega⟩
        have hk : k < n := by omega
        have hkl : k < li := by omega
        obtain ⟨a1, a2, a3, a4, a5⟩ := l0 k hk
        obtain ⟨b1, b2, b3, b4, b5⟩ := l1 k hk
        have hxk := hX k (by omega)
        have next := ih (k + 1) N (by omega) (by omega)
        have a3' := a3 hkl
        have b3' := b3 hkl
        rw [f_X6_hit_7, hres]
        unfold f_X6_hit_48
        rw [show (2 * (k : Int)).toNat = 2 * k + 0 by omega, qA 631 0, ← a3']
        have ep : p k = (decide (sA s 11 0 k ≠ 0) && (cvb x (sB s 10 0 (sA s 11 0 k - 1).toNat) (sB s 12 0 k) && cvb y (sB s 10 1 (sA s 11 1 k - 1).toNat) (sB s 12 1 k))) := by rw [← hp]
        refine ok_neg (by omega) (ok_ck (inR_of (by omega)) (ok_ck (by omega) (ok_if (fun q => ?_) (fun q => ?_))))
        · have h0 : sA s 11 0 k = 0 := by omega
          have : p k = false := by rw [ep, decide_eq_false (fun h => h h0)]; rfl
          rw [this]
          exact ok_ck (inR_of (by omega)) next
        · have h0 : sA s 11 0 k ≠ 0 := by omega
          have h1' : sA s 11 1 k ≠ 0 := fun h => h0 (hxk.mpr h)
          obtain ⟨u1, u2⟩ := a5 h0
          obtain ⟨v1, v2⟩ := b5 h1'
          have w0 := a2 h0
          have w1 := b2 h1'
          rw [decide_eq_true h0, Bool.true_and] at ep
          have cv0 := k6_covers 0 k x s1 (by omega) (by omega) (by rw [qA, ← a3']; omega) (by rw [qA, qB, qB, ← a3', ← u1, ← u2]; exact w0)
          rw [qA, qB, qB, ← a3', ← u1, ← u2] at cv0
          have cv1 := k6_covers 1 k y s1 (by omega) (by omega) (by rw [qA, ← b3']; omega) (by rw [qA, qB, qB, ← b3', ← v1, ← v2]; exact w1)
          rw [qA, qB, qB, ← b3', ← v1, ← v2] at cv1
          refine ok_eq cv0 ?_
          unfold cvr
          dsimp only
          cases hc0 : cvb x (sB s 10 0 (sA s 11 0 k - 1).toNat) (sB s 12 0 k) with
          | false =>
            rw [hc0, Bool.false_and] at ep
            rw [ep]
            exact ok_pos rfl (ok_ck (inR_of (by omega)) next)
          | true =>
            rw [hc0, Bool.true_and] at ep
            refine ok_neg (by decide) (ok_eq cv1 ?_)
            unfold cvr
            dsimp only
            cases hc1 : cvb y (sB s 10 1 (sA s 11 1 k - 1).toNat) (sB s 12 1 k) with
            | false =>
              rw [hc1] at ep
              rw [ep]
              exact ok_pos rfl (ok_ck (inR_of (by omega)) next)
            | true =>
              rw [hc1] at ep
              rw [ep]
              exact ok_neg (by decide) (ok_some rfl)
    exact key li 0 400 (by omega) (by omega)
  unfold opI
  refine ok_of e5 (ok_of e6 ⟨?_, inv_600 0 hI, Nat.le_succ _⟩)
  have := hres_more (p := p) (e := n - li) (d := li) (k := 0) (fun j h1 h2 => by
    rw [← hp]
    show (decide (sA s 11 0 j ≠ 0) && _) = false
    rw [decide_eq_false (fun h => h ((l0 j (by omega)).2.2.2.1 (by omega)))]
    rfl)
  rw [show li + (n - li) = n by omega] at this
  exact this
