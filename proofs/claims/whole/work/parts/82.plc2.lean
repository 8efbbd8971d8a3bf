/-! ===== PLACING: the class, all items (written by wip/whole/gen_plc2.py) ===== -/
abbrev PT : Type := (Nat → Int) × (Nat → Int) × (Nat → Int)
def stl (Q : PT) (j : Nat) (r c : Int) (h w : Nat) : PT := (pm_up Q.1 j r, pm_up Q.2.1 j c, stR Q.2.2 r c w h)
def mkR (s : pS) (m : Nat) (Q : PT) (LB : Nat → Int) (cm co : Int) : pS := mkP s m Q.1 Q.2.1 Q.2.2 LB cm co
def srch (p : Int → Bool) (lo : Int) : Nat → Option Int
  | 0 => none
  | k + 1 => if p lo then some lo else srch p (lo + 1) k
def sany (p : Int → Int → Bool) (cnt r c : Int) : Nat → Option (Int × Int)
  | 0 => none
  | k + 1 => match srch (p r) c (cnt + 1 - c).toNat with
    | some x => some (r, x)
    | none => sany p cnt (r + 1) 1 k
def tdP (sm so : Nat → Int) (hm wo : Nat → Nat) (Q : PT) : Nat → PT
  | 0 => Q
  | j + 1 => if sm j ≠ 0 ∧ so j ≠ 0 then stl (tdP sm so hm wo Q j) j (sm j) (so j) (hm j) (wo j) else tdP sm so hm wo Q j
def ms2 (Q : PT) (LB : Nat → Int) (j : Nat) (r : Int) (h w : Nat) : Option Int → PT × (Nat → Int)
  | none => (Q, LB)
  | some c => (stl Q j r c h w, pm_up LB r.toNat (c + w))
def ms1 (sm : Nat → Int) (hm wo : Nat → Nat) (cnt pk : Int) (R : PT × (Nat → Int)) (j : Nat) : PT × (Nat → Int) :=
  ms2 R.1 R.2 j (sm j) (hm j) (wo j) (srch (opn R.1.2.2 cnt (hm j) (wo j) (sm j)) (if pk = 0 then R.2 (sm j).toNat else 1) (cnt + 1 - (if pk = 0 then R.2 (sm j).toNat else 1)).toNat)
def msP (sm so : Nat → Int) (hm wo : Nat → Nat) (cnt pk : Int) (R : PT × (Nat → Int)) : Nat → PT × (Nat → Int)
  | 0 => R
  | j + 1 => if sm j ≠ 0 ∧ so j = 0 then ms1 sm hm wo cnt pk (msP sm so hm wo cnt pk R j) j else msP sm so hm wo cnt pk R j
def bc2 (Q : PT) (cm co : Int) (j : Nat) (h w : Nat) : Option (Int × Int) → PT × Int × Int
  | none => (Q, cm, co)
  | some x => (stl Q j x.1 x.2 h w, x.1, x.2)
def bc1 (so : Nat → Int) (hm wo : Nat → Nat) (cnt pk : Int) (R : PT × Int × Int) (j : Nat) : PT × Int × Int :=
  bc2 R.1 (if pk = 0 then R.2.1 else 1) (if pk = 0 then R.2.2 else 1) j (hm j) (wo j)
    (if so j ≠ 0 then (srch (fun r => opn R.1.2.2 cnt (hm j) (wo j) r (so j)) (if so j < (if pk = 0 then R.2.2 else 1) then (if pk = 0 then R.2.1 else 1) + 1 else (if pk = 0 then R.2.1 else 1)) (13 - (if so j < (if pk = 0 then R.2.2 else 1) then (if pk = 0 then R.2.1 else 1) + 1 else (if pk = 0 then R.2.1 else 1))).toNat).map (fun r => (r, so j))
      else sany (opn R.1.2.2 cnt (hm j) (wo j)) cnt (if pk = 0 then R.2.1 else 1) (if pk = 0 then R.2.2 else 1) (13 - (if pk = 0 then R.2.1 else 1)).toNat)
def bcP (sm so : Nat → Int) (hm wo : Nat → Nat) (cnt pk : Int) (R : PT × Int × Int) : Nat → PT × Int × Int
  | 0 => R
  | j + 1 => if sm j = 0 then bc1 so hm wo cnt pk (bcP sm so hm wo cnt pk R j) j else bcP sm so hm wo cnt pk R j
theorem srch_some {p : Int → Bool} {x : Int} : ∀ {k : Nat} {lo : Int}, srch p lo k = some x → lo ≤ x ∧ x < lo + k ∧ p x = true
  | 0, lo, h => by cases h
  | k + 1, lo, h => by
    rw [srch] at h
    by_cases hp : p lo = true
    · rw [if_pos hp] at h
      cases h
      exact ⟨Int.le_refl _, by omega, hp⟩
    · rw [if_neg hp] at h
      have := srch_some h
      exact ⟨by omega, by omega, this.2.2⟩
theorem sany_some {p : Int → Int → Bool} {cnt : Int} {x : Int × Int} : ∀ {k : Nat} {r c : Int}, 1 ≤ c → sany p cnt r c k = some x → r ≤ x.1 ∧ x.1 < r + k ∧ 1 ≤ x.2 ∧ p x.1 x.2 = true
  | 0, r, c, h0, h => by cases h
  | k + 1, r, c, h0, h => by
    rw [sany] at h
    cases hs : srch (p r) c (cnt + 1 - c).toNat with
    | some y =>
      rw [hs] at h
      have := srch_some hs
      cases h
      exact ⟨Int.le_refl _, by omega, by omega, this.2.2⟩
    | none =>
      rw [hs] at h
      have := sany_some (by omega) h
      exact ⟨by omega, by omega, this.2.2⟩
theorem opn_b {T : Nat → Int} {cnt : Int} {h w : Nat} {r c : Int} (hp : opn T cnt h w r c = true) : r + h ≤ 13 ∧ c + w ≤ cnt + 1 := by
  unfold opn at hp
  rw [Bool.and_eq_true, Bool.and_eq_true] at hp
  exact ⟨of_decide_eq_true hp.1, of_decide_eq_true hp.2.1⟩
/-- where the items stand is in the grid -/
def pin (n : Nat) (cnt : Int) (hm wo : Nat → Nat) (Q : PT) : Prop := ∀ j, j < n → (Q.1 j = 0 ∧ Q.2.1 j = 0) ∨ (1 ≤ Q.1 j ∧ Q.1 j + hm j ≤ 13 ∧ 1 ≤ Q.2.1 j ∧ Q.2.1 j + wo j ≤ cnt + 1)
theorem pin_stl {n : Nat} {cnt : Int} {hm wo : Nat → Nat} {Q : PT} {j : Nat} {r c : Int} (h : pin n cnt hm wo Q) (h1 : 1 ≤ r ∧ r + hm j ≤ 13) (h2 : 1 ≤ c ∧ c + wo j ≤ cnt + 1) : pin n cnt hm wo (stl Q j r c (hm j) (wo j)) := by
  intro i hi
  show (pm_up Q.1 j r i = 0 ∧ pm_up Q.2.1 j c i = 0) ∨ (1 ≤ pm_up Q.1 j r i ∧ pm_up Q.1 j r i + hm i ≤ 13 ∧ 1 ≤ pm_up Q.2.1 j c i ∧ pm_up Q.2.1 j c i + wo i ≤ cnt + 1)
  by_cases hij : i = j
  · subst hij
    rw [up_eq, up_eq]
    exact Or.inr ⟨h1.1, h1.2, h2.1, h2.2⟩
  · rw [up_ne _ _ hij, up_ne _ _ hij]
    exact h i hi
theorem tdP_pin {n : Nat} {cnt : Int} {sm so : Nat → Int} {hm wo : Nat → Nat} {Q : PT} (hI : itm n cnt sm so hm wo) (h : pin n cnt hm wo Q) : ∀ {k : Nat}, k ≤ n → pin n cnt hm wo (tdP sm so hm wo Q k)
  | 0, _ => h
  | k + 1, hk => by
    have ih := tdP_pin hI h (k := k) (by omega)
    obtain ⟨hn, hc1, hc2, hI2⟩ := hI
    obtain ⟨i1, i2, i3, i4, i5, i6, i7, i8, i9⟩ := hI2 k (by omega)
    rw [tdP]
    split
    · rename_i hq
      exact pin_stl ih (by omega) (by have := i8 hq.2; omega)
    · exact ih
theorem ms1_pin {n : Nat} {cnt pk : Int} {sm so : Nat → Int} {hm wo : Nat → Nat} {R : PT × (Nat → Int)} {j : Nat} (hI : itm n cnt sm so hm wo) (hj : j < n) (hs : sm j ≠ 0) (h : pin n cnt hm wo R.1) (hl : ∀ v : Nat, v < 13 → 1 ≤ R.2 v ∧ R.2 v ≤ 13) : pin n cnt hm wo (ms1 sm hm wo cnt pk R j).1 ∧ ∀ v : Nat, v < 13 → 1 ≤ (ms1 sm hm wo cnt pk R j).2 v ∧ (ms1 sm hm wo cnt pk R j).2 v ≤ 13 := by
  obtain ⟨hn, hc1, hc2, hI2⟩ := hI
  obtain ⟨i1, i2, i3, i4, i5, i6, i7, i8, i9⟩ := hI2 j hj
  unfold ms1
  cases hq : srch (opn R.1.2.2 cnt (hm j) (wo j) (sm j)) (if pk = 0 then R.2 (sm j).toNat else 1) (cnt + 1 - (if pk = 0 then R.2 (sm j).toNat else 1)).toNat with
  | none => exact ⟨h, hl⟩
  | some x =>
    have h1 := srch_some hq
    have h2 := opn_b h1.2.2
    have h3 : 1 ≤ (if pk = 0 then R.2 (sm j).toNat else 1) := by
      split
      · exact (hl _ (by omega)).1
      · omega
    refine ⟨pin_stl h (by omega) (by omega), fun v hv => ?_⟩
    show 1 ≤ pm_up R.2 (sm j).toNat (x + (wo j : Int)) v ∧ pm_up R.2 (sm j).toNat (x + (wo j : Int)) v ≤ 13
    unfold pm_up
    split
    · omega
    · exact hl v hv
theorem msP_pin {n : Nat} {cnt pk : Int} {sm so : Nat → Int} {hm wo : Nat → Nat} {R : PT × (Nat → Int)} (hI : itm n cnt sm so hm wo) (h : pin n cnt hm wo R.1) (hl : ∀ v : Nat, v < 13 → 1 ≤ R.2 v ∧ R.2 v ≤ 13) : ∀ {k : Nat}, k ≤ n → pin n cnt hm wo (msP sm so hm wo cnt pk R k).1 ∧ ∀ v : Nat, v < 13 → 1 ≤ (msP sm so hm wo cnt pk R k).2 v ∧ (msP sm so hm wo cnt pk R k).2 v ≤ 13
  | 0, _ => ⟨h, hl⟩
  | k + 1, hk => by
    have ih := msP_pin hI h hl (pk := pk) (k := k) (by omega)
    rw [msP]
    split
    · rename_i hq
      exact ms1_pin hI (by omega) hq.1 ih.1 ih.2
    · exact ih
theorem bc1_pin {n : Nat} {cnt pk : Int} {sm so : Nat → Int} {hm wo : Nat → Nat} {R : PT × Int × Int} {j : Nat} (hI : itm n cnt sm so hm wo) (hj : j < n) (h : pin n cnt hm wo R.1) (hc : 1 ≤ R.2.1 ∧ R.2.1 ≤ 12 ∧ 1 ≤ R.2.2 ∧ R.2.2 ≤ cnt) : pin n cnt hm wo (bc1 so hm wo cnt pk R j).1 ∧ (1 ≤ (bc1 so hm wo cnt pk R j).2.1 ∧ (bc1 so hm wo cnt pk R j).2.1 ≤ 12 ∧ 1 ≤ (bc1 so hm wo cnt pk R j).2.2 ∧ (bc1 so hm wo cnt pk R j).2.2 ≤ cnt) := by
  obtain ⟨hn, hc1, hc2, hI2⟩ := hI
  obtain ⟨i1, i2, i3, i4, i5, i6, i7, i8, i9⟩ := hI2 j hj
  have e1 : 1 ≤ (if pk = 0 then R.2.1 else 1) ∧ (if pk = 0 then R.2.1 else 1) ≤ 12 := by split <;> omega
  have e2 : 1 ≤ (if pk = 0 then R.2.2 else 1) ∧ (if pk = 0 then R.2.2 else 1) ≤ cnt := by split <;> omega
  unfold bc1
  generalize (if pk = 0 then R.2.1 else 1) = a at *
  generalize (if pk = 0 then R.2.2 else 1) = b at *
  by_cases hs : so j ≠ 0
  · rw [if_pos hs]
    have e3 : 1 ≤ (if so j < b then a + 1 else a) := by split <;> omega
    cases hq : srch (fun r => opn R.1.2.2 cnt (hm j) (wo j) r (so j)) (if so j < b then a + 1 else a) (13 - (if so j < b then a + 1 else a)).toNat with
    | none => exact ⟨h, by show 1 ≤ a ∧ a ≤ 12 ∧ 1 ≤ b ∧ b ≤ cnt; omega⟩
    | some x =>
      have h1 := srch_some hq
      have h2 := opn_b h1.2.2
      exact ⟨pin_stl (r := x) (c := so j) h (by omega) (by omega), by show 1 ≤ x ∧ x ≤ 12 ∧ 1 ≤ so j ∧ so j ≤ cnt; omega⟩
  · rw [if_neg hs]
    cases hq : sany (opn R.1.2.2 cnt (hm j) (wo j)) cnt a b (13 - a).toNat with
    | none => exact ⟨h, by show 1 ≤ a ∧ a ≤ 12 ∧ 1 ≤ b ∧ b ≤ cnt; omega⟩
    | some x =>
      have h1 := sany_some (by omega) hq
      have h2 := opn_b h1.2.2.2
      exact ⟨pin_stl h (by omega) (by omega), by show 1 ≤ x.1 ∧ x.1 ≤ 12 ∧ 1 ≤ x.2 ∧ x.2 ≤ cnt; omega⟩
theorem bcP_pin {n : Nat} {cnt pk : Int} {sm so : Nat → Int} {hm wo : Nat → Nat} {R : PT × Int × Int} (hI : itm n cnt sm so hm wo) (h : pin n cnt hm wo R.1) (hc : 1 ≤ R.2.1 ∧ R.2.1 ≤ 12 ∧ 1 ≤ R.2.2 ∧ R.2.2 ≤ cnt) : ∀ {k : Nat}, k ≤ n → pin n cnt hm wo (bcP sm so hm wo cnt pk R k).1 ∧ (1 ≤ (bcP sm so hm wo cnt pk R k).2.1 ∧ (bcP sm so hm wo cnt pk R k).2.1 ≤ 12 ∧ 1 ≤ (bcP sm so hm wo cnt pk R k).2.2 ∧ (bcP sm so hm wo cnt pk R k).2.2 ≤ cnt)
  | 0, _ => ⟨h, hc⟩
  | k + 1, hk => by
    have ih := bcP_pin hI h hc (pk := pk) (k := k) (by omega)
    rw [bcP]
    split
    · exact bc1_pin hI (by omega) ih.1 ih.2
    · exact ih
section
variable {s : pS} {m n : Nat} {cnt pk : Int} {sm so : Nat → Int} {hm wo : Nat → Nat}
theorem k1_placeTold (hV : cpl s m n cnt pk sm so hm wo) (Q : PT) (LB : Nat → Int) (cm co : Int) : f_X1_placeTold (mkR s m Q LB cm co) = some (mkR s m (tdP sm so hm wo Q n) LB cm co) := by
  have hV' := hV
  obtain ⟨hm2, e100, e101, e102, e103, e104, hIt, hA⟩ := hV'
  obtain ⟨hn, hc1, hc2, hI⟩ := id hIt
  refine of_ok ?_
  unfold f_X1_placeTold
  refine itS (fun r k => f_X1_placeTold_2 (fun s1 => some s1) r (k : Int) (mkR s m (tdP sm so hm wo Q k) LB cm co)) n _ (fun r k hk ih => ?_) (fun r => ?_) 400 0 (by omega) (by omega)
  · obtain ⟨i1, i2, i3, i4, i5, i6, i7, i8, i9⟩ := hI k hk
    obtain ⟨a1, a2, a3, a4⟩ := hA k hk
    rw [f_X1_placeTold_2]
    unfold f_X1_placeTold_57
    simp only [mkR, pI100, pI101, pI102, e100, e101, e102, nnat, pA4, a1, a2]
    rw [tdP] at ih
    refine ok_neg (by omega) (ok_ck (by omega) (ok_ck (by omega) (ok_if (fun q => ok_ck (inR_of (by omega)) ?_) (fun q => ok_ck (by omega) (ok_ck (by omega) (ok_if (fun q2 => ok_ck (inR_of (by omega)) ?_) (fun q2 => ?_)))))))
    · rw [if_neg (fun h => h.1 q)] at ih
      exact ih
    · rw [if_neg (fun h => h.2 q2)] at ih
      exact ih
    · rw [if_pos ⟨q, q2⟩] at ih
      have h8 := i8 q2
      refine ok_ck (by omega) (ok_ck (by omega) (ok_ck (by omega) (ok_ck (by omega) (ok_eq (k1_settle hV _ _ _ _ _ _ k (sm k) (so k) hk (by omega) (by omega)) (ok_ck (inR_of (by omega)) ih)))))
  · rw [f_X1_placeTold_2]
    exact ok_pos (by show sI s 102 0 ≤ _; omega) (ok_some rfl)
theorem k1_21 (hV : cpl s m n cnt pk sm so hm wo) (Q : PT) (LB : Nat → Int) (cm co : Int) (j : Nat) (r : Int) (hj : j < n) (hr : 1 ≤ r ∧ r ≤ 12) : ∀ (k N : Nat) (x : Int), k < N → k = (cnt + 1 - x).toNat → 1 ≤ x → x ≤ 13 → ok (f_X1_placeOnMainLine_21 (fun s1 => some s1) N j r x (mkR s m Q LB cm co)) (fun u => u = mkR s m (ms2 Q LB j r (hm j) (wo j) (srch (opn Q.2.2 cnt (hm j) (wo j) r) x k)).1 (ms2 Q LB j r (hm j) (wo j) (srch (opn Q.2.2 cnt (hm j) (wo j) r) x k)).2 cm co) := by
  have hV' := hV
  obtain ⟨hm2, e100, e101, e102, e103, e104, hIt, hA⟩ := hV'
  obtain ⟨hn, hc1, hc2, hI⟩ := id hIt
  obtain ⟨i1, i2, i3, i4, i5, i6, i7, i8, i9⟩ := hI j hj
  obtain ⟨a1, a2, a3, a4⟩ := hA j hj
  intro k
  induction k with
  | zero =>
    intro N x h1 h2 h3 h4
    obtain ⟨N, rfl⟩ : ∃ q, N = q + 1 := ⟨N - 1, by omega⟩
    rw [f_X1_placeOnMainLine_21]
    exact ok_pos (by show sI s 104 0 < x; omega) (ok_some rfl)
  | succ k ih =>
    intro N x h1 h2 h3 h4
    obtain ⟨N, rfl⟩ : ∃ q, N = q + 1 := ⟨N - 1, by omega⟩
    rw [f_X1_placeOnMainLine_21, srch]
    refine ok_neg (by show ¬ sI s 104 0 < x; omega) (ok_eq (k1_isOpen hV _ _ _ _ _ _ j r x hj (by omega) (by omega)) ?_)
    dsimp only
    cases ho : opn Q.2.2 cnt (hm j) (wo j) r x with
    | false =>
      refine ok_pos rfl (ok_ck (inR_of (by omega)) ?_)
      exact ih N (x + 1) (by omega) (by omega) (by omega) (by omega)
    | true =>
      have hb := opn_b ho
      refine ok_neg (by decide) (ok_eq (k1_settle hV _ _ _ _ _ _ j r x hj (by omega) (by omega)) ?_)
      simp only [pI101, e101, nnat, pA5, a4, p108]
      refine ok_ck (by omega) (ok_ck (by omega) (ok_ck (inR_of (by omega)) (ok_ck (by omega) (ok_bs ?_))))
      rw [v108]
      exact ok_some rfl
theorem k1_placeWithMainStart (hV : cpl s m n cnt pk sm so hm wo) (Q : PT) (LB : Nat → Int) (cm co : Int) (hQ : pin n cnt hm wo Q) (hL : ∀ v : Nat, v < 13 → 1 ≤ LB v ∧ LB v ≤ 13) : f_X1_placeWithMainStart (mkR s m Q LB cm co) = some (mkR s m (msP sm so hm wo cnt pk (Q, LB) n).1 (msP sm so hm wo cnt pk (Q, LB) n).2 cm co) := by
  have hV' := hV
  obtain ⟨hm2, e100, e101, e102, e103, e104, hIt, hA⟩ := hV'
  obtain ⟨hn, hc1, hc2, hI⟩ := id hIt
  refine of_ok ?_
  unfold f_X1_placeWithMainStart
  refine itS (fun r k => f_X1_placeWithMainStart_2 (fun s1 => some s1) r (k : Int) (mkR s m (msP sm so hm wo cnt pk (Q, LB) k).1 (msP sm so hm wo cnt pk (Q, LB) k).2 cm co)) n _ (fun r k hk ih => ?_) (fun r => ?_) 400 0 (by omega) (by omega)
  · obtain ⟨i1, i2, i3, i4, i5, i6, i7, i8, i9⟩ := hI k hk
    obtain ⟨a1, a2, a3, a4⟩ := hA k hk
    have hpk := msP_pin (R := (Q, LB)) (pk := pk) hIt hQ hL (k := k) (by omega)
    rw [f_X1_placeWithMainStart_2]
    unfold f_X1_placeWithMainStart_48
    rw [msP] at ih
    generalize msP sm so hm wo cnt pk (Q, LB) k = R at *
    simp only [mkR, pI100, pI101, pI102, e100, e101, e102, nnat, pA4, a1, a2]
    refine ok_neg (by omega) (ok_ck (by omega) (ok_ck (by omega) (ok_if (fun q => ok_ck (inR_of (by omega)) ?_) (fun q => ok_ck (by omega) (ok_ck (by omega) (ok_if (fun q2 => ok_ck (inR_of (by omega)) ?_) (fun q2 => ?_)))))))
    · rw [if_neg (fun h => h.1 q)] at ih
      exact ih
    · rw [if_neg (fun h => q2 h.2)] at ih
      exact ih
    · have q2' : so k = 0 := Classical.not_not.mp q2
      rw [if_pos ⟨q, q2'⟩] at ih
      refine ok_ck (by omega) (ok_ck (by omega) ?_)
      unfold f_X1_placeOnMainLine f_X1_placeOnMainLine_17
      simp only [pI103, e103, p108]
      have fin : ∀ x : Int, x = (if pk = 0 then R.2 (sm k).toNat else 1) → 1 ≤ x → x ≤ 13 → ok ((f_X1_placeOnMainLine_21 (fun s1 => some s1) 400 k (sm k) x (mkP s m R.1.1 R.1.2.1 R.1.2.2 R.2 cm co)).bind (fun q7 => ck (inR ((k : Int) + 1)) (f_X1_placeWithMainStart_2 (fun s1 => some s1) r ((k : Int) + 1) q7))) (fun x => x = mkP s m (msP sm so hm wo cnt pk (Q, LB) n).1.1 (msP sm so hm wo cnt pk (Q, LB) n).1.2.1 (msP sm so hm wo cnt pk (Q, LB) n).1.2.2 (msP sm so hm wo cnt pk (Q, LB) n).2 cm co) := by
        intro x hx hx1 hx2
        refine ok_seq (k1_21 hV R.1 R.2 cm co k (sm k) hk (by omega) _ 400 x (by omega) rfl hx1 hx2) (fun u hu => ?_)
        rw [hu]
        refine ok_ck (inR_of (by omega)) ?_
        unfold ms1 at ih
        rw [← hx] at ih
        exact ih
      refine ok_bind ?_
      refine ok_if (fun q3 => ok_ck (by omega) ?_) (fun q3 => ?_)
      · have h5 := hpk.2 (sm k).toNat (by omega)
        obtain ⟨u, hu, hu2⟩ := fin (R.2 (sm k).toNat) (by rw [if_pos q3]) h5.1 h5.2
        obtain ⟨y, hy, hy2⟩ := Option.bind_eq_some_iff.mp hu
        exact ⟨y, hy, u, hy2, hu2⟩
      · obtain ⟨u, hu, hu2⟩ := fin 1 (by rw [if_neg q3]) (by omega) (by omega)
        obtain ⟨y, hy, hy2⟩ := Option.bind_eq_some_iff.mp hu
        exact ⟨y, hy, u, hy2, hu2⟩
  · rw [f_X1_placeWithMainStart_2]
    exact ok_pos (by show sI s 102 0 ≤ _; omega) (ok_some rfl)
end
