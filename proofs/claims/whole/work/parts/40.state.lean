/-! ===== THE STATE: numbers by name, and the world that it stands for (written by wip/whole/gen_state.py) ===== -/
abbrev pS : Type := (Nat → Nat → Int) × (Nat → Nat → UInt32) × (Nat → Nat → Nat → Int) × (Nat → Nat → Nat → UInt32) × (Nat → UInt64) × Nat
def sI (s : pS) (f i : Nat) : Int := s.1 f i
def sF (s : pS) (f i : Nat) : UInt32 := s.2.1 f i
def sA (s : pS) (f i : Nat) : Nat → Int := s.2.2.1 f i
def sB (s : pS) (f i : Nat) : Nat → UInt32 := s.2.2.2.1 f i
def sD (s : pS) : Nat → UInt64 := s.2.2.2.2.1
def sN (s : pS) : Nat := s.2.2.2.2.2
def up2 {α : Type} (g : Nat → Nat → α) (f i : Nat) (v : α) : Nat → Nat → α := fun f' i' => if f' = f ∧ i' = i then v else g f' i'
def wI (s : pS) (f i : Nat) (v : Int) : pS := (up2 s.1 f i v, s.2)
def wF (s : pS) (f i : Nat) (v : UInt32) : pS := (s.1, up2 s.2.1 f i v, s.2.2)
def wA (s : pS) (f i : Nat) (v : Nat → Int) : pS := (s.1, s.2.1, up2 s.2.2.1 f i v, s.2.2.2)
def wB (s : pS) (f i : Nat) (v : Nat → UInt32) : pS := (s.1, s.2.1, s.2.2.1, up2 s.2.2.2.1 f i v, s.2.2.2.2)
def wD (s : pS) (v : Nat → UInt64) : pS := (s.1, s.2.1, s.2.2.1, s.2.2.2.1, v, s.2.2.2.2.2)
def wN (s : pS) : pS := (s.1, s.2.1, s.2.2.1, s.2.2.2.1, s.2.2.2.2.1, s.2.2.2.2.2 + 1)
/-- the cell of the object i of the kind c -/
def cc (c i : Nat) : Nat := match c with
  | 0 => 9 + 14 * i
  | 2 => 38 + 3 * i
  | 3 => if i = 2 then 2 else 10 + 14 * i
  | 1 => 44 + i
  | 4 => 1 + i
  | 5 => 0 + i
  | _ => 47 + i
/-- the cell of the array f of the object i -/
def ca (f i : Nat) : Nat := match f with
  | 4 => 15 + 14 * i
  | 5 => 16 + 14 * i
  | 6 => 17 + 14 * i
  | 7 => 18 + 14 * i
  | 9 => 19 + 14 * i
  | 10 => 20 + 14 * i
  | 11 => 21 + 14 * i
  | 12 => 22 + 14 * i
  | 107 => 45 + i
  | 108 => 46 + i
  | 203 => 39 + 3 * i
  | 204 => 40 + 3 * i
  | 300 => cc 3 i + 1
  | 301 => cc 3 i + 2
  | 302 => cc 3 i + 3
  | 303 => cc 3 i + 4
  | 402 => 7 + i
  | 602 => 48 + i
  | 604 => 49 + i
  | 605 => 50 + i
  | 606 => 51 + i
  | 607 => 52 + i
  | 608 => 53 + i
  | 620 => 54 + i
  | 621 => 55 + i
  | 622 => 56 + i
  | 623 => 57 + i
  | 626 => 58 + i
  | 627 => 59 + i
  | 628 => 60 + i
  | 631 => 61 + i
  | 632 => 62 + i
  | 633 => 63 + i
  | 634 => 64 + i
  | 635 => 65 + i
  | 636 => 66 + i
  | 637 => 67 + i
  | 638 => 68 + i
  | 639 => 69 + i
  | 643 => 70 + i
  | 644 => 71 + i
  | 645 => 72 + i
  | 700 => 73 + i
  | 701 => 74 + i
  | _ => 0
/-- the cell of an array of references -/
def cr (f : Nat) : Nat := if f = 501 then 8 else 37
def shpL : List (Nat × Nat × Nat) := [(0, 5, 0), (0, 4, 0), (0, 3, 2), (1, 300, 2), (1, 301, 2), (1, 302, 2), (1, 303, 2), (1, 402, 0), (2, 501, 0), (0, 0, 0), (0, 3, 0), (1, 300, 0), (1, 301, 0), (1, 302, 0), (1, 303, 0), (1, 4, 0), (1, 5, 0), (1, 6, 0), (1, 7, 0), (1, 9, 0), (1, 10, 0), (1, 11, 0), (1, 12, 0), (0, 0, 1), (0, 3, 1), (1, 300, 1), (1, 301, 1), (1, 302, 1), (1, 303, 1), (1, 4, 1), (1, 5, 1), (1, 6, 1), (1, 7, 1), (1, 9, 1), (1, 10, 1), (1, 11, 1), (1, 12, 1), (2, 502, 0), (0, 2, 0), (1, 203, 0), (1, 204, 0), (0, 2, 1), (1, 203, 1), (1, 204, 1), (0, 1, 0), (1, 107, 0), (1, 108, 0), (0, 6, 0), (1, 602, 0), (1, 604, 0), (1, 605, 0), (1, 606, 0), (1, 607, 0), (1, 608, 0), (1, 620, 0), (1, 621, 0), (1, 622, 0), (1, 623, 0), (1, 626, 0), (1, 627, 0), (1, 628, 0), (1, 631, 0), (1, 632, 0), (1, 633, 0), (1, 634, 0), (1, 635, 0), (1, 636, 0), (1, 637, 0), (1, 638, 0), (1, 639, 0), (1, 643, 0), (1, 644, 0), (1, 645, 0), (1, 700, 0), (1, 701, 0)]
def rf (c b i : Nat) (s : pS) : Nat := match c, b with
  | 0, 0 => cc 3 i
  | 0, 4 => ca 4 i
  | 0, 5 => ca 5 i
  | 0, 6 => ca 6 i
  | 0, 7 => ca 7 i
  | 0, 9 => ca 9 i
  | 0, 10 => ca 10 i
  | 0, 11 => ca 11 i
  | 0, 12 => ca 12 i
  | 1, 0 => cc 0 (sI s 100 0).toNat
  | 1, 1 => cc 0 (sI s 101 0).toNat
  | 1, 7 => ca 107 i
  | 1, 8 => ca 108 i
  | 2, 0 => cc 0 i
  | 2, 1 => cc 3 i
  | 2, 2 => ca 9 i
  | 2, 3 => ca 203 i
  | 2, 4 => ca 204 i
  | 3, 0 => ca 300 i
  | 3, 1 => ca 301 i
  | 3, 2 => ca 302 i
  | 3, 3 => ca 303 i
  | 4, 0 => cc 3 2
  | 4, 2 => ca 402 i
  | 5, 0 => cc 4 0
  | 5, 1 => cr 501
  | 5, 2 => cr 502
  | 5, 3 => cc 1 0
  | 6, 2 => ca 602 i
  | 6, 4 => ca 604 i
  | 6, 5 => ca 605 i
  | 6, 6 => ca 606 i
  | 6, 7 => ca 607 i
  | 6, 8 => ca 608 i
  | 6, 20 => ca 620 i
  | 6, 21 => ca 621 i
  | 6, 22 => ca 622 i
  | 6, 23 => ca 623 i
  | 6, 26 => ca 626 i
  | 6, 27 => ca 627 i
  | 6, 28 => ca 628 i
  | 6, 31 => ca 631 i
  | 6, 32 => ca 632 i
  | 6, 33 => ca 633 i
  | 6, 34 => ca 634 i
  | 6, 35 => ca 635 i
  | 6, 36 => ca 636 i
  | 6, 37 => ca 637 i
  | 6, 38 => ca 638 i
  | 6, 39 => ca 639 i
  | 6, 43 => ca 643 i
  | 6, 44 => ca 644 i
  | 6, 45 => ca 645 i
  | _, _ => 0
def fv (c b i : Nat) (s : pS) : pV := match pm_ty c b with
  | .float => vF (sF s (100 * c + b) i)
  | .int => vI (sI s (100 * c + b) i)
  | .boolean => vI (sI s (100 * c + b) i)
  | .char => vI (sI s (100 * c + b) i)
  | _ => vR (rf c b i s)
def flds (c i : Nat) (s : pS) : List pV := (List.range (pm_N c)).map (fun b => fv c b i s)
def aty (f : Nat) : Nat × Nat := match f with
  | 4 => (0, 10)
  | 5 => (0, 10)
  | 6 => (3, 10)
  | 7 => (3, 10)
  | 9 => (3, 12)
  | 10 => (3, 12)
  | 11 => (0, 10)
  | 12 => (3, 10)
  | 107 => (1, 144)
  | 108 => (0, 13)
  | 203 => (3, 12)
  | 204 => (1, 12)
  | 300 => (0, 12)
  | 301 => (3, 12)
  | 302 => (0, 12)
  | 303 => (3, 12)
  | 402 => (2, 40)
  | 602 => (0, 41)
  | 604 => (0, 2)
  | 605 => (0, 48)
  | 606 => (0, 48)
  | 607 => (3, 48)
  | 608 => (3, 48)
  | 620 => (0, 20)
  | 621 => (0, 20)
  | 622 => (3, 20)
  | 623 => (3, 20)
  | 626 => (3, 2)
  | 627 => (3, 2)
  | 628 => (0, 2)
  | 631 => (0, 20)
  | 632 => (3, 20)
  | 633 => (0, 2)
  | 634 => (3, 24)
  | 635 => (3, 24)
  | 636 => (1, 24)
  | 637 => (3, 24)
  | 638 => (3, 2)
  | 639 => (1, 144)
  | 643 => (1, 12)
  | 644 => (1, 12)
  | 645 => (3, 12)
  | 700 => (4, 1)
  | 701 => (5, 1)
  | _ => (0, 0)
def arr (f i : Nat) (s : pS) : pC := match (aty f).1 with
  | 0 => .inl (.int, (aty f).2, .inl (sA s f i))
  | 1 => .inl (.boolean, (aty f).2, .inl (sA s f i))
  | 2 => .inl (.char, (aty f).2, .inl (sA s f i))
  | 3 => .inl (.float, (aty f).2, .inr (.inr (.inl (sB s f i))))
  | 4 => .inl (.long, (aty f).2, .inr (.inl (sA s f i)))
  | _ => .inl (.double, (aty f).2, .inr (.inr (.inr (.inl (sD s)))))
def rg (c : Nat) : Nat → Option Nat := fun j => if j < 2 then some (cc c j) else none
def rarr (f : Nat) : pC := if f = 501 then .inl (.object (pm_cn 0), 2, .inr (.inr (.inr (.inr (rg 0))))) else .inl (.object (pm_cn 2), 2, .inr (.inr (.inr (.inr (rg 2)))))
def cel1 (s : pS) (q : Nat × Nat × Nat) : pC := match q.1 with
  | 0 => .inr (q.2.1, flds q.2.1 q.2.2 s)
  | 1 => arr q.2.1 q.2.2 s
  | _ => rarr q.2.1
def pW (s : pS) : pH := (shpL.map (cel1 s), sN s)
theorem shpL_nd : shpL.Nodup := by decide +kernel
theorem pW_get {k : Nat} {q : Nat × Nat × Nat} (s : pS) (hk : shpL[k]? = some q) : pm_get (pW s) k = some (cel1 s q) := by
  show (shpL.map (cel1 s))[k]? = _
  rw [List.getElem?_map, hk]
  rfl
theorem pW_set {k : Nat} {q : Nat × Nat × Nat} {s s' : pS} {v : pC} (hk : shpL[k]? = some q) (hv : v = cel1 s' q) (ho : ∀ q' ∈ shpL, q' ≠ q → cel1 s q' = cel1 s' q') (hn : sN s = sN s') : pm_set (pW s) k v = pW s' := by
  unfold pm_set pW
  refine Prod.ext ?_ hn
  show (shpL.map (cel1 s)).set k v = shpL.map (cel1 s')
  refine List.ext_getElem? (fun j => ?_)
  have hkl : k < shpL.length := (List.getElem?_eq_some_iff.mp hk).1
  by_cases hj : k = j
  · subst hj
    rw [List.getElem?_set_self (by rw [List.length_map]; exact hkl), List.getElem?_map, hk, hv]
    rfl
  · rw [List.getElem?_set_ne hj, List.getElem?_map, List.getElem?_map]
    cases hq : shpL[j]? with
    | none => rfl
    | some q' =>
      show some (cel1 s q') = some (cel1 s' q')
      rw [ho q' (List.mem_of_getElem? hq)]
      intro he
      subst he
      have hjl : j < shpL.length := (List.getElem?_eq_some_iff.mp hq).1
      exact hj ((List.getElem?_inj hkl shpL_nd).mp (hk.trans hq.symm))
theorem sI_wI (s : pS) (f i : Nat) (v : Int) (f' i' : Nat) : sI (wI s f i v) f' i' = if f' = f ∧ i' = i then v else sI s f' i' := rfl
theorem sF_wF (s : pS) (f i : Nat) (v : UInt32) (f' i' : Nat) : sF (wF s f i v) f' i' = if f' = f ∧ i' = i then v else sF s f' i' := rfl
theorem sA_wA (s : pS) (f i : Nat) (v : Nat → Int) (f' i' : Nat) : sA (wA s f i v) f' i' = if f' = f ∧ i' = i then v else sA s f' i' := rfl
theorem sB_wB (s : pS) (f i : Nat) (v : Nat → UInt32) (f' i' : Nat) : sB (wB s f i v) f' i' = if f' = f ∧ i' = i then v else sB s f' i' := rfl
theorem fv_same {s s' : pS} {c b i : Nat} (h1 : sI s (100 * c + b) i = sI s' (100 * c + b) i) (h2 : sF s (100 * c + b) i = sF s' (100 * c + b) i) (h3 : rf c b i s = rf c b i s') : fv c b i s = fv c b i s' := by
  unfold fv
  rw [h1, h2, h3]
theorem rf_same {s s' : pS} {c b i : Nat} (h1 : sI s 100 0 = sI s' 100 0) (h2 : sI s 101 0 = sI s' 101 0) : rf c b i s = rf c b i s' := by
  unfold rf
  split <;> first | rfl | (rw [h1]) | (rw [h2])
theorem fl_same {s s' : pS} {c i : Nat} (h : ∀ b, b < pm_N c → fv c b i s = fv c b i s') : flds c i s = flds c i s' := by
  unfold flds
  refine List.map_congr_left (fun b hb => h b (List.mem_range.mp hb))
theorem pm_N46 : ∀ c, pm_N c ≤ 46 := by
  intro c
  unfold pm_N
  split <;> decide
theorem fl_set {s s' : pS} {c b i : Nat} {v : pV} (hb : b < pm_N c) (hv : v = fv c b i s') (h : ∀ b', b' < pm_N c → b' ≠ b → fv c b' i s = fv c b' i s') : (flds c i s).set b v = flds c i s' := by
  unfold flds
  refine List.ext_getElem? (fun j => ?_)
  by_cases hj : b = j
  · subst hj
    rw [List.getElem?_set_self (by rw [List.length_map, List.length_range]; exact hb), List.getElem?_map, List.getElem?_range hb, hv]
    rfl
  · rw [List.getElem?_set_ne hj, List.getElem?_map, List.getElem?_map]
    by_cases hl : j < pm_N c
    · rw [List.getElem?_range hl]
      show some (fv c j i s) = some (fv c j i s')
      rw [h j hl (fun e => hj e.symm)]
    · rw [List.getElem?_eq_none (by rw [List.length_range]; omega)]
      rfl
theorem fl_get {s : pS} {c b i : Nat} (hb : b < pm_N c) : (flds c i s)[b]? = some (fv c b i s) := by
  unfold flds
  rw [List.getElem?_map, List.getElem?_range hb]
  rfl
theorem fl_len {s : pS} {c i : Nat} : (flds c i s).length = pm_N c := by
  unfold flds
  rw [List.length_map, List.length_range]
theorem arr_same {s s' : pS} {f i : Nat} (h1 : sA s f i = sA s' f i) (h2 : sB s f i = sB s' f i) (h3 : sD s = sD s') : arr f i s = arr f i s' := by
  unfold arr
  rw [h1, h2, h3]
/-- the fields of a state that aren't of another are as they were -/
theorem cel_same {s s' : pS} {q : Nat × Nat × Nat} (h1 : ∀ c i b, b < 46 → q = (0, c, i) → sI s (100 * c + b) i = sI s' (100 * c + b) i) (h2 : ∀ c i b, b < 46 → q = (0, c, i) → sF s (100 * c + b) i = sF s' (100 * c + b) i) (h3 : q.1 = 0 → ∀ b, b < 46 → rf q.2.1 b q.2.2 s = rf q.2.1 b q.2.2 s') (h4 : ∀ f i, q = (1, f, i) → sA s f i = sA s' f i) (h5 : ∀ f i, q = (1, f, i) → sB s f i = sB s' f i) (h6 : sD s = sD s') : cel1 s q = cel1 s' q := by
  obtain ⟨k, c, i⟩ := q
  unfold cel1
  match k with
  | 0 =>
    show (Sum.inr (c, flds c i s) : pC) = Sum.inr (c, flds c i s')
    rw [fl_same (fun b hb => fv_same (h1 c i b (Nat.lt_of_lt_of_le hb (pm_N46 c)) rfl) (h2 c i b (Nat.lt_of_lt_of_le hb (pm_N46 c)) rfl) (h3 rfl b (Nat.lt_of_lt_of_le hb (pm_N46 c))))]
  | 1 => exact arr_same (h4 c i rfl) (h5 c i rfl) h6
  | k + 2 => rfl
theorem rf_wI {s : pS} {f : Nat} (j : Nat) (x : Int) (h1 : f ≠ 100) (h2 : f ≠ 101) (c b i : Nat) : rf c b i s = rf c b i (wI s f j x) := by
  refine rf_same ?_ ?_
  · rw [sI_wI, if_neg (fun h => h1 h.1.symm)]
  · rw [sI_wI, if_neg (fun h => h2 h.1.symm)]
/-- a whole-number field is put -/
theorem p_I {k c b i : Nat} {s : pS} {x : Int} (hk : shpL[k]? = some (0, c, i)) (hb : b < pm_N c) (h1 : 100 * c + b ≠ 100) (h2 : 100 * c + b ≠ 101) (hv : fv c b i (wI s (100 * c + b) i x) = vI x) : pm_set (pW s) k (.inr (c, (flds c i s).set b (vI x))) = pW (wI s (100 * c + b) i x) := by
  have hb46 := Nat.lt_of_lt_of_le hb (pm_N46 c)
  refine pW_set hk ?_ ?_ rfl
  · show (Sum.inr (c, (flds c i s).set b (vI x)) : pC) = Sum.inr (c, flds c i (wI s (100 * c + b) i x))
    rw [fl_set (s := s) hb hv.symm (fun b' hb' hne => fv_same (by rw [sI_wI, if_neg (by omega)]) rfl (rf_wI _ _ h1 h2 _ _ _))]
  · intro q' _ hne
    refine cel_same ?_ (fun _ _ _ _ _ => rfl) (fun _ b _ => rf_wI _ _ h1 h2 _ _ _) (fun _ _ _ => rfl) (fun _ _ _ => rfl) rfl
    intro c' i' b' hb' he
    rw [sI_wI, if_neg]
    rintro ⟨e1, e2⟩
    have hc : c' = c := by omega
    exact hne (by rw [he, hc, e2])
theorem p_F {k c b i : Nat} {s : pS} {x : UInt32} (hk : shpL[k]? = some (0, c, i)) (hb : b < pm_N c) (hv : fv c b i (wF s (100 * c + b) i x) = vF x) : pm_set (pW s) k (.inr (c, (flds c i s).set b (vF x))) = pW (wF s (100 * c + b) i x) := by
  have hb46 := Nat.lt_of_lt_of_le hb (pm_N46 c)
  refine pW_set hk ?_ ?_ rfl
  · show (Sum.inr (c, (flds c i s).set b (vF x)) : pC) = Sum.inr (c, flds c i (wF s (100 * c + b) i x))
    rw [fl_set (s := s) hb hv.symm (fun b' hb' hne => fv_same rfl (by rw [sF_wF, if_neg (by omega)]) (rf_same rfl rfl))]
  · intro q' _ hne
    refine cel_same (fun _ _ _ _ _ => rfl) ?_ (fun _ b _ => rf_same rfl rfl) (fun _ _ _ => rfl) (fun _ _ _ => rfl) rfl
    intro c' i' b' hb' he
    rw [sF_wF, if_neg]
    rintro ⟨e1, e2⟩
    have hc : c' = c := by omega
    exact hne (by rw [he, hc, e2])
theorem rf_M {c b i : Nat} {s s' : pS} (h : ¬ (c = 1 ∧ b = 0)) (h2 : ¬ (c = 1 ∧ b = 1)) : rf c b i s = rf c b i s' := by
  unfold rf
  split <;> first | rfl | exact absurd ⟨rfl, rfl⟩ h | exact absurd ⟨rfl, rfl⟩ h2
theorem p_M0 {s : pS} {j : Nat} {k : Nat} (hk : shpL[k]? = some (0, 1, 0)) : pm_set (pW s) k (.inr (1, (flds 1 0 s).set 0 (vR (cc 0 j)))) = pW (wI s 100 0 (j : Int)) := by
  refine pW_set hk ?_ ?_ rfl
  · show (Sum.inr (1, (flds 1 0 s).set 0 (vR (cc 0 j))) : pC) = Sum.inr (1, flds 1 0 (wI s 100 0 (j : Int)))
    rw [fl_set (by decide) (v := vR (cc 0 j)) (s' := wI s 100 0 (j : Int)) (by show vR (cc 0 j) = vR (cc 0 (sI (wI s 100 0 (j : Int)) 100 0).toNat); rw [sI_wI, if_pos ⟨rfl, rfl⟩, Int.toNat_natCast]) (fun b' hb' hne => ?_)]
    refine fv_same (by rw [sI_wI, if_neg (by omega)]) rfl ?_
    unfold rf
    split <;> first | rfl | exact absurd rfl hne
  · intro q' _ hne
    obtain ⟨k', c', i'⟩ := q'
    refine cel_same ?_ (fun _ _ _ _ _ => rfl) ?_ (fun _ _ _ => rfl) (fun _ _ _ => rfl) rfl
    · intro c2 i2 b' hb' he
      rw [sI_wI, if_neg]
      rintro ⟨e1, e2⟩
      have hc : c2 = 1 := by omega
      exact hne (by rw [he, hc, e2])
    · intro h0 b hb
      have h0' : k' = 0 := h0
      subst h0'
      have hm : (0, c', i') ∈ shpL := by assumption
      have hone : ∀ q ∈ shpL, q.1 = 0 → q.2.1 = 1 → q.2.2 = 0 := by decide +kernel
      refine rf_M ?_ ?_
      · rintro ⟨e1, -⟩
        have e1' : c' = 1 := e1
        subst e1'
        exact hne (by rw [show i' = 0 from hone _ hm rfl rfl])
      · rintro ⟨e1, -⟩
        have e1' : c' = 1 := e1
        subst e1'
        exact hne (by rw [show i' = 0 from hone _ hm rfl rfl])
theorem p_M1 {s : pS} {j : Nat} {k : Nat} (hk : shpL[k]? = some (0, 1, 0)) : pm_set (pW s) k (.inr (1, (flds 1 0 s).set 1 (vR (cc 0 j)))) = pW (wI s 101 0 (j : Int)) := by
  refine pW_set hk ?_ ?_ rfl
  · show (Sum.inr (1, (flds 1 0 s).set 1 (vR (cc 0 j))) : pC) = Sum.inr (1, flds 1 0 (wI s 101 0 (j : Int)))
    rw [fl_set (by decide) (v := vR (cc 0 j)) (s' := wI s 101 0 (j : Int)) (by show vR (cc 0 j) = vR (cc 0 (sI (wI s 101 0 (j : Int)) 101 0).toNat); rw [sI_wI, if_pos ⟨rfl, rfl⟩, Int.toNat_natCast]) (fun b' hb' hne => ?_)]
    refine fv_same (by rw [sI_wI, if_neg (by omega)]) rfl ?_
    unfold rf
    split <;> first | rfl | exact absurd rfl hne
  · intro q' _ hne
    obtain ⟨k', c', i'⟩ := q'
    refine cel_same ?_ (fun _ _ _ _ _ => rfl) ?_ (fun _ _ _ => rfl) (fun _ _ _ => rfl) rfl
    · intro c2 i2 b' hb' he
      rw [sI_wI, if_neg]
      rintro ⟨e1, e2⟩
      have hc : c2 = 1 := by omega
      exact hne (by rw [he, hc, e2])
    · intro h0 b hb
      have h0' : k' = 0 := h0
      subst h0'
      have hm : (0, c', i') ∈ shpL := by assumption
      have hone : ∀ q ∈ shpL, q.1 = 0 → q.2.1 = 1 → q.2.2 = 0 := by decide +kernel
      refine rf_M ?_ ?_
      · rintro ⟨e1, -⟩
        have e1' : c' = 1 := e1
        subst e1'
        exact hne (by rw [show i' = 0 from hone _ hm rfl rfl])
      · rintro ⟨e1, -⟩
        have e1' : c' = 1 := e1
        subst e1'
        exact hne (by rw [show i' = 0 from hone _ hm rfl rfl])
/-- an array of whole numbers is put -/
theorem p_A {k f i : Nat} {s : pS} {g : Nat → Int} {v : pC} (hk : shpL[k]? = some (1, f, i)) (hv : v = arr f i (wA s f i g)) : pm_set (pW s) k v = pW (wA s f i g) := by
  refine pW_set hk hv ?_ rfl
  intro q' _ hne
  refine cel_same (fun _ _ _ _ _ => rfl) (fun _ _ _ _ _ => rfl) (fun _ b _ => rf_same rfl rfl) ?_ (fun _ _ _ => rfl) rfl
  intro f' i' he
  rw [sA_wA, if_neg]
  rintro ⟨e1, e2⟩
  exact hne (by rw [he, e1, e2])
theorem p_B {k f i : Nat} {s : pS} {g : Nat → UInt32} {v : pC} (hk : shpL[k]? = some (1, f, i)) (hv : v = arr f i (wB s f i g)) : pm_set (pW s) k v = pW (wB s f i g) := by
  refine pW_set hk hv ?_ rfl
  intro q' _ hne
  refine cel_same (fun _ _ _ _ _ => rfl) (fun _ _ _ _ _ => rfl) (fun _ b _ => rf_same rfl rfl) (fun _ _ _ => rfl) ?_ rfl
  intro f' i' he
  rw [sB_wB, if_neg]
  rintro ⟨e1, e2⟩
  exact hne (by rw [he, e1, e2])
theorem p_D {k : Nat} {s : pS} {g : Nat → UInt64} {v : pC} (hk : shpL[k]? = some (1, 701, 0)) (hv : v = .inl (.double, 1, .inr (.inr (.inr (.inl g))))) : pm_set (pW s) k v = pW (wD s g) := by
  refine pW_set hk hv ?_ rfl
  have hty : ∀ q ∈ shpL, q.1 = 1 → q.2.1 ≠ 701 → (aty q.2.1).1 < 5 := by decide +kernel
  have hi : ∀ q ∈ shpL, q.1 = 1 → q.2.1 = 701 → q.2.2 = 0 := by decide +kernel
  intro q' hq hne
  obtain ⟨k', c', i'⟩ := q'
  unfold cel1
  match k' with
  | 0 =>
    show (Sum.inr (c', flds c' i' s) : pC) = Sum.inr (c', flds c' i' (wD s g))
    rw [fl_same (s := s) (s' := wD s g) (fun b hb => fv_same rfl rfl (rf_same rfl rfl))]
  | 1 =>
    have hne' : c' ≠ 701 := by
      intro e
      subst e
      exact hne (by rw [show i' = 0 from hi _ hq rfl rfl])
    have ht := hty _ hq rfl hne'
    have ht' : (aty c').1 < 5 := ht
    show arr c' i' s = arr c' i' (wD s g)
    unfold arr
    match hty : (aty c').1, ht' with
    | 0, _ => rfl
    | 1, _ => rfl
    | 2, _ => rfl
    | 3, _ => rfl
    | 4, _ => rfl
  | k + 2 => rfl
theorem hc0 : ∀ i, i < 2 → shpL[cc 0 i]? = some (0, 0, i) := by decide +kernel
theorem hc1 : ∀ i, i < 1 → shpL[cc 1 i]? = some (0, 1, i) := by decide +kernel
theorem hc2 : ∀ i, i < 2 → shpL[cc 2 i]? = some (0, 2, i) := by decide +kernel
theorem hc3 : ∀ i, i < 3 → shpL[cc 3 i]? = some (0, 3, i) := by decide +kernel
theorem hc4 : ∀ i, i < 1 → shpL[cc 4 i]? = some (0, 4, i) := by decide +kernel
theorem hc5 : ∀ i, i < 1 → shpL[cc 5 i]? = some (0, 5, i) := by decide +kernel
theorem hc6 : ∀ i, i < 1 → shpL[cc 6 i]? = some (0, 6, i) := by decide +kernel
theorem ha4 : ∀ i, i < 2 → shpL[ca 4 i]? = some (1, 4, i) := by decide +kernel
theorem ha5 : ∀ i, i < 2 → shpL[ca 5 i]? = some (1, 5, i) := by decide +kernel
theorem ha6 : ∀ i, i < 2 → shpL[ca 6 i]? = some (1, 6, i) := by decide +kernel
theorem ha7 : ∀ i, i < 2 → shpL[ca 7 i]? = some (1, 7, i) := by decide +kernel
theorem ha9 : ∀ i, i < 2 → shpL[ca 9 i]? = some (1, 9, i) := by decide +kernel
theorem ha10 : ∀ i, i < 2 → shpL[ca 10 i]? = some (1, 10, i) := by decide +kernel
theorem ha11 : ∀ i, i < 2 → shpL[ca 11 i]? = some (1, 11, i) := by decide +kernel
theorem ha12 : ∀ i, i < 2 → shpL[ca 12 i]? = some (1, 12, i) := by decide +kernel
theorem ha107 : ∀ i, i < 1 → shpL[ca 107 i]? = some (1, 107, i) := by decide +kernel
theorem ha108 : ∀ i, i < 1 → shpL[ca 108 i]? = some (1, 108, i) := by decide +kernel
theorem ha203 : ∀ i, i < 2 → shpL[ca 203 i]? = some (1, 203, i) := by decide +kernel
theorem ha204 : ∀ i, i < 2 → shpL[ca 204 i]? = some (1, 204, i) := by decide +kernel
theorem ha300 : ∀ i, i < 3 → shpL[ca 300 i]? = some (1, 300, i) := by decide +kernel
theorem ha301 : ∀ i, i < 3 → shpL[ca 301 i]? = some (1, 301, i) := by decide +kernel
theorem ha302 : ∀ i, i < 3 → shpL[ca 302 i]? = some (1, 302, i) := by decide +kernel
theorem ha303 : ∀ i, i < 3 → shpL[ca 303 i]? = some (1, 303, i) := by decide +kernel
theorem ha402 : ∀ i, i < 1 → shpL[ca 402 i]? = some (1, 402, i) := by decide +kernel
theorem ha602 : ∀ i, i < 1 → shpL[ca 602 i]? = some (1, 602, i) := by decide +kernel
theorem ha604 : ∀ i, i < 1 → shpL[ca 604 i]? = some (1, 604, i) := by decide +kernel
theorem ha605 : ∀ i, i < 1 → shpL[ca 605 i]? = some (1, 605, i) := by decide +kernel
theorem ha606 : ∀ i, i < 1 → shpL[ca 606 i]? = some (1, 606, i) := by decide +kernel
theorem ha607 : ∀ i, i < 1 → shpL[ca 607 i]? = some (1, 607, i) := by decide +kernel
theorem ha608 : ∀ i, i < 1 → shpL[ca 608 i]? = some (1, 608, i) := by decide +kernel
theorem ha620 : ∀ i, i < 1 → shpL[ca 620 i]? = some (1, 620, i) := by decide +kernel
theorem ha621 : ∀ i, i < 1 → shpL[ca 621 i]? = some (1, 621, i) := by decide +kernel
theorem ha622 : ∀ i, i < 1 → shpL[ca 622 i]? = some (1, 622, i) := by decide +kernel
theorem ha623 : ∀ i, i < 1 → shpL[ca 623 i]? = some (1, 623, i) := by decide +kernel
theorem ha626 : ∀ i, i < 1 → shpL[ca 626 i]? = some (1, 626, i) := by decide +kernel
theorem ha627 : ∀ i, i < 1 → shpL[ca 627 i]? = some (1, 627, i) := by decide +kernel
theorem ha628 : ∀ i, i < 1 → shpL[ca 628 i]? = some (1, 628, i) := by decide +kernel
theorem ha631 : ∀ i, i < 1 → shpL[ca 631 i]? = some (1, 631, i) := by decide +kernel
theorem ha632 : ∀ i, i < 1 → shpL[ca 632 i]? = some (1, 632, i) := by decide +kernel
theorem ha633 : ∀ i, i < 1 → shpL[ca 633 i]? = some (1, 633, i) := by decide +kernel
theorem ha634 : ∀ i, i < 1 → shpL[ca 634 i]? = some (1, 634, i) := by decide +kernel
theorem ha635 : ∀ i, i < 1 → shpL[ca 635 i]? = some (1, 635, i) := by decide +kernel
theorem ha636 : ∀ i, i < 1 → shpL[ca 636 i]? = some (1, 636, i) := by decide +kernel
theorem ha637 : ∀ i, i < 1 → shpL[ca 637 i]? = some (1, 637, i) := by decide +kernel
theorem ha638 : ∀ i, i < 1 → shpL[ca 638 i]? = some (1, 638, i) := by decide +kernel
theorem ha639 : ∀ i, i < 1 → shpL[ca 639 i]? = some (1, 639, i) := by decide +kernel
theorem ha643 : ∀ i, i < 1 → shpL[ca 643 i]? = some (1, 643, i) := by decide +kernel
theorem ha644 : ∀ i, i < 1 → shpL[ca 644 i]? = some (1, 644, i) := by decide +kernel
theorem ha645 : ∀ i, i < 1 → shpL[ca 645 i]? = some (1, 645, i) := by decide +kernel
theorem ha700 : ∀ i, i < 1 → shpL[ca 700 i]? = some (1, 700, i) := by decide +kernel
theorem ha701 : ∀ i, i < 1 → shpL[ca 701 i]? = some (1, 701, i) := by decide +kernel
theorem hr501 : shpL[cr 501]? = some (2, 501, 0) := by decide +kernel
theorem hr502 : shpL[cr 502]? = some (2, 502, 0) := by decide +kernel
