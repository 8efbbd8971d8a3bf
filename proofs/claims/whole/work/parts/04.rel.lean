/-! ===== THE PURE MACHINE BESIDE THE MACHINE: values, locals, worlds ===== -/
/-- a value of the pure machine, as the machine has it: V 0 the script's cell, V (i + 1) the text i; ad: the cells of the world -/
def pm_v (V : Nat → Nat) (ad : List Nat) (v : pV) (w : Value) : Prop := match v with
  | .inl x => ∃ z : Int32, w = .int z ∧ z.toInt = x
  | .inr (.inl x) => ∃ z : Int64, w = .long z ∧ z.toInt = x
  | .inr (.inr (.inl x)) => w = .float x
  | .inr (.inr (.inr (.inl x))) => w = .double x
  | .inr (.inr (.inr (.inr (.inl k)))) => ∃ a, ad[k]? = some a ∧ w = .ref a
  | .inr (.inr (.inr (.inr (.inr 0)))) => w = .null
  | .inr (.inr (.inr (.inr (.inr 1)))) => ∃ a, w = .ref a
  | .inr (.inr (.inr (.inr (.inr (j + 2))))) => w = .ref (V j)
def pm_vs (V : Nat → Nat) (ad : List Nat) : List pV → List Value → Prop
  | [], ws => ws = []
  | v :: r, ws => ∃ w r', ws = w :: r' ∧ pm_v V ad v w ∧ pm_vs V ad r r'
def pm_r (ad : List Nat) (f g : Option Nat) : Prop := match f with
  | none => g = none
  | some k => ∃ a, ad[k]? = some a ∧ g = some a
def pm_a (ad : List Nat) (z : pA) (g : (Nat → Int32) ⊕ (Nat → Int64) ⊕ (Nat → UInt32) ⊕ (Nat → UInt64) ⊕ (Nat → Option Nat)) : Prop := match z with
  | .inl f => ∃ g', g = .inl g' ∧ ∀ j, (g' j).toInt = f j
  | .inr (.inl f) => ∃ g', g = .inr (.inl g') ∧ ∀ j, (g' j).toInt = f j
  | .inr (.inr (.inl f)) => g = .inr (.inr (.inl f))
  | .inr (.inr (.inr (.inl f))) => g = .inr (.inr (.inr (.inl f)))
  | .inr (.inr (.inr (.inr f))) => ∃ g', g = .inr (.inr (.inr (.inr g'))) ∧ ∀ j, pm_r ad (f j) (g' j)
def pm_c (V : Nat → Nat) (ad : List Nat) (tys : List (ClassId × FieldType)) (c : pC) (e : va_E) : Prop := match c with
  | .inl q => ∃ cA g, e = .inl (cA, q.2.1, g) ∧ (∃ t0 : Nat, tys[t0]? = some (cA, q.1)) ∧ pm_a ad q.2.2 g
  | .inr q => ∃ vs, e = .inr (q.1, vs) ∧ pm_vs V ad q.2 vs
def pm_w (V : Nat → Nat) (tys : List (ClassId × FieldType)) (h : List pC) (ws : va_W) : Prop :=
  ws.length = h.length ∧ ∀ (k : Nat) (c : pC), h[k]? = some c → ∃ a e, ws[k]? = some (a, e) ∧ pm_c V (ws.map Prod.fst) tys c e
theorem pm_get_app {α : Type} {l : List α} {k : Nat} {a : α} (h : l[k]? = some a) (x : List α) : (l ++ x)[k]? = some a := by
  rw [List.getElem?_append_left (List.getElem?_eq_some_iff.mp h).1]; exact h
theorem pm_v.app {V : Nat → Nat} {ad : List Nat} {v : pV} {w : Value} (h : pm_v V ad v w) (x : List Nat) : pm_v V (ad ++ x) v w := by
  rcases v with v | v | v | v | v | v
  · exact h
  · exact h
  · exact h
  · exact h
  · obtain ⟨a, h1, h2⟩ := h
    exact ⟨a, pm_get_app h1 x, h2⟩
  · rcases v with _ | _ | v
    · exact h
    · exact h
    · exact h
theorem pm_vs.app {V : Nat → Nat} {ad : List Nat} {vs : List pV} : ∀ {ws : List Value}, pm_vs V ad vs ws → ∀ x : List Nat, pm_vs V (ad ++ x) vs ws := by
  induction vs with
  | nil => intro ws h x; exact h
  | cons v r ih =>
    intro ws h x
    obtain ⟨w, r', e, h1, h2⟩ := h
    exact ⟨w, r', e, h1.app x, ih h2 x⟩
theorem pm_a.app {ad : List Nat} {z : pA} {g : (Nat → Int32) ⊕ (Nat → Int64) ⊕ (Nat → UInt32) ⊕ (Nat → UInt64) ⊕ (Nat → Option Nat)} (h : pm_a ad z g) (x : List Nat) : pm_a (ad ++ x) z g := by
  rcases z with f | f | f | f | f
  · exact h
  · exact h
  · exact h
  · exact h
  · obtain ⟨g', e, h⟩ := h
    refine ⟨g', e, fun j => ?_⟩
    have hj := h j
    cases hf : f j with
    | none => rw [hf] at hj; exact hj
    | some k =>
      rw [hf] at hj
      obtain ⟨a, h1, h2⟩ := hj
      exact ⟨a, pm_get_app h1 x, h2⟩
theorem pm_c.app {V : Nat → Nat} {ad : List Nat} {tys : List (ClassId × FieldType)} {c : pC} {e : va_E} (h : pm_c V ad tys c e) (x : List Nat) (ty2 : List (ClassId × FieldType)) : pm_c V (ad ++ x) (tys ++ ty2) c e := by
  rcases c with q | q
  · obtain ⟨cA, g, e, ⟨t0, h1⟩, h2⟩ := h
    exact ⟨cA, g, e, ⟨t0, pm_get_app h1 ty2⟩, h2.app x⟩
  · obtain ⟨vs, e, h1⟩ := h
    exact ⟨vs, e, h1.app x⟩
theorem pm_map_set {ws : va_W} {k a : Nat} {e0 e : va_E} (h : ws[k]? = some (a, e0)) : (ws.set k (a, e)).map Prod.fst = ws.map Prod.fst := by
  apply List.ext_getElem?
  intro i
  rw [List.getElem?_map, List.getElem?_map, List.getElem?_set]
  by_cases hik : k = i
  · subst hik
    obtain ⟨hl, he⟩ := List.getElem?_eq_some_iff.mp h
    simp [hl, he]
  · simp [hik]
theorem pm_w.set {V : Nat → Nat} {tys : List (ClassId × FieldType)} {h : List pC} {ws : va_W} {k a : Nat} {e0 e : va_E} {c : pC} (hw : pm_w V tys h ws) (hk : ws[k]? = some (a, e0)) (hc : pm_c V (ws.map Prod.fst) tys c e) : pm_w V tys (h.set k c) (ws.set k (a, e)) := by
  refine ⟨by rw [List.length_set, List.length_set]; exact hw.1, fun i c' hi => ?_⟩
  rw [pm_map_set hk]
  have hl := (List.getElem?_eq_some_iff.mp hk).1
  rw [List.getElem?_set] at hi ⊢
  by_cases hik : k = i
  · subst hik
    rw [if_pos rfl, if_pos (by rw [← hw.1]; exact hl)] at hi
    rw [if_pos rfl, if_pos hl]
    cases hi
    exact ⟨a, e, rfl, hc⟩
  · rw [if_neg hik] at hi
    rw [if_neg hik]
    exact hw.2 i c' hi
theorem pm_w.push {V : Nat → Nat} {tys : List (ClassId × FieldType)} {h : List pC} {ws : va_W} {q : Nat} {e : va_E} {c : pC} (hw : pm_w V tys h ws) (ty2 : List (ClassId × FieldType)) (hc : pm_c V (ws.map Prod.fst ++ [q]) (tys ++ ty2) c e) : pm_w V (tys ++ ty2) (h ++ [c]) (ws ++ [(q, e)]) := by
  refine ⟨by rw [List.length_append, List.length_append, hw.1]; rfl, fun i c' hi => ?_⟩
  rw [List.map_append]
  by_cases hil : i < h.length
  · rw [List.getElem?_append_left hil] at hi
    obtain ⟨a, e1, h1, h2⟩ := hw.2 i c' hi
    exact ⟨a, e1, pm_get_app h1 _, h2.app _ _⟩
  · rw [List.getElem?_append_right (by omega)] at hi
    have hz : i - h.length < 1 := (List.getElem?_eq_some_iff.mp hi).1
    have hz0 : i = h.length := by omega
    subst hz0
    rw [Nat.sub_self] at hi
    cases hi
    refine ⟨q, e, ?_, hc⟩
    rw [List.getElem?_append_right (by rw [hw.1]; exact Nat.le_refl _), hw.1, Nat.sub_self]
    rfl
theorem pm_w.types {V : Nat → Nat} {tys : List (ClassId × FieldType)} {h : List pC} {ws : va_W} (hw : pm_w V tys h ws) (ty2 : List (ClassId × FieldType)) : pm_w V (tys ++ ty2) h ws := by
  refine ⟨hw.1, fun i c hi => ?_⟩
  obtain ⟨a, e, h1, h2⟩ := hw.2 i c hi
  refine ⟨a, e, h1, ?_⟩
  have h3 := h2.app [] ty2
  rwa [List.append_nil] at h3
/-- the locals -/
def pm_L (V : Nat → Nat) (ad : List Nat) (ls : List (Option pV)) (lsM : Array Slot) : Prop :=
  lsM.size = ls.length ∧ lv_wf lsM ∧ ∀ (i : Nat) (v : pV), ls[i]? = some (some v) → ∃ w, lsM[i]? = some (.val w) ∧ pm_v V ad v w
theorem pm_L.app {V : Nat → Nat} {ad : List Nat} {ls : List (Option pV)} {lsM : Array Slot} (h : pm_L V ad ls lsM) (x : List Nat) : pm_L V (ad ++ x) ls lsM :=
  ⟨h.1, h.2.1, fun i v hi => by obtain ⟨w, h1, h2⟩ := h.2.2 i v hi; exact ⟨w, h1, h2.app x⟩⟩
/-- all that the machine's locals hold -/
def pm_all (lsM : Array Slot) : List (Nat × Value) := (List.range lsM.size).filterMap (fun (i : Nat) => match (lsM[i]? : Option Slot) with | some (Slot.val w) => some (i, w) | _ => none)
theorem pm_all_mem {lsM : Array Slot} {i : Nat} {w : Value} : (i, w) ∈ pm_all lsM ↔ lsM[i]? = some (.val w) := by
  unfold pm_all
  rw [List.mem_filterMap]
  constructor
  · rintro ⟨j, hj, e⟩
    split at e
    · rename_i w' hw'
      cases e
      exact hw'
    · cases e
  · intro h
    refine ⟨i, List.mem_range.mpr (Array.getElem?_eq_some_iff.mp h).1, ?_⟩
    rw [h]
theorem pm_all_has {lsM : Array Slot} (h : lv_wf lsM) : lv_has lsM lsM.size (pm_all lsM) := ⟨rfl, h, fun q hq => pm_all_mem.mp (by exact hq)⟩
theorem pm_cat_v {V : Nat → Nat} {ad : List Nat} {v : pV} {w : Value} (h : pm_v V ad v w) : w.category = if pm_cat2 v then 2 else 1 := by
  rcases v with v | v | v | v | v | v
  · obtain ⟨z, rfl, -⟩ := h; rfl
  · obtain ⟨z, rfl, -⟩ := h; rfl
  · cases h; rfl
  · cases h; rfl
  · obtain ⟨a, -, rfl⟩ := h; rfl
  · rcases v with _ | _ | v
    · cases h; rfl
    · obtain ⟨a, rfl⟩ := h; rfl
    · cases h; rfl
theorem pm_clr_len (ls : List (Option pV)) (i : Nat) : (pm_clr ls i).length = ls.length := by
  unfold pm_clr
  split
  · rfl
  · split
    · split
      · exact List.length_set
      · rfl
    · rfl
/-- what is left of the locals behind a store at i, of one word -/
theorem pm_clr_get {ls : List (Option pV)} {i j : Nat} {v : pV} (h : (pm_clr ls i)[j]? = some (some v)) : ls[j]? = some (some v) ∧ (j + 1 = i → pm_cat2 v = false) := by
  unfold pm_clr at h
  split at h
  · exact ⟨h, fun q => by omega⟩
  · rename_i k
    split at h
    · rename_i v0 hv0
      split at h
      · rename_i hc
        rw [List.getElem?_set] at h
        by_cases hjk : k = j
        · rw [if_pos hjk] at h
          split at h
          · cases h
          · cases h
        · rw [if_neg hjk] at h
          exact ⟨h, fun q => absurd (by omega) hjk⟩
      · rename_i hc
        refine ⟨h, fun q => ?_⟩
        have : j = k := by omega
        subst this
        rw [h] at hv0
        cases hv0
        simpa using hc
    · rename_i hno
      refine ⟨h, fun q => ?_⟩
      have : j = k := by omega
      subst this
      exact absurd h (hno v)
theorem pm_L.st1 {V : Nat → Nat} {ad : List Nat} {ls : List (Option pV)} {lsM ls' : Array Slot} {i : Nat} {v : pV} {w : Value} (hL : pm_L V ad ls lsM) (hv : pm_v V ad v w) (hi : i < ls.length)
    (h : lv_has ls' lsM.size ((i, w) :: (pm_all lsM).filter (fun q => !(q.1 == i) && !(q.1 + 1 == i && q.2.category == 2)))) : pm_L V ad (pm_st1 ls i v) ls' := by
  refine ⟨by rw [h.1, hL.1]; unfold pm_st1; rw [List.length_set, pm_clr_len], h.2.1, fun j u hj => ?_⟩
  unfold pm_st1 at hj
  rw [List.getElem?_set] at hj
  by_cases hij : i = j
  · subst hij
    rw [if_pos rfl, if_pos (by rw [pm_clr_len]; exact hi)] at hj
    cases hj
    exact ⟨w, h.2.2 (i, w) List.mem_cons_self, hv⟩
  · rw [if_neg hij] at hj
    obtain ⟨h1, h2⟩ := pm_clr_get hj
    obtain ⟨w1, h3, h4⟩ := hL.2.2 j u h1
    refine ⟨w1, h.2.2 (j, w1) (List.mem_cons_of_mem _ (List.mem_filter.mpr ⟨pm_all_mem.mpr h3, ?_⟩)), h4⟩
    have hc := pm_cat_v h4
    have e1 : (j == i) = false := by simp; omega
    by_cases hji : j + 1 = i
    · rw [h2 hji] at hc
      simp [e1, hc]
    · have e2 : (j + 1 == i) = false := by simp; omega
      simp [e1, e2]
theorem pm_L.st2 {V : Nat → Nat} {ad : List Nat} {ls : List (Option pV)} {lsM ls' : Array Slot} {i : Nat} {v : pV} {w : Value} (hL : pm_L V ad ls lsM) (hv : pm_v V ad v w) (hi : i + 1 < ls.length)
    (h : lv_has ls' lsM.size ((i, w) :: (pm_all lsM).filter (fun q => !(q.1 == i) && (!(q.1 == i + 1) && !(q.1 + 1 == i && q.2.category == 2))))) : pm_L V ad (pm_st2 ls i v) ls' := by
  refine ⟨by rw [h.1, hL.1]; unfold pm_st2; rw [List.length_set, List.length_set, pm_clr_len], h.2.1, fun j u hj => ?_⟩
  unfold pm_st2 at hj
  rw [List.getElem?_set] at hj
  by_cases hij1 : i + 1 = j
  · rw [if_pos hij1] at hj
    split at hj
    · cases hj
    · cases hj
  rw [if_neg hij1, List.getElem?_set] at hj
  by_cases hij : i = j
  · subst hij
    rw [if_pos rfl, if_pos (by rw [pm_clr_len]; omega)] at hj
    cases hj
    exact ⟨w, h.2.2 (i, w) List.mem_cons_self, hv⟩
  · rw [if_neg hij] at hj
    obtain ⟨h1, h2⟩ := pm_clr_get hj
    obtain ⟨w1, h3, h4⟩ := hL.2.2 j u h1
    refine ⟨w1, h.2.2 (j, w1) (List.mem_cons_of_mem _ (List.mem_filter.mpr ⟨pm_all_mem.mpr h3, ?_⟩)), h4⟩
    have hc := pm_cat_v h4
    have e1 : (j == i) = false := by simp; omega
    have e3 : (j == i + 1) = false := by simp; omega
    by_cases hji : j + 1 = i
    · rw [h2 hji] at hc
      simp [e1, e3, hc]
    · have e2 : (j + 1 == i) = false := by simp; omega
      simp [e1, e2, e3]
