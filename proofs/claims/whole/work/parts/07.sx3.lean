/-! ===== THE PURE MACHINE IS SOUND: instructions on cells (written by wip/whole/gen_sx3.py) ===== -/
theorem pm_cl : ∀ ci, ci < 7 → vwCl[ci]? = some (pm_cn ci, pm_T ci, pm_N ci) := by
  intro ci h
  match ci, h with
  | 0, _ => rfl
  | 1, _ => rfl
  | 2, _ => rfl
  | 3, _ => rfl
  | 4, _ => rfl
  | 5, _ => rfl
  | 6, _ => rfl
theorem pm_nm : ∀ ci, ci < 7 → ∀ a, a < pm_N ci → ∀ b, b < pm_N ci → a ≠ b → (pm_T ci a).2.1 ≠ (pm_T ci b).2.1 := by
  intro ci h
  match ci, h with
  | 0, _ => exact nmX0
  | 1, _ => exact nmX1
  | 2, _ => exact nmX2
  | 3, _ => exact nmX3
  | 4, _ => exact nmX4
  | 5, _ => exact nmX5
  | 6, _ => exact nmX6
theorem pm_tyok : ∀ ci, ci < 7 → ∀ k, k < pm_N ci → parseFieldDescriptor (pm_T ci k).2.2.1 = some (pm_ty ci k) := by
  intro ci h
  match ci, h with
  | 0, _ => exact tyX0_ok
  | 1, _ => exact tyX1_ok
  | 2, _ => exact tyX2_ok
  | 3, _ => exact tyX3_ok
  | 4, _ => exact tyX4_ok
  | 5, _ => exact tyX5_ok
  | 6, _ => exact tyX6_ok
theorem pm_w.cell {V : Nat → Nat} {tys : List (ClassId × FieldType)} {h : List pC} {ws : va_W} {k a : Nat} {c : pC} (hw : pm_w V tys h ws) (hk : h[k]? = some c) (ha : (ws.map Prod.fst)[k]? = some a) : ∃ e, ws[k]? = some (a, e) ∧ pm_c V (ws.map Prod.fst) tys c e := by
  obtain ⟨a', e, h1, h2⟩ := hw.2 k c hk
  rw [List.getElem?_map, h1] at ha
  cases ha
  exact ⟨e, h1, h2⟩
theorem pm_vs.get {V : Nat → Nat} {ad : List Nat} {vs : List pV} : ∀ {ws : List Value}, pm_vs V ad vs ws → ∀ {b : Nat} {v : pV}, vs[b]? = some v → ∃ w, ws[b]? = some w ∧ pm_v V ad v w := by
  induction vs with
  | nil => intro ws _ b v hb; cases hb
  | cons x r ih =>
    intro ws h b v hb
    obtain ⟨w, r', rfl, h1, h2⟩ := h
    cases b with
    | zero => cases hb; exact ⟨w, rfl, h1⟩
    | succ b => exact ih h2 hb
theorem pm_vs.set {V : Nat → Nat} {ad : List Nat} {vs : List pV} : ∀ {ws : List Value}, pm_vs V ad vs ws → ∀ (b : Nat) {v : pV} {w : Value}, pm_v V ad v w → pm_vs V ad (vs.set b v) (ws.set b w) := by
  induction vs with
  | nil => intro ws h b v w _; rw [h]; exact (rfl : _)
  | cons x r ih =>
    intro ws h b v w hv
    obtain ⟨w', r', rfl, h1, h2⟩ := h
    cases b with
    | zero => exact ⟨w, r', rfl, hv, h2⟩
    | succ b => exact ⟨w', r'.set b w, rfl, h1, ih h2 b hv⟩
theorem pm_vs.len {V : Nat → Nat} {ad : List Nat} {vs : List pV} : ∀ {ws : List Value}, pm_vs V ad vs ws → ws.length = vs.length := by
  induction vs with
  | nil => intro ws h; rw [h]; rfl
  | cons x r ih =>
    intro ws h
    obtain ⟨w', r', rfl, h1, h2⟩ := h
    rw [List.length_cons, List.length_cons, ih h2]
theorem pm_vs.cat {V : Nat → Nat} {ad : List Nat} {vs : List pV} : ∀ {ws : List Value}, pm_vs V ad vs ws → (ws.map fun v => v.category).sum ≤ 2 * vs.length := by
  induction vs with
  | nil => intro ws h; rw [h]; exact Nat.zero_le _
  | cons x r ih =>
    intro ws h
    obtain ⟨w', r', rfl, h1, h2⟩ := h
    have h3 := ih h2
    have h4 := pm_cat_v h1
    rw [List.map_cons, List.sum_cons, List.length_cons]
    split at h4 <;> omega
theorem pm_vs.room {V : Nat → Nat} {ad : List Nat} {vs : List pV} {ws : List Value} (h : pm_vs V ad vs ws) (hl : vs.length ≤ 4) : (ws.map fun v => v.category).sum ≤ 8 := Nat.le_trans h.cat (by omega)
theorem pm_vs.cat8 {V : Nat → Nat} {ad : List Nat} {vs : List pV} : ∀ {ws : List Value}, pm_vs V ad vs ws → (ws.map fun v => v.category).sum ≤ pm_c8 vs := by
  induction vs with
  | nil => intro ws h; rw [h]; exact Nat.zero_le _
  | cons x r ih =>
    intro ws h
    obtain ⟨w', r', rfl, h1, h2⟩ := h
    have h3 := ih h2
    have h4 := pm_cat_v h1
    rw [List.map_cons, List.sum_cons, h4]
    show _ ≤ (if pm_cat2 x then 2 else 1) + pm_c8 r
    omega
theorem pm_vs.room8 {V : Nat → Nat} {ad : List Nat} {vs : List pV} {ws : List Value} (h : pm_vs V ad vs ws) (hl : pm_c8 vs ≤ 8) : (ws.map fun v => v.category).sum ≤ 8 := Nat.le_trans h.cat8 hl
theorem pm_sum_set {l : List pC} : ∀ {k : Nat} {c c' : pC}, l[k]? = some c → pm_size c' = pm_size c → ((l.set k c').map pm_size).sum = (l.map pm_size).sum := by
  induction l with
  | nil => intro k c c' h; cases h
  | cons x r ih =>
    intro k c c' h he
    cases k with
    | zero => cases h; simp [he]
    | succ k =>
      have := ih (k := k) (c := c) (c' := c') h he
      rw [List.set_cons_succ, List.map_cons, List.map_cons, List.sum_cons, List.sum_cons, this]
theorem pm_used_set (h : pH) (k : Nat) (c : pC) : pm_used (pm_set h k c) = pm_used h := by unfold pm_used pm_set; rw [List.length_set]
theorem pm_slots_set {h : pH} {k : Nat} {c c' : pC} (hk : pm_get h k = some c) (he : pm_size c' = pm_size c) : pm_slots (pm_set h k c') = pm_slots h := by unfold pm_slots pm_set; rw [pm_sum_set hk he]
theorem pm_slots_setO {h : pH} {k ci : Nat} {fs fs' : List pV} (hk : pm_get h k = some (.inr (ci, fs))) : pm_slots (pm_set h k (.inr (ci, fs'))) = pm_slots h := pm_slots_set hk rfl
theorem pm_slots_setA {h : pH} {k n : Nat} {ty ty' : FieldType} {z z' : pA} (hk : pm_get h k = some (.inl (ty, n, z))) : pm_slots (pm_set h k (.inl (ty', n, z'))) = pm_slots h := pm_slots_set hk rfl
theorem pm_used_push (h : pH) (c : pC) : pm_used (pm_push h c) = pm_used h + 1 := by unfold pm_used pm_push; rw [List.length_append]; show h.1.length + 1 + h.2 = _; omega
theorem pm_slots_push (h : pH) (c : pC) : pm_slots (pm_push h c) = pm_slots h + pm_size c := by unfold pm_slots pm_push; rw [List.map_append, List.sum_append]; show _ + (pm_size c + 0) + _ = _; omega
theorem pm_fit_ok {V : Nat → Nat} {ad : List Nat} {ty : FieldType} {v : pV} {w : Value} (h : pm_fit ty v) (hv : pm_v V ad v w) : narrow ty w = w ∧ fits ty w = true := by
  cases ty with
  | int => obtain ⟨x, rfl⟩ := h; obtain ⟨z, rfl, -⟩ := hv; exact ⟨rfl, rfl⟩
  | boolean =>
    rcases h with rfl | rfl
    · obtain ⟨z, rfl, e⟩ := hv
      have hz : z = 0 := Int32.toInt_inj.mp (by rw [e]; rfl)
      subst hz; exact ⟨rfl, rfl⟩
    · obtain ⟨z, rfl, e⟩ := hv
      have hz : z = 1 := Int32.toInt_inj.mp (by rw [e]; rfl)
      subst hz; exact ⟨rfl, rfl⟩
  | char =>
    obtain ⟨x, rfl, h1, h2⟩ := h
    obtain ⟨z, rfl, e⟩ := hv
    have hz : z = nI x.toNat := Int32.toInt_inj.mp (by rw [e, nI_toInt (by omega)]; omega)
    subst hz
    exact pk_charN (by omega)
  | float => obtain ⟨x, rfl⟩ := h; cases hv; exact ⟨rfl, rfl⟩
  | long => obtain ⟨x, rfl⟩ := h; obtain ⟨z, rfl, -⟩ := hv; exact ⟨rfl, rfl⟩
  | double => obtain ⟨x, rfl⟩ := h; cases hv; exact ⟨rfl, rfl⟩
  | object n => obtain ⟨k, rfl⟩ := h; obtain ⟨a, -, rfl⟩ := hv; exact ⟨rfl, rfl⟩
  | array t => obtain ⟨k, rfl⟩ := h; obtain ⟨a, -, rfl⟩ := hv; exact ⟨rfl, rfl⟩
  | _ => exact absurd h id
theorem pm_in {z : Int32} {i : Int} {n : Nat} (e : z.toInt = i) (h1 : 0 ≤ i) (h2 : i < n) : vp_in z n := vp_in_iff.mpr ⟨by omega, by omega⟩
theorem pm_cl0 (z : Int32) : z.toNatClampNeg = z.toInt.toNat := rfl
section SX3
variable {p : Program} {l : Launch} {e : Env} {R : Room} {s : State} {m : MethodId} {args : Array Value} {below : List Frame} {meth : Method} {c : Code} {Q : State → Prop} {D : va_G} {V : Nat → Nat} {A : Nat → Prop} {ad0 : List Nat} {u0 v0 : Nat} {hF : pH} {ls : List (Option pV)} {st : List pV} {pc : Nat} {h : pH} {cc : ByteArray} {own : String} {Ts : List Jvm.Cond}
theorem sx_getf (hx : p.tables.exec = Jvm.exec) (hb : c.code = cc) {a b i : Nat} (hown : s.vm.findClass own = some m.cls) (hts : ∀ w ∈ Ts, w.before args s = true) (hin : ∀ w ∈ u_ws (pm_cn a) (pm_T a) (pm_N a), w ∈ Ts) (hl : (Cond.fieldLink own i (pm_T a b).1 (pm_T a b).2.1 (pm_T a b).2.2.1).before args s = true) (hdg : decode cc pc = .ok (.getfield i, 3))
    (q : ∃ k r, st = vR k :: r ∧ ∃ fs v, pm_get h k = some (.inr (a, fs)) ∧ a < 7 ∧ b < pm_N a ∧ fs[b]? = some v ∧ pm_X p l e R s m args below meth c Q D V A ad0 u0 v0 hF ls (v :: r) (pc + 3) h) : pm_X p l e R s m args below meth c Q D V A ad0 u0 v0 hF ls st pc h := by
  obtain ⟨k, r, rfl, fs, v, hk, h7, hbN, hf, hK⟩ := q
  refine ⟨hK.1, fun H locs cells slots lsM stM hS => ?_⟩
  obtain ⟨ws, tys, ext, k1, k2, k3, k4, k5, k6, k7, k8, k9, k10⟩ := hS
  obtain ⟨w1, r1, rfl, ⟨ad, ha, rfl⟩, k8⟩ := k8
  obtain ⟨e1, hwk, vs, rfl, hvs⟩ := k5.cell hk ha
  obtain ⟨w, hw, hv⟩ := hvs.get hf
  exact va_get hx hb hts hin hown k1 k2 k hwk (pm_cl a h7) b hbN hl (fun _ h9 => h9) hw hdg (hK.2 _ _ _ _ _ _ ⟨ws, tys, ext, k1, k2, k3, k4, k5, k6, k7, ⟨_, _, rfl, hv, k8⟩, k9, k10⟩)
theorem sx_putf (hx : p.tables.exec = Jvm.exec) (hb : c.code = cc) {a b i : Nat} (hown : s.vm.findClass own = some m.cls) (hts : ∀ w ∈ Ts, w.before args s = true) (hin : ∀ w ∈ u_ws (pm_cn a) (pm_T a) (pm_N a), w ∈ Ts) (hl : (Cond.fieldLink own i (pm_T a b).1 (pm_T a b).2.1 (pm_T a b).2.2.1).before args s = true) (hfi : (pm_T a b).2.2.2 = false ∨ (meth.name = "<init>" ∧ (pm_T a b).1 = own)) (hdg : decode cc pc = .ok (.putfield i, 3))
    (q : ∃ v k r, st = v :: vR k :: r ∧ ∃ fs, pm_get h k = some (.inr (a, fs)) ∧ a < 7 ∧ b < pm_N a ∧ b < fs.length ∧ pm_fit (pm_ty a b) v ∧ pm_X p l e R s m args below meth c Q D V A ad0 u0 v0 hF ls r (pc + 3) (pm_set h k (.inr (a, fs.set b v)))) : pm_X p l e R s m args below meth c Q D V A ad0 u0 v0 hF ls st pc h := by
  obtain ⟨v, k, r, rfl, fs, hk, h7, hbN, hbl, hft, hK⟩ := q
  have hB := hK.1
  rw [pm_used_set, pm_slots_setO hk] at hB
  refine ⟨hB, fun H locs cells slots lsM stM hS => ?_⟩
  obtain ⟨ws, tys, ext, k1, k2, k3, k4, k5, k6, k7, k8, k9, k10⟩ := hS
  obtain ⟨w, r0, rfl, hv, w1, r1, rfl, ⟨ad, ha, rfl⟩, k8⟩ := k8
  obtain ⟨e1, hwk, vs, rfl, hvs⟩ := k5.cell hk ha
  obtain ⟨hn, hfit⟩ := pm_fit_ok hft hv
  have hll : b < vs.length := by rw [hvs.len]; exact hbl
  have hgo : ∀ (H1 : Heap) (locs1 : List Loc), va_P D vwCl (ws.set k (ad, .inr (a, vs.set b w))) H1 → va_D A (ws.set k (ad, .inr (a, vs.set b w))) → va_S A s.heap H1 locs1 → W p l e R s m args below meth c H1 locs1 cells slots Q (F0 m (pc + 3) lsM r1) := by
    intro H1 locs1 hP hD hS
    refine hK.2 _ _ _ _ _ _ ⟨ws.set k (ad, .inr (a, vs.set b w)), tys, ext, k1, hP, hD, hS, k5.set hwk ⟨_, rfl, hvs.set b hv⟩, ?_, ?_, ?_, ?_, ?_⟩
    · rw [pm_map_set hwk]; exact k6
    · rw [pm_map_set hwk]; exact k7
    · rw [pm_map_set hwk]; exact k8
    · rw [pm_used_set]; exact k9
    · rw [pm_slots_setO hk]; exact k10
  rcases hfi with hfi | ⟨hfi, hfo⟩
  · exact va_put hx hb hts hin (pm_ty a) (pm_tyok a h7) (pm_nm a h7) hown k1 k2 k3 k4 k hwk (pm_cl a h7) b hbN hl (fun _ h9 => h9) hfi (pm_tyok a h7 b hbN) hn hfit hll hdg hgo
  · by_cases hfin : (pm_T a b).2.2.2 = true
    · exact va_putF hx hb hts hin (pm_ty a) (pm_tyok a h7) (pm_nm a h7) hown k1 k2 k3 k4 k hwk (pm_cl a h7) b hbN hl (fun _ h9 => h9) hfin hfi hfo (pm_tyok a h7 b hbN) hn hfit hll hdg hgo
    · exact va_put hx hb hts hin (pm_ty a) (pm_tyok a h7) (pm_nm a h7) hown k1 k2 k3 k4 k hwk (pm_cl a h7) b hbN hl (fun _ h9 => h9) (by simpa using hfin) (pm_tyok a h7 b hbN) hn hfit hll hdg hgo
theorem sx_baload (hx : p.tables.exec = Jvm.exec) (hb : c.code = cc) (hdg : decode cc pc = .ok (.baload, 1)) (q : ∃ i k r n f, st = vI i :: vR k :: r ∧ pm_get h k = some (.inl (.boolean, n, .inl f)) ∧ n ≤ 1000 ∧ 0 ≤ i ∧ i < n ∧ pm_X p l e R s m args below meth c Q D V A ad0 u0 v0 hF ls (vI (f i.toNat) :: r) (pc + 1) h) : pm_X p l e R s m args below meth c Q D V A ad0 u0 v0 hF ls st pc h := by
  obtain ⟨i, k, r, n, f, rfl, hk, hn, hi0, hin, hK⟩ := q
  refine ⟨hK.1, fun H locs cells slots lsM stM hS => ?_⟩
  obtain ⟨ws, tys, ext, k1, k2, k3, k4, k5, k6, k7, k8, k9, k10⟩ := hS
  obtain ⟨w0, r0, rfl, ⟨z, rfl, ez⟩, w1, r1, rfl, ⟨ad, ha, rfl⟩, k8⟩ := k8
  obtain ⟨e1, hwk, cA, g, rfl, ⟨t0, ht⟩, hg⟩ := k5.cell hk ha
  obtain ⟨g', rfl, hgj⟩ := hg
  subst ez
  exact va_zald hx hb k1 k2 k t0 hwk ht (pm_in rfl hi0 hin) hdg (hK.2 _ _ _ _ _ _ ⟨ws, tys, ext, k1, k2, k3, k4, k5, k6, k7, ⟨_, _, rfl, ⟨_, rfl, hgj _⟩, k8⟩, k9, k10⟩)
theorem sx_caload (hx : p.tables.exec = Jvm.exec) (hb : c.code = cc) (hdg : decode cc pc = .ok (.caload, 1)) (q : ∃ i k r n f, st = vI i :: vR k :: r ∧ pm_get h k = some (.inl (.char, n, .inl f)) ∧ n ≤ 1000 ∧ 0 ≤ i ∧ i < n ∧ pm_X p l e R s m args below meth c Q D V A ad0 u0 v0 hF ls (vI (f i.toNat) :: r) (pc + 1) h) : pm_X p l e R s m args below meth c Q D V A ad0 u0 v0 hF ls st pc h := by
  obtain ⟨i, k, r, n, f, rfl, hk, hn, hi0, hin, hK⟩ := q
  refine ⟨hK.1, fun H locs cells slots lsM stM hS => ?_⟩
  obtain ⟨ws, tys, ext, k1, k2, k3, k4, k5, k6, k7, k8, k9, k10⟩ := hS
  obtain ⟨w0, r0, rfl, ⟨z, rfl, ez⟩, w1, r1, rfl, ⟨ad, ha, rfl⟩, k8⟩ := k8
  obtain ⟨e1, hwk, cA, g, rfl, ⟨t0, ht⟩, hg⟩ := k5.cell hk ha
  obtain ⟨g', rfl, hgj⟩ := hg
  subst ez
  exact va_cald hx hb k1 k2 k t0 hwk ht (pm_in rfl hi0 hin) hdg (hK.2 _ _ _ _ _ _ ⟨ws, tys, ext, k1, k2, k3, k4, k5, k6, k7, ⟨_, _, rfl, ⟨_, rfl, hgj _⟩, k8⟩, k9, k10⟩)
theorem sx_iald (hx : p.tables.exec = Jvm.exec) (hb : c.code = cc) (hdg : decode cc pc = .ok (.iaload, 1)) (q : ∃ i k r n f, st = vI i :: vR k :: r ∧ pm_get h k = some (.inl (.int, n, .inl f)) ∧ n ≤ 1000 ∧ 0 ≤ i ∧ i < n ∧ pm_X p l e R s m args below meth c Q D V A ad0 u0 v0 hF ls (vI (f i.toNat) :: r) (pc + 1) h) : pm_X p l e R s m args below meth c Q D V A ad0 u0 v0 hF ls st pc h := by
  obtain ⟨i, k, r, n, f, rfl, hk, hn, hi0, hin, hK⟩ := q
  refine ⟨hK.1, fun H locs cells slots lsM stM hS => ?_⟩
  obtain ⟨ws, tys, ext, k1, k2, k3, k4, k5, k6, k7, k8, k9, k10⟩ := hS
  obtain ⟨w0, r0, rfl, ⟨z, rfl, ez⟩, w1, r1, rfl, ⟨ad, ha, rfl⟩, k8⟩ := k8
  obtain ⟨e1, hwk, cA, g, rfl, ⟨t0, ht⟩, hg⟩ := k5.cell hk ha
  obtain ⟨g', rfl, hgj⟩ := hg
  subst ez
  exact va_iald hx hb k1 k2 k t0 hwk ht (pm_in rfl hi0 hin) hdg (hK.2 _ _ _ _ _ _ ⟨ws, tys, ext, k1, k2, k3, k4, k5, k6, k7, ⟨_, _, rfl, ⟨_, rfl, hgj _⟩, k8⟩, k9, k10⟩)
theorem sx_laload (hx : p.tables.exec = Jvm.exec) (hb : c.code = cc) (hdg : decode cc pc = .ok (.laload, 1)) (q : ∃ i k r n f, st = vI i :: vR k :: r ∧ pm_get h k = some (.inl (.long, n, .inr (.inl f))) ∧ n ≤ 1000 ∧ 0 ≤ i ∧ i < n ∧ pm_X p l e R s m args below meth c Q D V A ad0 u0 v0 hF ls (vL (f i.toNat) :: r) (pc + 1) h) : pm_X p l e R s m args below meth c Q D V A ad0 u0 v0 hF ls st pc h := by
  obtain ⟨i, k, r, n, f, rfl, hk, hn, hi0, hin, hK⟩ := q
  refine ⟨hK.1, fun H locs cells slots lsM stM hS => ?_⟩
  obtain ⟨ws, tys, ext, k1, k2, k3, k4, k5, k6, k7, k8, k9, k10⟩ := hS
  obtain ⟨w0, r0, rfl, ⟨z, rfl, ez⟩, w1, r1, rfl, ⟨ad, ha, rfl⟩, k8⟩ := k8
  obtain ⟨e1, hwk, cA, g, rfl, ⟨t0, ht⟩, hg⟩ := k5.cell hk ha
  obtain ⟨g', rfl, hgj⟩ := hg
  subst ez
  exact va_lald hx hb k1 k2 k t0 hwk ht (pm_in rfl hi0 hin) hdg (hK.2 _ _ _ _ _ _ ⟨ws, tys, ext, k1, k2, k3, k4, k5, k6, k7, ⟨_, _, rfl, ⟨_, rfl, hgj _⟩, k8⟩, k9, k10⟩)
theorem sx_faload (hx : p.tables.exec = Jvm.exec) (hb : c.code = cc) (hdg : decode cc pc = .ok (.faload, 1)) (q : ∃ i k r n f, st = vI i :: vR k :: r ∧ pm_get h k = some (.inl (.float, n, .inr (.inr (.inl f)))) ∧ n ≤ 1000 ∧ 0 ≤ i ∧ i < n ∧ pm_X p l e R s m args below meth c Q D V A ad0 u0 v0 hF ls (vF (f i.toNat) :: r) (pc + 1) h) : pm_X p l e R s m args below meth c Q D V A ad0 u0 v0 hF ls st pc h := by
  obtain ⟨i, k, r, n, f, rfl, hk, hn, hi0, hin, hK⟩ := q
  refine ⟨hK.1, fun H locs cells slots lsM stM hS => ?_⟩
  obtain ⟨ws, tys, ext, k1, k2, k3, k4, k5, k6, k7, k8, k9, k10⟩ := hS
  obtain ⟨w0, r0, rfl, ⟨z, rfl, ez⟩, w1, r1, rfl, ⟨ad, ha, rfl⟩, k8⟩ := k8
  obtain ⟨e1, hwk, cA, g, rfl, ⟨t0, ht⟩, hg⟩ := k5.cell hk ha
  cases hg
  subst ez
  exact va_fald hx hb k1 k2 k t0 hwk ht (pm_in rfl hi0 hin) hdg (hK.2 _ _ _ _ _ _ ⟨ws, tys, ext, k1, k2, k3, k4, k5, k6, k7, ⟨_, _, rfl, rfl, k8⟩, k9, k10⟩)
theorem sx_daload (hx : p.tables.exec = Jvm.exec) (hb : c.code = cc) (hdg : decode cc pc = .ok (.daload, 1)) (q : ∃ i k r n f, st = vI i :: vR k :: r ∧ pm_get h k = some (.inl (.double, n, .inr (.inr (.inr (.inl f))))) ∧ n ≤ 1000 ∧ 0 ≤ i ∧ i < n ∧ pm_X p l e R s m args below meth c Q D V A ad0 u0 v0 hF ls (vD (f i.toNat) :: r) (pc + 1) h) : pm_X p l e R s m args below meth c Q D V A ad0 u0 v0 hF ls st pc h := by
  obtain ⟨i, k, r, n, f, rfl, hk, hn, hi0, hin, hK⟩ := q
  refine ⟨hK.1, fun H locs cells slots lsM stM hS => ?_⟩
  obtain ⟨ws, tys, ext, k1, k2, k3, k4, k5, k6, k7, k8, k9, k10⟩ := hS
  obtain ⟨w0, r0, rfl, ⟨z, rfl, ez⟩, w1, r1, rfl, ⟨ad, ha, rfl⟩, k8⟩ := k8
  obtain ⟨e1, hwk, cA, g, rfl, ⟨t0, ht⟩, hg⟩ := k5.cell hk ha
  cases hg
  subst ez
  exact va_dald hx hb k1 k2 k t0 hwk ht (pm_in rfl hi0 hin) hdg (hK.2 _ _ _ _ _ _ ⟨ws, tys, ext, k1, k2, k3, k4, k5, k6, k7, ⟨_, _, rfl, rfl, k8⟩, k9, k10⟩)
theorem sx_aaload (hx : p.tables.exec = Jvm.exec) (hb : c.code = cc) (hdg : decode cc pc = .ok (.aaload, 1)) (q : ∃ i k r cn n f y, st = vI i :: vR k :: r ∧ pm_get h k = some (.inl (.object cn, n, .inr (.inr (.inr (.inr f))))) ∧ n ≤ 1000 ∧ 0 ≤ i ∧ i < n ∧ f i.toNat = some y ∧ pm_X p l e R s m args below meth c Q D V A ad0 u0 v0 hF ls (vR y :: r) (pc + 1) h) : pm_X p l e R s m args below meth c Q D V A ad0 u0 v0 hF ls st pc h := by
  obtain ⟨i, k, r, cn, n, f, y, rfl, hk, hn, hi0, hin, hf, hK⟩ := q
  refine ⟨hK.1, fun H locs cells slots lsM stM hS => ?_⟩
  obtain ⟨ws, tys, ext, k1, k2, k3, k4, k5, k6, k7, k8, k9, k10⟩ := hS
  obtain ⟨w0, r0, rfl, ⟨z, rfl, ez⟩, w1, r1, rfl, ⟨ad, ha, rfl⟩, k8⟩ := k8
  obtain ⟨e1, hwk, cA, g, rfl, ⟨t0, ht⟩, g', rfl, hgj⟩ := k5.cell hk ha
  subst ez
  have hj := hgj z.toInt.toNat
  rw [hf] at hj
  obtain ⟨ay, hay, hgy⟩ := hj
  refine va_aldq hx hb k1 k2 k t0 hwk ht (pm_in rfl hi0 hin) hdg ?_
  rw [pm_cl0, hgy]
  exact hK.2 _ _ _ _ _ _ ⟨ws, tys, ext, k1, k2, k3, k4, k5, k6, k7, ⟨_, _, rfl, ⟨ay, hay, rfl⟩, k8⟩, k9, k10⟩
theorem sx_iaload (hx : p.tables.exec = Jvm.exec) (hb : c.code = cc) {L b : Nat} {xs : Nat → Int32} (hX : V 0 = b ∧ (L ≤ 1000 → va_X b L xs s s.heap ∧ b < s.heap.size ∧ ¬ A b)) (hdg : decode cc pc = .ok (.iaload, 1)) (q : ∃ i v r, st = vI i :: v :: r ∧ ((∃ k n f, v = vR k ∧ pm_get h k = some (.inl (.int, n, .inl f)) ∧ n ≤ 1000 ∧ 0 ≤ i ∧ i < n ∧ pm_X p l e R s m args below meth c Q D V A ad0 u0 v0 hF ls (vI (f i.toNat) :: r) (pc + 1) h) ∨ (v = vX 2 ∧ L ≤ 1000 ∧ 0 ≤ i ∧ i < L ∧ pm_X p l e R s m args below meth c Q D V A ad0 u0 v0 hF ls (vI ((xs i.toNat).toInt) :: r) (pc + 1) h))) : pm_X p l e R s m args below meth c Q D V A ad0 u0 v0 hF ls st pc h := by
  obtain ⟨i, v, r, rfl, q⟩ := q
  rcases q with ⟨k, n, f, rfl, hk, hn, hi0, hin, hK⟩ | ⟨rfl, hL, hi0, hin, hK⟩
  · exact sx_iald hx hb hdg ⟨i, k, r, n, f, rfl, hk, hn, hi0, hin, hK⟩
  · refine ⟨hK.1, fun H locs cells slots lsM stM hS => ?_⟩
    obtain ⟨ws, tys, ext, k1, k2, k3, k4, k5, k6, k7, k8, k9, k10⟩ := hS
    obtain ⟨w0, r0, rfl, ⟨z, rfl, ez⟩, w1, r1, rfl, hv, k8⟩ := k8
    obtain ⟨hV, hX⟩ := hX
    obtain ⟨hX, hbl, hbA⟩ := hX hL
    have hv : w1 = .ref (V 0) := hv
    subst hv
    subst ez
    rw [hV]
    exact va_sld hx hb hX hbl hbA k4 (pm_in rfl hi0 hin) hdg (hK.2 _ _ _ _ _ _ ⟨ws, tys, ext, k1, k2, k3, k4, k5, k6, k7, ⟨_, _, rfl, ⟨_, rfl, rfl⟩, k8⟩, k9, k10⟩)
theorem sx_alen (hx : p.tables.exec = Jvm.exec) (hb : c.code = cc) {L b : Nat} {xs : Nat → Int32} (hX : V 0 = b ∧ (L ≤ 1000 → va_X b L xs s s.heap ∧ b < s.heap.size ∧ ¬ A b)) (hdg : decode cc pc = .ok (.arraylength, 1)) (q : ∃ v r, st = v :: r ∧ ((∃ k ty n z, v = vR k ∧ pm_get h k = some (.inl (ty, n, z)) ∧ n ≤ 1000 ∧ pm_X p l e R s m args below meth c Q D V A ad0 u0 v0 hF ls (vI n :: r) (pc + 1) h) ∨ (v = vX 2 ∧ L ≤ 1000 ∧ pm_X p l e R s m args below meth c Q D V A ad0 u0 v0 hF ls (vI L :: r) (pc + 1) h))) : pm_X p l e R s m args below meth c Q D V A ad0 u0 v0 hF ls st pc h := by
  obtain ⟨v, r, rfl, q⟩ := q
  rcases q with ⟨k, ty, n, z, rfl, hk, hn, hK⟩ | ⟨rfl, hL, hK⟩
  · refine ⟨hK.1, fun H locs cells slots lsM stM hS => ?_⟩
    obtain ⟨ws, tys, ext, k1, k2, k3, k4, k5, k6, k7, k8, k9, k10⟩ := hS
    obtain ⟨w1, r1, rfl, ⟨ad, ha, rfl⟩, k8⟩ := k8
    obtain ⟨e1, hwk, cA, g, rfl, ⟨t0, ht⟩, hg⟩ := k5.cell hk ha
    exact va_alen hx hb k1 k2 k t0 hwk ht rfl hdg (hK.2 _ _ _ _ _ _ ⟨ws, tys, ext, k1, k2, k3, k4, k5, k6, k7, ⟨_, _, rfl, ⟨_, rfl, nI_toInt (n := n) (by omega)⟩, k8⟩, k9, k10⟩)
  · refine ⟨hK.1, fun H locs cells slots lsM stM hS => ?_⟩
    obtain ⟨ws, tys, ext, k1, k2, k3, k4, k5, k6, k7, k8, k9, k10⟩ := hS
    obtain ⟨w1, r1, rfl, hv, k8⟩ := k8
    obtain ⟨hV, hX⟩ := hX
    obtain ⟨hX, hbl, hbA⟩ := hX hL
    have hv : w1 = .ref (V 0) := hv
    subst hv
    rw [hV]
    exact va_slen hx hb hX hbl hbA k4 hdg (hK.2 _ _ _ _ _ _ ⟨ws, tys, ext, k1, k2, k3, k4, k5, k6, k7, ⟨_, _, rfl, ⟨_, rfl, nI_toInt (n := L) (by omega)⟩, k8⟩, k9, k10⟩)
theorem sx_iastore (hx : p.tables.exec = Jvm.exec) (hb : c.code = cc) (hdg : decode cc pc = .ok (.iastore, 1)) (q : ∃ x i k r n f, st = vI x :: vI i :: vR k :: r ∧ pm_get h k = some (.inl (.int, n, .inl f)) ∧ n ≤ 1000 ∧ 0 ≤ i ∧ i < n ∧ pm_X p l e R s m args below meth c Q D V A ad0 u0 v0 hF ls r (pc + 1) (pm_set h k (.inl (.int, n, .inl (pm_up f i.toNat x))))) : pm_X p l e R s m args below meth c Q D V A ad0 u0 v0 hF ls st pc h := by
  obtain ⟨x, i, k, r, n, f, rfl, hk, hn, hi0, hin, hK⟩ := q
  have hB := hK.1
  rw [pm_used_set, pm_slots_setA hk] at hB
  refine ⟨hB, fun H locs cells slots lsM stM hS => ?_⟩
  obtain ⟨ws, tys, ext, k1, k2, k3, k4, k5, k6, k7, k8, k9, k10⟩ := hS
  obtain ⟨wx, rx, rfl, hvx, w0, r0, rfl, ⟨z, rfl, ez⟩, w1, r1, rfl, ⟨ad, ha, rfl⟩, k8⟩ := k8
  obtain ⟨zx, rfl, ex⟩ := hvx
  obtain ⟨e1, hwk, cA, g, rfl, ⟨t0, ht⟩, hg⟩ := k5.cell hk ha
  obtain ⟨g', rfl, hgj⟩ := hg
  subst ez
  skip
  have hnew : ∀ j, (upd g' z.toNatClampNeg zx j).toInt = pm_up f z.toInt.toNat x j := by
    intro j
    unfold upd pm_up
    rw [pm_cl0]
    split
    · exact ex
    · exact hgj j
  refine va_iast hx hb k1 k2 k3 k4 k t0 hwk ht (pm_in rfl hi0 hin) hdg (fun H1 locs1 hP hD hS => ?_)
  skip
  refine hK.2 _ _ _ _ _ _ ⟨ws.set k (ad, .inl (cA, n, .inl (upd g' z.toNatClampNeg zx))), tys, ext, k1, hP, hD, hS, k5.set hwk ⟨cA, _, rfl, ⟨t0, ht⟩, _, rfl, hnew⟩, ?_, ?_, ?_, ?_, ?_⟩
  · rw [pm_map_set hwk]; exact k6
  · rw [pm_map_set hwk]; exact k7
  · rw [pm_map_set hwk]; exact k8
  · rw [pm_used_set]; exact k9
  · rw [pm_slots_setA hk]; exact k10
theorem sx_bastore (hx : p.tables.exec = Jvm.exec) (hb : c.code = cc) (hdg : decode cc pc = .ok (.bastore, 1)) (q : ∃ x i k r n f, st = vI x :: vI i :: vR k :: r ∧ pm_get h k = some (.inl (.boolean, n, .inl f)) ∧ n ≤ 1000 ∧ 0 ≤ i ∧ i < n ∧ (x = 0 ∨ x = 1) ∧ pm_X p l e R s m args below meth c Q D V A ad0 u0 v0 hF ls r (pc + 1) (pm_set h k (.inl (.boolean, n, .inl (pm_up f i.toNat x))))) : pm_X p l e R s m args below meth c Q D V A ad0 u0 v0 hF ls st pc h := by
  obtain ⟨x, i, k, r, n, f, rfl, hk, hn, hi0, hin, hx01, hK⟩ := q
  have hB := hK.1
  rw [pm_used_set, pm_slots_setA hk] at hB
  refine ⟨hB, fun H locs cells slots lsM stM hS => ?_⟩
  obtain ⟨ws, tys, ext, k1, k2, k3, k4, k5, k6, k7, k8, k9, k10⟩ := hS
  obtain ⟨wx, rx, rfl, hvx, w0, r0, rfl, ⟨z, rfl, ez⟩, w1, r1, rfl, ⟨ad, ha, rfl⟩, k8⟩ := k8
  obtain ⟨zx, rfl, ex⟩ := hvx
  obtain ⟨e1, hwk, cA, g, rfl, ⟨t0, ht⟩, hg⟩ := k5.cell hk ha
  obtain ⟨g', rfl, hgj⟩ := hg
  subst ez
  have hnar : vp_nar .boolean zx = zx := by
    rcases hx01 with rfl | rfl
    · have : zx = 0 := Int32.toInt_inj.mp (by rw [ex]; rfl)
      subst this; rfl
    · have : zx = 1 := Int32.toInt_inj.mp (by rw [ex]; rfl)
      subst this; rfl
  have hnew : ∀ j, (upd g' z.toNatClampNeg zx j).toInt = pm_up f z.toInt.toNat x j := by
    intro j
    unfold upd pm_up
    rw [pm_cl0]
    split
    · exact ex
    · exact hgj j
  refine va_zast hx hb k1 k2 k3 k4 k t0 hwk ht (pm_in rfl hi0 hin) hdg (fun H1 locs1 hP hD hS => ?_)
  rw [hnar] at hP hD
  refine hK.2 _ _ _ _ _ _ ⟨ws.set k (ad, .inl (cA, n, .inl (upd g' z.toNatClampNeg zx))), tys, ext, k1, hP, hD, hS, k5.set hwk ⟨cA, _, rfl, ⟨t0, ht⟩, _, rfl, hnew⟩, ?_, ?_, ?_, ?_, ?_⟩
  · rw [pm_map_set hwk]; exact k6
  · rw [pm_map_set hwk]; exact k7
  · rw [pm_map_set hwk]; exact k8
  · rw [pm_used_set]; exact k9
  · rw [pm_slots_setA hk]; exact k10
theorem sx_castore (hx : p.tables.exec = Jvm.exec) (hb : c.code = cc) (hdg : decode cc pc = .ok (.castore, 1)) (q : ∃ x i k r n f, st = vI x :: vI i :: vR k :: r ∧ pm_get h k = some (.inl (.char, n, .inl f)) ∧ n ≤ 1000 ∧ 0 ≤ i ∧ i < n ∧ 0 ≤ x ∧ x < 65536 ∧ pm_X p l e R s m args below meth c Q D V A ad0 u0 v0 hF ls r (pc + 1) (pm_set h k (.inl (.char, n, .inl (pm_up f i.toNat x))))) : pm_X p l e R s m args below meth c Q D V A ad0 u0 v0 hF ls st pc h := by
  obtain ⟨x, i, k, r, n, f, rfl, hk, hn, hi0, hin, hx0, hx1, hK⟩ := q
  have hB := hK.1
  rw [pm_used_set, pm_slots_setA hk] at hB
  refine ⟨hB, fun H locs cells slots lsM stM hS => ?_⟩
  obtain ⟨ws, tys, ext, k1, k2, k3, k4, k5, k6, k7, k8, k9, k10⟩ := hS
  obtain ⟨wx, rx, rfl, hvx, w0, r0, rfl, ⟨z, rfl, ez⟩, w1, r1, rfl, ⟨ad, ha, rfl⟩, k8⟩ := k8
  obtain ⟨zx, rfl, ex⟩ := hvx
  obtain ⟨e1, hwk, cA, g, rfl, ⟨t0, ht⟩, hg⟩ := k5.cell hk ha
  obtain ⟨g', rfl, hgj⟩ := hg
  subst ez
  have hnar : vp_nar .char zx = zx := by
    have : zx = nI x.toNat := Int32.toInt_inj.mp (by rw [ex, nI_toInt (by omega)]; omega)
    subst this
    unfold vp_nar
    rw [(pk_charN (q := x.toNat) (by omega)).1]
  have hnew : ∀ j, (upd g' z.toNatClampNeg zx j).toInt = pm_up f z.toInt.toNat x j := by
    intro j
    unfold upd pm_up
    rw [pm_cl0]
    split
    · exact ex
    · exact hgj j
  refine va_cast hx hb k1 k2 k3 k4 k t0 hwk ht (pm_in rfl hi0 hin) hdg (fun H1 locs1 hP hD hS => ?_)
  rw [hnar] at hP hD
  refine hK.2 _ _ _ _ _ _ ⟨ws.set k (ad, .inl (cA, n, .inl (upd g' z.toNatClampNeg zx))), tys, ext, k1, hP, hD, hS, k5.set hwk ⟨cA, _, rfl, ⟨t0, ht⟩, _, rfl, hnew⟩, ?_, ?_, ?_, ?_, ?_⟩
  · rw [pm_map_set hwk]; exact k6
  · rw [pm_map_set hwk]; exact k7
  · rw [pm_map_set hwk]; exact k8
  · rw [pm_used_set]; exact k9
  · rw [pm_slots_setA hk]; exact k10
theorem sx_lastore (hx : p.tables.exec = Jvm.exec) (hb : c.code = cc) (hdg : decode cc pc = .ok (.lastore, 1)) (q : ∃ x i k r n f, st = vL x :: vI i :: vR k :: r ∧ pm_get h k = some (.inl (.long, n, .inr (.inl f))) ∧ n ≤ 1000 ∧ 0 ≤ i ∧ i < n ∧ pm_X p l e R s m args below meth c Q D V A ad0 u0 v0 hF ls r (pc + 1) (pm_set h k (.inl (.long, n, .inr (.inl (pm_up f i.toNat x)))))) : pm_X p l e R s m args below meth c Q D V A ad0 u0 v0 hF ls st pc h := by
  obtain ⟨x, i, k, r, n, f, rfl, hk, hn, hi0, hin, hK⟩ := q
  have hB := hK.1
  rw [pm_used_set, pm_slots_setA hk] at hB
  refine ⟨hB, fun H locs cells slots lsM stM hS => ?_⟩
  obtain ⟨ws, tys, ext, k1, k2, k3, k4, k5, k6, k7, k8, k9, k10⟩ := hS
  obtain ⟨wx, rx, rfl, hvx, w0, r0, rfl, ⟨z, rfl, ez⟩, w1, r1, rfl, ⟨ad, ha, rfl⟩, k8⟩ := k8
  obtain ⟨zx, rfl, ex⟩ := hvx
  obtain ⟨e1, hwk, cA, g, rfl, ⟨t0, ht⟩, hg⟩ := k5.cell hk ha
  obtain ⟨g', rfl, hgj⟩ := hg
  subst ez
  skip
  have hnew : ∀ j, (vp_updL g' z.toNatClampNeg zx j).toInt = pm_up f z.toInt.toNat x j := by
    intro j
    unfold vp_updL pm_up
    rw [pm_cl0]
    split
    · exact ex
    · exact hgj j
  refine va_last hx hb k1 k2 k3 k4 k t0 hwk ht (pm_in rfl hi0 hin) hdg (fun H1 locs1 hP hD hS => ?_)
  skip
  refine hK.2 _ _ _ _ _ _ ⟨ws.set k (ad, .inl (cA, n, .inr (.inl (vp_updL g' z.toNatClampNeg zx)))), tys, ext, k1, hP, hD, hS, k5.set hwk ⟨cA, _, rfl, ⟨t0, ht⟩, _, rfl, hnew⟩, ?_, ?_, ?_, ?_, ?_⟩
  · rw [pm_map_set hwk]; exact k6
  · rw [pm_map_set hwk]; exact k7
  · rw [pm_map_set hwk]; exact k8
  · rw [pm_used_set]; exact k9
  · rw [pm_slots_setA hk]; exact k10
theorem sx_fastore (hx : p.tables.exec = Jvm.exec) (hb : c.code = cc) (hdg : decode cc pc = .ok (.fastore, 1)) (q : ∃ x i k r n f, st = vF x :: vI i :: vR k :: r ∧ pm_get h k = some (.inl (.float, n, .inr (.inr (.inl f)))) ∧ n ≤ 1000 ∧ 0 ≤ i ∧ i < n ∧ pm_X p l e R s m args below meth c Q D V A ad0 u0 v0 hF ls r (pc + 1) (pm_set h k (.inl (.float, n, .inr (.inr (.inl (pm_up f i.toNat x))))))) : pm_X p l e R s m args below meth c Q D V A ad0 u0 v0 hF ls st pc h := by
  obtain ⟨x, i, k, r, n, f, rfl, hk, hn, hi0, hin, hK⟩ := q
  have hB := hK.1
  rw [pm_used_set, pm_slots_setA hk] at hB
  refine ⟨hB, fun H locs cells slots lsM stM hS => ?_⟩
  obtain ⟨ws, tys, ext, k1, k2, k3, k4, k5, k6, k7, k8, k9, k10⟩ := hS
  obtain ⟨wx, rx, rfl, hvx, w0, r0, rfl, ⟨z, rfl, ez⟩, w1, r1, rfl, ⟨ad, ha, rfl⟩, k8⟩ := k8
  obtain rfl := hvx
  obtain ⟨e1, hwk, cA, g, rfl, ⟨t0, ht⟩, hg⟩ := k5.cell hk ha
  cases hg
  subst ez
  skip
  skip
  refine va_fast hx hb k1 k2 k3 k4 k t0 hwk ht (pm_in rfl hi0 hin) hdg (fun H1 locs1 hP hD hS => ?_)
  skip
  refine hK.2 _ _ _ _ _ _ ⟨ws.set k (ad, .inl (cA, n, .inr (.inr (.inl (vf_upd f z.toNatClampNeg x))))), tys, ext, k1, hP, hD, hS, k5.set hwk ⟨cA, _, rfl, ⟨t0, ht⟩, rfl⟩, ?_, ?_, ?_, ?_, ?_⟩
  · rw [pm_map_set hwk]; exact k6
  · rw [pm_map_set hwk]; exact k7
  · rw [pm_map_set hwk]; exact k8
  · rw [pm_used_set]; exact k9
  · rw [pm_slots_setA hk]; exact k10
theorem sx_dastore (hx : p.tables.exec = Jvm.exec) (hb : c.code = cc) (hdg : decode cc pc = .ok (.dastore, 1)) (q : ∃ x i k r n f, st = vD x :: vI i :: vR k :: r ∧ pm_get h k = some (.inl (.double, n, .inr (.inr (.inr (.inl f))))) ∧ n ≤ 1000 ∧ 0 ≤ i ∧ i < n ∧ pm_X p l e R s m args below meth c Q D V A ad0 u0 v0 hF ls r (pc + 1) (pm_set h k (.inl (.double, n, .inr (.inr (.inr (.inl (pm_up f i.toNat x)))))))) : pm_X p l e R s m args below meth c Q D V A ad0 u0 v0 hF ls st pc h := by
  obtain ⟨x, i, k, r, n, f, rfl, hk, hn, hi0, hin, hK⟩ := q
  have hB := hK.1
  rw [pm_used_set, pm_slots_setA hk] at hB
  refine ⟨hB, fun H locs cells slots lsM stM hS => ?_⟩
  obtain ⟨ws, tys, ext, k1, k2, k3, k4, k5, k6, k7, k8, k9, k10⟩ := hS
  obtain ⟨wx, rx, rfl, hvx, w0, r0, rfl, ⟨z, rfl, ez⟩, w1, r1, rfl, ⟨ad, ha, rfl⟩, k8⟩ := k8
  obtain rfl := hvx
  obtain ⟨e1, hwk, cA, g, rfl, ⟨t0, ht⟩, hg⟩ := k5.cell hk ha
  cases hg
  subst ez
  skip
  skip
  refine va_dast hx hb k1 k2 k3 k4 k t0 hwk ht (pm_in rfl hi0 hin) hdg (fun H1 locs1 hP hD hS => ?_)
  skip
  refine hK.2 _ _ _ _ _ _ ⟨ws.set k (ad, .inl (cA, n, .inr (.inr (.inr (.inl (vf_upd f z.toNatClampNeg x)))))), tys, ext, k1, hP, hD, hS, k5.set hwk ⟨cA, _, rfl, ⟨t0, ht⟩, rfl⟩, ?_, ?_, ?_, ?_, ?_⟩
  · rw [pm_map_set hwk]; exact k6
  · rw [pm_map_set hwk]; exact k7
  · rw [pm_map_set hwk]; exact k8
  · rw [pm_used_set]; exact k9
  · rw [pm_slots_setA hk]; exact k10
end SX3
