/-! ===== THE PURE MACHINE IS SOUND: new cells, and what the library does by itself ===== -/
def pm_okty : FieldType → Bool
  | .int => true
  | .boolean => true
  | .char => true
  | .float => true
  | .object _ => true
  | .array _ => true
  | _ => false
theorem pm_okt : ∀ ci, ci < 7 → ∀ k, k < pm_N ci → pm_okty (pm_ty ci k) = true := by
  intro ci h
  match ci, h with
  | 0, _ => decide +kernel
  | 1, _ => decide +kernel
  | 2, _ => decide +kernel
  | 3, _ => decide +kernel
  | 4, _ => decide +kernel
  | 5, _ => decide +kernel
  | 6, _ => decide +kernel
def pm_dvs (ci : Nat) : List Value := (List.range (pm_N ci)).map (fun k => defaultValue (pm_ty ci k))
theorem pm_dv_ok {V : Nat → Nat} {ad : List Nat} {ty : FieldType} (h : pm_okty ty = true) : pm_v V ad (pm_dv ty) (defaultValue ty) := by
  cases ty with
  | int => exact ⟨0, rfl, rfl⟩
  | boolean => exact ⟨0, rfl, rfl⟩
  | char => exact ⟨0, rfl, rfl⟩
  | float => exact (rfl : _)
  | object n => exact (rfl : _)
  | array t => exact (rfl : _)
  | _ => cases h
theorem pm_vs_map {V : Nat → Nat} {ad : List Nat} {f : Nat → pV} {g : Nat → Value} : ∀ (l : List Nat), (∀ k ∈ l, pm_v V ad (f k) (g k)) → pm_vs V ad (l.map f) (l.map g) := by
  intro l
  induction l with
  | nil => intro _; exact (rfl : _)
  | cons x r ih => intro h; exact ⟨_, _, rfl, h x List.mem_cons_self, ih (fun k hk => h k (List.mem_cons_of_mem _ hk))⟩
theorem pm_new_ok {V : Nat → Nat} {ad : List Nat} {ci : Nat} (h : ci < 7) : pm_vs V ad (pm_new ci) (pm_dvs ci) :=
  pm_vs_map _ (fun k hk => pm_dv_ok (pm_okt ci h k (List.mem_range.mp hk)))
theorem pm_dvs_get {ci j : Nat} (h : j < pm_N ci) : defaultValue (pm_ty ci j) = vp_V (pm_dvs ci) j := by
  unfold vp_V pm_dvs
  rw [List.getD_eq_getElem?_getD, List.getElem?_map, List.getElem?_range h]
  rfl
section SX4
variable {p : Program} {l : Launch} {e : Env} {R : Room} {s : State} {m : MethodId} {args : Array Value} {below : List Frame} {meth : Method} {c : Code} {Q : State → Prop} {D : va_G} {V : Nat → Nat} {A : Nat → Prop} {ad0 : List Nat} {u0 v0 : Nat} {hF : pH} {ls : List (Option pV)} {st : List pV} {pc : Nat} {h : pH} {cc : ByteArray} {own : String} {Ts : List Jvm.Cond} {d : Nat}
theorem pm_grow {ws : va_W} {tys ty2 : List (ClassId × FieldType)} {ext : List Nat} {H1 : Heap} {locs : List Loc} {cells slots q : Nat} {lsM : Array Slot} {r : List pV} {r1 : List Value} {cN : pC} {eN : va_E}
    (k1 : va_K D vwCl (tys ++ ty2) s) (hP : va_P D vwCl (ws ++ [(q, eN)]) H1) (hD : va_D A (ws ++ [(q, eN)])) (hS : va_S A s.heap H1 locs) (k5 : pm_w V tys h.1 ws) (k6 : ws.map Prod.fst = ad0 ++ ext) (k7 : pm_L V (ws.map Prod.fst) ls lsM) (k8 : pm_vs V (ws.map Prod.fst) r r1) (k9 : cells + u0 = pm_used h) (k10 : slots + v0 = pm_slots h)
    (hc : pm_c V (ws.map Prod.fst ++ [q]) (tys ++ ty2) cN eN) : pm_St D V A s ad0 u0 v0 ls (vR h.1.length :: r) (pm_push h cN) H1 locs (cells + 1) (slots + pm_size cN) lsM (.ref q :: r1) := by
  have em : (ws ++ [(q, eN)]).map Prod.fst = ws.map Prod.fst ++ [q] := by rw [List.map_append]; rfl
  refine ⟨ws ++ [(q, eN)], tys ++ ty2, ext ++ [q], k1, hP, hD, hS, k5.push ty2 hc, ?_, ?_, ?_, ?_, ?_⟩
  · rw [em, k6, List.append_assoc]
  · rw [em]; exact k7.app [q]
  · rw [em]
    refine ⟨_, _, rfl, ⟨q, ?_, rfl⟩, k8.app [q]⟩
    rw [List.getElem?_append_right (by rw [List.length_map, k5.1]; exact Nat.le_refl _), List.length_map, k5.1, Nat.sub_self]
    rfl
  · rw [pm_used_push]; omega
  · rw [pm_slots_push]; omega
theorem sx_new (hx : p.tables.exec = Jvm.exec) (hb : c.code = cc) {a i : Nat} (hown : s.vm.findClass own = some m.cls) (hts : ∀ w ∈ Ts, w.before args s = true) (hin : ∀ w ∈ u_ws (pm_cn a) (pm_T a) (pm_N a), w ∈ Ts) (hcl : (Cond.classLink own i (pm_cn a)).before args s = true) (hin2 : (Cond.instantiable (pm_cn a) (pm_N a)).before args s = true) (hini : (Cond.initialized (pm_cn a)).before args s = true)
    (hA : ∀ q, s.heap.size ≤ q → A q) (hRc : R.cells + u0 = pm_used hF) (hRs : R.slots + v0 = pm_slots hF) (hdg : decode cc pc = .ok (.new i, 3))
    (q : a < 7 ∧ pm_X p l e R s m args below meth c Q D V A ad0 u0 v0 hF ls (vR h.1.length :: st) (pc + 3) (pm_push h (.inr (a, pm_new a)))) : pm_X p l e R s m args below meth c Q D V A ad0 u0 v0 hF ls st pc h := by
  obtain ⟨h7, hK⟩ := q
  have hB := hK.1
  rw [pm_used_push, pm_slots_push] at hB
  have hsz : pm_size (.inr (a, pm_new a)) = pm_N a := rfl
  rw [hsz] at hB
  refine ⟨⟨by omega, by omega⟩, fun H locs cells slots lsM stM hS => ?_⟩
  obtain ⟨ws, tys, ext, k1, k2, k3, k4, k5, k6, k7, k8, k9, k10⟩ := hS
  refine va_new hx hb hts hin (pm_ty a) (pm_tyok a h7) hown hcl hin2 hini k1 k2 k3 k4 hA (pm_cl a h7) (fs := pm_dvs a) (fun j hj => pm_dvs_get hj) (by omega) (by omega) hdg (fun q H1 hP hD hS => ?_)
  have hg := pm_grow (ty2 := []) (cN := .inr (a, pm_new a)) (by rw [List.append_nil]; exact k1) hP hD hS k5 k6 k7 k8 k9 k10 ⟨_, rfl, pm_new_ok h7⟩
  exact hK.2 _ _ _ _ _ _ hg
theorem sx_newarr (hx : p.tables.exec = Jvm.exec) (hb : c.code = cc) {ty : ArrayType} (harr : (Cond.arrayClass (newarray.typeOf ty)).before args s = true)
    (hA : ∀ q, s.heap.size ≤ q → A q) (hRc : R.cells + u0 = pm_used hF) (hRs : R.slots + v0 = pm_slots hF) (hdg : decode cc pc = .ok (.newarray ty, 2))
    (q : ∃ n r z, st = vI n :: r ∧ 0 ≤ n ∧ n ≤ 1000 ∧ pm_zero ty = some z ∧ pm_X p l e R s m args below meth c Q D V A ad0 u0 v0 hF ls (vR h.1.length :: r) (pc + 2) (pm_push h (.inl (newarray.typeOf ty, n.toNat, z)))) : pm_X p l e R s m args below meth c Q D V A ad0 u0 v0 hF ls st pc h := by
  obtain ⟨n, r, z, rfl, hn0, hn1, hz, hK⟩ := q
  have hB := hK.1
  rw [pm_used_push, pm_slots_push] at hB
  have hsz : pm_size (.inl (newarray.typeOf ty, n.toNat, z)) = n.toNat := rfl
  rw [hsz] at hB
  refine ⟨⟨by omega, by omega⟩, fun H locs cells slots lsM stM hS => ?_⟩
  obtain ⟨ws, tys, ext, k1, k2, k3, k4, k5, k6, k7, k8, k9, k10⟩ := hS
  obtain ⟨w1, r1, rfl, ⟨zn, rfl, en⟩, k8⟩ := k8
  have hneg : ¬ zn < 0 := fun hq => by have := i32_lt.mp hq; rw [en] at this; have e0 : (0 : Int32).toInt = 0 := rfl; omega
  have hcl : zn.toNatClampNeg = n.toNat := by rw [pm_cl0, en]
  have main : ∀ a0 : vp_A, a0.1 = n.toNat → (∀ cA : ClassId, vp_cell cA a0 = arrV cA n.toNat (fun _ => defaultValue (newarray.typeOf ty))) → n.toNat * componentBytes (newarray.typeOf ty) ≤ 536870912 → pm_a (ws.map Prod.fst) z a0.2 → W p l e R s m args below meth c H locs cells slots Q (F0 m pc lsM (.int zn :: r1)) := by
    intro a0 e0 ha hby hz2
    refine va_newa hx hb harr rfl k1 k2 k3 k4 hA ha hneg hcl hby (by omega) (by omega) hdg (fun q cA H1 hK1 hP hD hS => ?_)
    have hg := pm_grow (ty2 := [(cA, newarray.typeOf ty)]) (cN := .inl (newarray.typeOf ty, n.toNat, z)) hK1 hP hD hS k5 k6 k7 k8 k9 k10 ⟨cA, a0.2, by rw [← e0], ⟨tys.length, by rw [List.getElem?_append_right (Nat.le_refl _), Nat.sub_self]; rfl⟩, hz2.app [q]⟩
    exact hK.2 _ _ _ _ _ _ hg
  have hsmall : ∀ k : Nat, k ≤ 8 → n.toNat * k ≤ 536870912 := fun k hk => Nat.le_trans (Nat.mul_le_mul (show n.toNat ≤ 1000 by omega) hk) (by decide)
  cases ty with
  | boolean => cases hz; exact main (n.toNat, .inl (fun _ => 0)) rfl (fun cA => rfl) (hsmall _ (by decide)) ⟨_, rfl, fun _ => rfl⟩
  | char => cases hz; exact main (n.toNat, .inl (fun _ => 0)) rfl (fun cA => rfl) (hsmall _ (by decide)) ⟨_, rfl, fun _ => rfl⟩
  | int => cases hz; exact main (n.toNat, .inl (fun _ => 0)) rfl (fun cA => rfl) (hsmall _ (by decide)) ⟨_, rfl, fun _ => rfl⟩
  | long => cases hz; exact main (n.toNat, .inr (.inl (fun _ => 0))) rfl (fun cA => rfl) (hsmall _ (by decide)) ⟨_, rfl, fun _ => rfl⟩
  | float => cases hz; exact main (n.toNat, .inr (.inr (.inl (fun _ => 0)))) rfl (fun cA => rfl) (hsmall _ (by decide)) rfl
  | double => cases hz; exact main (n.toNat, .inr (.inr (.inr (.inl (fun _ => 0))))) rfl (fun cA => rfl) (hsmall _ (by decide)) rfl
  | byte => cases hz
  | short => cases hz
theorem sx_anew (hx : p.tables.exec = Jvm.exec) (hb : c.code = cc) {a i : Nat} (hown : s.vm.findClass own = some m.cls) (hcl : (Cond.classLink own i (pm_cn a)).before args s = true) (hov : va_AO (pm_cn a) s)
    (hA : ∀ q, s.heap.size ≤ q → A q) (hRc : R.cells + u0 = pm_used hF) (hRs : R.slots + v0 = pm_slots hF) (hdg : decode cc pc = .ok (.anewarray i, 3))
    (q : ∃ n r, st = vI n :: r ∧ 0 ≤ n ∧ n ≤ 1000 ∧ a < 7 ∧ pm_X p l e R s m args below meth c Q D V A ad0 u0 v0 hF ls (vR h.1.length :: r) (pc + 3) (pm_push h (.inl (.object (pm_cn a), n.toNat, .inr (.inr (.inr (.inr (fun _ => none)))))))) : pm_X p l e R s m args below meth c Q D V A ad0 u0 v0 hF ls st pc h := by
  obtain ⟨n, r, rfl, hn0, hn1, h7, hK⟩ := q
  have hB := hK.1
  rw [pm_used_push, pm_slots_push] at hB
  have hsz : pm_size (.inl (.object (pm_cn a), n.toNat, .inr (.inr (.inr (.inr (fun _ => none)))))) = n.toNat := rfl
  rw [hsz] at hB
  refine ⟨⟨by omega, by omega⟩, fun H locs cells slots lsM stM hS => ?_⟩
  obtain ⟨ws, tys, ext, k1, k2, k3, k4, k5, k6, k7, k8, k9, k10⟩ := hS
  obtain ⟨w1, r1, rfl, ⟨zn, rfl, en⟩, k8⟩ := k8
  have hneg : ¬ zn < 0 := fun hq => by have := i32_lt.mp hq; rw [en] at this; have e0 : (0 : Int32).toInt = 0 := rfl; omega
  have hcl2 : zn.toNatClampNeg = n.toNat := by rw [pm_cl0, en]
  refine va_newq hx hb hown hcl hov k1 k2 k3 k4 hA hneg hcl2 (Nat.le_trans (Nat.mul_le_mul (show n.toNat ≤ 1000 by omega) (Nat.le_refl 4)) (by decide)) (by omega) (by omega) hdg (fun q cA H1 hK1 hP hD hS => ?_)
  have hg := pm_grow (ty2 := [(cA, .object (pm_cn a))]) (cN := .inl (.object (pm_cn a), n.toNat, .inr (.inr (.inr (.inr (fun _ => none)))))) hK1 hP hD hS k5 k6 k7 k8 k9 k10 ⟨cA, _, rfl, ⟨tys.length, by rw [List.getElem?_append_right (Nat.le_refl _), Nat.sub_self]; rfl⟩, _, rfl, fun _ => rfl⟩
  exact hK.2 _ _ _ _ _ _ hg
theorem sx_aastore (hx : p.tables.exec = Jvm.exec) (hb : c.code = cc) {a : Nat} (hdg : decode cc pc = .ok (.aastore, 1))
    (q : ∃ y i k r n f fs, st = vR y :: vI i :: vR k :: r ∧ a < 7 ∧ pm_get h k = some (.inl (.object (pm_cn a), n, .inr (.inr (.inr (.inr f))))) ∧ pm_get h y = some (.inr (a, fs)) ∧ n ≤ 1000 ∧ 0 ≤ i ∧ i < n ∧ pm_X p l e R s m args below meth c Q D V A ad0 u0 v0 hF ls r (pc + 1) (pm_set h k (.inl (.object (pm_cn a), n, .inr (.inr (.inr (.inr (pm_up f i.toNat (some y))))))))) : pm_X p l e R s m args below meth c Q D V A ad0 u0 v0 hF ls st pc h := by
  obtain ⟨y, i, k, r, n, f, fs, rfl, h7, hk, hy, hn, hi0, hin, hK⟩ := q
  have hB := hK.1
  rw [pm_used_set, pm_slots_setA hk] at hB
  refine ⟨hB, fun H locs cells slots lsM stM hS => ?_⟩
  obtain ⟨ws, tys, ext, k1, k2, k3, k4, k5, k6, k7, k8, k9, k10⟩ := hS
  obtain ⟨wx, rx, rfl, ⟨ay, hay, rfl⟩, w0, r0, rfl, ⟨z, rfl, ez⟩, w1, r1, rfl, ⟨ad, ha, rfl⟩, k8⟩ := k8
  obtain ⟨e1, hwk, cA, g, rfl, ⟨t0, ht⟩, g', rfl, hgj⟩ := k5.cell hk ha
  obtain ⟨e2, hwy, vs, rfl, -⟩ := k5.cell hy hay
  subst ez
  have hnew : ∀ j, pm_r (ws.map Prod.fst) (pm_up f z.toInt.toNat (some y) j) (va_up g' z.toNatClampNeg (some ay) j) := by
    intro j
    unfold pm_up va_up
    rw [pm_cl0]
    by_cases hj : j = z.toInt.toNat
    · rw [if_pos hj, if_pos hj]; exact ⟨ay, hay, rfl⟩
    · rw [if_neg hj, if_neg hj]; exact hgj j
  refine va_astq hx hb k1 k2 k3 k4 k t0 y a hwk ht hwy (pm_cl a h7) (pm_in rfl hi0 hin) hdg (fun H1 locs1 hP hD hS => ?_)
  refine hK.2 _ _ _ _ _ _ ⟨ws.set k (ad, .inl (cA, n, .inr (.inr (.inr (.inr (va_up g' z.toNatClampNeg (some ay))))))), tys, ext, k1, hP, hD, hS, k5.set hwk ⟨cA, _, rfl, ⟨t0, ht⟩, _, rfl, hnew⟩, ?_, ?_, ?_, ?_, ?_⟩
  · rw [pm_map_set hwk]; exact k6
  · rw [pm_map_set hwk]; exact k7
  · rw [pm_map_set hwk]; exact k8
  · rw [pm_used_set]; exact k9
  · rw [pm_slots_setA hk]; exact k10
theorem sx_max (hx : p.tables.exec = Jvm.exec) (hb : c.code = cc) {i : Nat} (hml : c.maxLocals = ls.length) (hown : s.vm.findClass own = some m.cls) (hlink : (Cond.methodLink own i Lib.Math.max.name).before args s = true) (hstat : (Cond.static Lib.Math.max.name).before args s = true) (hini : (Cond.initialized "java/lang/Math").before args s = true) (hcode : (Cond.code Lib.Math.max.name Lib.Math.max.code 2 (some .int)).before args s = true)
    (hRc : R.cells + u0 = pm_used hF) (hRs : R.slots + v0 = pm_slots hF) (hRf : R.frames = d) (hRl : 36 * d ≤ R.locals) (hdg : decode cc pc = .ok (.invokestatic i, 3))
    (q : ∃ x y r, st = vI y :: vI x :: r ∧ r.length ≤ 4 ∧ 1 ≤ d ∧ pm_X p l e R s m args below meth c Q D V A ad0 u0 v0 hF ls (vI (if x < y then y else x) :: r) (pc + 3) h) : pm_X p l e R s m args below meth c Q D V A ad0 u0 v0 hF ls st pc h := by
  obtain ⟨x, y, r, rfl, hr, hd, hK⟩ := q
  refine ⟨hK.1, fun H locs cells slots lsM stM hS => ?_⟩
  obtain ⟨ws, tys, ext, k1, k2, k3, k4, k5, k6, k7, k8, k9, k10⟩ := hS
  obtain ⟨w2, r2, rfl, ⟨z2, rfl, e2⟩, w1, r1, rfl, ⟨z1, rfl, e1⟩, k8⟩ := k8
  have hB := hK.1
  have hro := k8.room hr
  subst e1; subst e2
  refine va_mmax hx hb (by rw [hml, k7.1]) hown hlink hstat hini hcode (by omega) (by omega) (by omega) (by omega) hdg (hK.2 _ _ _ _ _ _ ⟨ws, tys, ext, k1, k2, k3, k4, k5, k6, k7, ⟨_, _, rfl, ⟨_, rfl, ?_⟩, k8⟩, k9, k10⟩)
  by_cases hlt : z1 < z2
  · rw [if_pos hlt, if_pos (i32_lt.mp hlt)]
  · rw [if_neg hlt, if_neg (fun hq => hlt (i32_lt.mpr hq))]
theorem sx_objinit (hx : p.tables.exec = Jvm.exec) (hb : c.code = cc) {i : Nat} (hml : c.maxLocals = ls.length) (hown : s.vm.findClass own = some m.cls) (hlink : (Cond.methodLink own i Lib.objectInit).before args s = true) (hinst : (Cond.instanceMethod Lib.objectInit).before args s = true) (hcode : (Cond.code Lib.objectInit ⟨#[0xb1]⟩ 1 none).before args s = true)
    (hRf : R.frames = d) (hRl : 36 * d ≤ R.locals) (hdg : decode cc pc = .ok (.invokespecial i, 3))
    (q : ∃ k r, st = vR k :: r ∧ r.length ≤ 4 ∧ 1 ≤ d ∧ pm_X p l e R s m args below meth c Q D V A ad0 u0 v0 hF ls r (pc + 3) h) : pm_X p l e R s m args below meth c Q D V A ad0 u0 v0 hF ls st pc h := by
  obtain ⟨k, r, rfl, hr, hd, hK⟩ := q
  refine ⟨hK.1, fun H locs cells slots lsM stM hS => ?_⟩
  obtain ⟨ws, tys, ext, k1, k2, k3, k4, k5, k6, k7, k8, k9, k10⟩ := hS
  obtain ⟨w1, r1, rfl, ⟨ad, ha, rfl⟩, k8⟩ := k8
  have hro := k8.room hr
  exact W.objInit hx hb hown hlink hinst hcode rfl (by rw [hml]; exact k7.1) rfl hdg (by omega) (by show 2 * 0 + _ + 12 ≤ _; omega) (hK.2 _ _ _ _ _ _ ⟨ws, tys, ext, k1, k2, k3, k4, k5, k6, k7, k8, k9, k10⟩)
end SX4
