/-! ===== THE PURE MACHINE IS SOUND: arraycopy, a throw that leaves the method ===== -/
section SX7
variable {p : Program} {l : Launch} {e : Env} {R : Room} {s : State} {m : MethodId} {args : Array Value} {below : List Frame} {meth : Method} {c : Code} {Q : State → Prop} {D : va_G} {V : Nat → Nat} {A : Nat → Prop} {ad0 : List Nat} {u0 v0 : Nat} {hF : pH} {ls : List (Option pV)} {st : List pV} {pc : Nat} {h : pH} {cc : ByteArray} {own : String} {Ts : List Jvm.Cond} {d : Nat} {oF : pO}
theorem sx_copyi (hx : p.tables.exec = Jvm.exec) (hb : c.code = cc) {i : Nat} (hml : c.maxLocals = ls.length) (hown : s.vm.findClass own = some m.cls) (hlink : (Cond.methodLink own i arraycopyName).before args s = true) (hnat : (Cond.native arraycopyName).before args s = true) (hstat : (Cond.static arraycopyName).before args s = true) (hini : (Cond.initialized "java/lang/System").before args s = true)
    (hRf : R.frames = d) (hRl : 36 * d ≤ R.locals) (hdg : decode cc pc = .ok (.invokestatic i, 3))
    (q : ∃ k0 k1 n f n1 g, st = [vI n, vI 0, vR k1, vI 0, vR k0] ∧ 1 ≤ d ∧ 0 ≤ n ∧ pm_get h k0 = some (.inl (.int, n.toNat, .inl f)) ∧ pm_get h k1 = some (.inl (.int, n1, .inl g)) ∧ n.toNat ≤ n1 ∧ n1 ≤ 1000 ∧ pm_X p l e R s m args below meth c Q D V A ad0 u0 v0 hF ls [] (pc + 3) (pm_set h k1 (.inl (.int, n1, .inl (fun j => if j < n.toNat then f j else g j))))) : pm_X p l e R s m args below meth c Q D V A ad0 u0 v0 hF ls st pc h := by
  obtain ⟨k0, k1', n, f, n1, g, rfl, hd, hn0, hk0, hk1, hn1, hn2, hK⟩ := q
  have hB := hK.1
  rw [pm_used_set, pm_slots_setA hk1] at hB
  refine ⟨hB, fun H locs cells slots lsM stM hS => ?_⟩
  obtain ⟨ws, tys, ext, k1, k2, k3, k4, k5, k6, k7, k8, k9, k10⟩ := hS
  obtain ⟨w5, r5, rfl, ⟨zn, rfl, en⟩, w4, r4, rfl, ⟨z1, rfl, e1⟩, w3, r3, rfl, ⟨a1, ha1, rfl⟩, w2, r2, rfl, ⟨z0, rfl, e0⟩, w1, r1, rfl, ⟨a0, ha0, rfl⟩, rfl⟩ := k8
  have hz1 : z1 = 0 := Int32.toInt_inj.mp (by rw [e1]; rfl)
  have hz0 : z0 = 0 := Int32.toInt_inj.mp (by rw [e0]; rfl)
  subst hz1; subst hz0
  obtain ⟨x0, hw0, cA0, g0, rfl, ⟨t0, ht0⟩, f', rfl, hf'⟩ := k5.cell hk0 ha0
  obtain ⟨x1, hw1, cA1, g1, rfl, ⟨t1, ht1⟩, g', rfl, hg'⟩ := k5.cell hk1 ha1
  have hneg : ¬ zn < 0 := fun hq => by have := i32_lt.mp hq; rw [en] at this; have e9 : (0 : Int32).toInt = 0 := rfl; omega
  have hcn : zn.toNatClampNeg = n.toNat := by rw [pm_cl0, en]
  have hc0 : (0 : Int32).toNatClampNeg = 0 := rfl
  have hfw : nativeFrameWords "java/lang/System" "arraycopy" 5 = 7 := by decide
  have h4 : (0 : Int32).toNatClampNeg + zn.toNatClampNeg ≤ n.toNat := by rw [hcn, hc0]; omega
  have h5 : (0 : Int32).toNatClampNeg + zn.toNatClampNeg ≤ n1 := by rw [hcn, hc0]; omega
  have hz : ¬ (0 : Int32) < 0 := by decide
  refine va_copyi (sp := 0) (dp := 0) (n := zn) (rest := []) hx hb (by rw [hml, k7.1]) hown hlink hnat hstat hini k1 k2 k3 k4 k0 k1' t0 t1 hw0 hw1 ht0 ht1 rfl hz hz hneg h4 h5 (fun _ _ => rfl) (by omega) (by show 0 + (nativeFrameWords "java/lang/System" "arraycopy" 5 + 11) ≤ _; omega) hdg (fun H1 locs1 hP hD hS => ?_)
  rw [hcn, hc0] at hP hD
  have hnew : ∀ j, (va_cpy f' g' 0 0 n.toNat j).toInt = if j < n.toNat then f j else g j := by
    intro j
    unfold va_cpy
    by_cases hj : j < n.toNat
    · rw [if_pos ⟨Nat.zero_le _, by omega⟩, if_pos hj, Nat.sub_zero, Nat.zero_add]; exact hf' j
    · rw [if_neg (by omega), if_neg hj]; exact hg' j
  refine hK.2 _ _ _ _ _ _ ⟨ws.set k1' (a1, .inl (cA1, n1, .inl (va_cpy f' g' 0 0 n.toNat))), tys, ext, k1, hP, hD, hS, k5.set hw1 ⟨cA1, _, rfl, ⟨t1, ht1⟩, _, rfl, hnew⟩, ?_, ?_, rfl, ?_, ?_⟩
  · rw [pm_map_set hw1]; exact k6
  · rw [pm_map_set hw1]; exact k7
  · rw [pm_used_set]; exact k9
  · rw [pm_slots_setA hk1]; exact k10
theorem sx_copyf (hx : p.tables.exec = Jvm.exec) (hb : c.code = cc) {i : Nat} (hml : c.maxLocals = ls.length) (hown : s.vm.findClass own = some m.cls) (hlink : (Cond.methodLink own i arraycopyName).before args s = true) (hnat : (Cond.native arraycopyName).before args s = true) (hstat : (Cond.static arraycopyName).before args s = true) (hini : (Cond.initialized "java/lang/System").before args s = true)
    (hRf : R.frames = d) (hRl : 36 * d ≤ R.locals) (hdg : decode cc pc = .ok (.invokestatic i, 3))
    (q : ∃ k0 k1 n f n1 g, st = [vI n, vI 0, vR k1, vI 0, vR k0] ∧ 1 ≤ d ∧ 0 ≤ n ∧ pm_get h k0 = some (.inl (.float, n.toNat, .inr (.inr (.inl f)))) ∧ pm_get h k1 = some (.inl (.float, n1, .inr (.inr (.inl g)))) ∧ n.toNat ≤ n1 ∧ n1 ≤ 1000 ∧ pm_X p l e R s m args below meth c Q D V A ad0 u0 v0 hF ls [] (pc + 3) (pm_set h k1 (.inl (.float, n1, .inr (.inr (.inl (fun j => if j < n.toNat then f j else g j))))))) : pm_X p l e R s m args below meth c Q D V A ad0 u0 v0 hF ls st pc h := by
  obtain ⟨k0, k1', n, f, n1, g, rfl, hd, hn0, hk0, hk1, hn1, hn2, hK⟩ := q
  have hB := hK.1
  rw [pm_used_set, pm_slots_setA hk1] at hB
  refine ⟨hB, fun H locs cells slots lsM stM hS => ?_⟩
  obtain ⟨ws, tys, ext, k1, k2, k3, k4, k5, k6, k7, k8, k9, k10⟩ := hS
  obtain ⟨w5, r5, rfl, ⟨zn, rfl, en⟩, w4, r4, rfl, ⟨z1, rfl, e1⟩, w3, r3, rfl, ⟨a1, ha1, rfl⟩, w2, r2, rfl, ⟨z0, rfl, e0⟩, w1, r1, rfl, ⟨a0, ha0, rfl⟩, rfl⟩ := k8
  have hz1 : z1 = 0 := Int32.toInt_inj.mp (by rw [e1]; rfl)
  have hz0 : z0 = 0 := Int32.toInt_inj.mp (by rw [e0]; rfl)
  subst hz1; subst hz0
  obtain ⟨x0, hw0, cA0, g0, rfl, ⟨t0, ht0⟩, rfl⟩ := k5.cell hk0 ha0
  obtain ⟨x1, hw1, cA1, g1, rfl, ⟨t1, ht1⟩, rfl⟩ := k5.cell hk1 ha1
  have hneg : ¬ zn < 0 := fun hq => by have := i32_lt.mp hq; rw [en] at this; have e9 : (0 : Int32).toInt = 0 := rfl; omega
  have hcn : zn.toNatClampNeg = n.toNat := by rw [pm_cl0, en]
  have hc0 : (0 : Int32).toNatClampNeg = 0 := rfl
  have hfw : nativeFrameWords "java/lang/System" "arraycopy" 5 = 7 := by decide
  have h4 : (0 : Int32).toNatClampNeg + zn.toNatClampNeg ≤ n.toNat := by rw [hcn, hc0]; omega
  have h5 : (0 : Int32).toNatClampNeg + zn.toNatClampNeg ≤ n1 := by rw [hcn, hc0]; omega
  have hz : ¬ (0 : Int32) < 0 := by decide
  refine va_copyf (sp := 0) (dp := 0) (n := zn) (rest := []) hx hb (by rw [hml, k7.1]) hown hlink hnat hstat hini k1 k2 k3 k4 k0 k1' t0 t1 hw0 hw1 ht0 ht1 rfl hz hz hneg h4 h5 (fun _ _ => rfl) (by omega) (by show 0 + (nativeFrameWords "java/lang/System" "arraycopy" 5 + 11) ≤ _; omega) hdg (fun H1 locs1 hP hD hS => ?_)
  rw [hcn, hc0] at hP hD
  have hnew : va_cpy f g 0 0 n.toNat = fun j => if j < n.toNat then f j else g j := by
    funext j
    unfold va_cpy
    by_cases hj : j < n.toNat
    · rw [if_pos ⟨Nat.zero_le _, by omega⟩, if_pos hj, Nat.sub_zero, Nat.zero_add]
    · rw [if_neg (by omega), if_neg hj]
  rw [hnew] at hP hD
  refine hK.2 _ _ _ _ _ _ ⟨ws.set k1' (a1, .inl (cA1, n1, .inr (.inr (.inl (fun j => if j < n.toNat then f j else g j))))), tys, ext, k1, hP, hD, hS, k5.set hw1 ⟨cA1, _, rfl, ⟨t1, ht1⟩, rfl⟩, ?_, ?_, rfl, ?_, ?_⟩
  · rw [pm_map_set hw1]; exact k6
  · rw [pm_map_set hw1]; exact k7
  · rw [pm_used_set]; exact k9
  · rw [pm_slots_setA hk1]; exact k10
/-- what a throw of the class k by 'throw new E(text)' at pc needs -/
def pm_thr (args : Array Value) (s : State) (own : String) (cc : ByteArray) (pc k ik : Nat) : Prop :=
  ∃ (text : String) (names : List String) (is ic sa : Nat), names.length = 2 ∧ Bundle.fit (pm_en k) = true ∧ (∀ n ∈ names, Bundle.fit n = true) ∧ (Cond.classLink own ik (pm_en k)).before args s = true ∧ (Cond.initialized (pm_en k)).before args s = true ∧ vk_R own is text sa s ∧ (∀ w ∈ vx_atS own ic (pm_en k) names, w.before args s = true)
    ∧ (∀ w ∈ Cond.classLink own ik (pm_en k) :: Cond.initialized (pm_en k) :: vx_atS own ic (pm_en k) names, vx_ot w = true)
    ∧ decode cc (pc + 3) = .ok (.dup, 1) ∧ decode cc (pc + 4) = .ok (.ldc is, 2) ∧ decode cc (pc + 6) = .ok (.invokespecial ic, 3) ∧ decode cc (pc + 9) = .ok (.athrow, 1)
theorem sx_throw (hx : p.tables.exec = Jvm.exec) (hb : c.code = cc) (hl : l.stackTraces = false) {k ik : Nat} (hml : c.maxLocals = ls.length) (hown : s.vm.findClass own = some m.cls) (hlocks : meth.locks = false)
    (hU : vx_Zq Bundle.tN "UNASSIGNED_STACK" Bundle.steD A s s.heap) (hN : vx_Zq Bundle.tN "SUPPRESSED_SENTINEL" Bundle.listD A s s.heap) (hout : c.exceptionTable.toList = []) (ht : pm_thr args s own cc pc k ik)
    (hRc : R.cells + u0 = pm_used hF) (hRs : R.slots + v0 = pm_slots hF) (hRf : R.frames = d) (hRl : 36 * d ≤ R.locals) (hdg : decode cc pc = .ok (.new ik, 3))
    (q : 7 ≤ d ∧ st = [] ∧ (.inr k = oF ∧ (h.1, h.2 + 1) = hF)) : pm_X p l e R s m args below meth c (vx_MQ below (pm_Qc D V A ad0 oF hF) (pm_XC D V A ad0 oF hF) args s (pm_used hF - u0) (pm_slots hF - v0) A) D V A ad0 u0 v0 hF ls st pc h := by
  obtain ⟨hd, rfl, ho, rfl⟩ := q
  have hu : pm_used (h.1, h.2 + 1) = pm_used h + 1 := by unfold pm_used; show h.1.length + (h.2 + 1) = _; omega
  have hv : pm_slots (h.1, h.2 + 1) = pm_slots h + 6 := by unfold pm_slots; show (h.1.map pm_size).sum + 6 * (h.2 + 1) = _; omega
  rw [hu] at hRc
  rw [hv] at hRs
  refine ⟨⟨by rw [hu]; omega, by rw [hv]; omega⟩, fun H locs cells slots lsM stM hS => ?_⟩
  obtain ⟨ws, tys, ext, k1, k2, k3, k4, k5, k6, k7, rfl, k9, k10⟩ := hS
  obtain ⟨text, names, is, ic, sa, hn2, t1, t2, t3, t4, t5, t6, t7, d3, d4, d6, d9⟩ := ht
  refine vx_throwS hx hb hl hown t1 t2 t3 t4 t5 t6 t7 hU hN k4 (by rw [hml]; exact k7.1) hdg d3 d4 d6 d9 (by rw [hout]; exact fun _ hq => absurd hq List.not_mem_nil) (by omega) (by show 0 + _ ≤ _; rw [hn2]; omega) (by omega) (by omega) hlocks (fun t hvm hz hk => ?_) k4.2.2 (by rw [hu]; omega) (by rw [hv]; omega)
  refine ⟨⟨k, ho.symm, rfl, ws, tys, ext, k2.kept (fun j q hj => hk q.1 (k2 j q hj).lt), va_K.moved hvm k1, k3, k5, k6, rfl⟩, Nat.le_trans k4.1 hz, fun q h1 h2 => ?_⟩
  rw [hk q (Nat.lt_of_lt_of_le h1 k4.1)]
  exact k4.2.1 q h1 h2
end SX7
