/-! ===== THE PURE MACHINE IS SOUND: calls that return (written by wip/whole/gen_sx5.py) ===== -/
def pm_plain (y : MethodName) (n : Nat) : Prop := y.cls ≠ "java/lang/invoke/MethodHandle" ∧ y.cls ≠ "java/lang/invoke/VarHandle" ∧ (parseMethodDescriptor y.desc).map (fun d => d.parameters.length) = some n
section SX6
variable {p : Program} {l : Launch} {e : Env} {R : Room} {s : State} {m : MethodId} {args : Array Value} {below : List Frame} {meth : Method} {c : Code} {Q : State → Prop} {D : va_G} {V : Nat → Nat} {A : Nat → Prop} {ad0 : List Nat} {u0 v0 : Nat} {hF : pH} {ls : List (Option pV)} {st : List pV} {pc : Nat} {h h' : pH} {cc : ByteArray} {own : String} {Ts : List Jvm.Cond} {d : Nat} {Amb : (Nat → Prop) → State → Heap → Prop} {M : pM} {i n : Nat}
theorem pm_pay (hts : ∀ w ∈ Ts, w.before args s = true) (hG : pm_good Ts) (hcw : pm_cw M ∈ Ts) : ∀ w ∈ pm_wd Ts M, ∀ (a' : Array Value) (U : State), s.WarmedH U.vm → w.before a' U = true := by
  intro w hw a' U hW
  have hw2 : w ∈ Ts := by
    rcases List.mem_cons.mp hw with rfl | h1
    · exact hcw
    · exact h1
  exact word_at hW (hG w hw2) (hts w hw2)
theorem pm_par (hd : pm_plain M.y n) : ∀ sig, parseMethodDescriptor M.y.desc = some sig → n = sig.parameters.length := by
  intro sig hs
  have h2 := hd.2.2
  rw [hs] at h2
  exact (Option.some.inj h2).symm
theorem pm_callb (hts : ∀ w ∈ Ts, w.before args s = true) (hG : pm_good Ts) (hhs : M.hs = []) (hcw : pm_cw M ∈ Ts) (hini : Cond.initialized M.y.cls ∈ Ts) (hl : Cond.methodLink own i M.y ∈ Ts) (hd : pm_plain M.y n) (hmax : M.maxL ≤ 17) (hRf : R.frames = d + 1) (hRl : 36 * (d + 1) ≤ R.locals) :
    CallB R s args own i M.y M.bytes M.maxL M.ret (pm_wd Ts M) (pm_rm d h h') (pm_used h' - pm_used h) (pm_slots h' - pm_slots h) n := by
  have hc : pm_cw M = Cond.code M.y M.bytes M.maxL M.ret := by unfold pm_cw; rw [if_pos hhs]
  refine ⟨rfl, rfl, by show d + 1 ≤ _; omega, by show 8 + (M.maxL + 11) + 36 * d ≤ _; omega, pm_pay hts hG hcw, by rw [← hc]; exact List.mem_cons_self, by rw [← hc]; exact hts _ hcw, hts _ hini, ⟨hd.1, hd.2.1⟩, pm_par hd, hts _ hl⟩
/-- what a callee may take as given -/
theorem pm_pre (hAm : pm_amb Amb) (hAs : Amb A s s.heap) {ws : va_W} {tys : List (ClassId × FieldType)} {H : Heap} {locs : List Loc} (k1 : va_K D vwCl tys s) (k2 : va_P D vwCl ws H) (k3 : va_D A ws) (k4 : va_S A s.heap H locs) (hA : ∀ q, s.heap.size ≤ q → A q) (asM : List Value) :
    ∀ U : State, U.heap = H → s.WarmedH U.vm → pm_Pc Amb D ws tys asM H.size asM.toArray U := by
  intro U hU hW
  refine ⟨rfl, by rw [hU], by rw [hU]; exact k2, va_K.moved hW.alike k1, k3.weaken (fun _ _ _ _ => trivial), hAm.1 A _ s U hAs hW (fun q h1 h2 => by rw [hU]; exact k4.2.1 q h1 h2) (pm_sub k3 k4 hA)⟩
theorem pm_noX {B : Nat → Prop} {ad : List Nat} {v : Option pV} : ∀ E st t, ¬ pm_XC D V B ad (.inl v) h' E st t := by
  intro E st t hq
  obtain ⟨⟨k, hk, -⟩, -⟩ := hq
  cases hk
/-- behind a call that returns -/
theorem pm_go {ws : va_W} {ext : List Nat} {H : Heap} {locs : List Loc} {cells slots : Nat} {lsM : Array Slot} {r : List pV} {r1 stM : List Value} {v : Option pV} {a : Array Value}
    (hA : ∀ q, s.heap.size ≤ q → A q) (k3 : va_D A ws) (k4 : va_S A s.heap H locs) (k6 : ws.map Prod.fst = ad0 ++ ext) (k7 : pm_L V (ws.map Prod.fst) ls lsM) (k8 : pm_vs V (ws.map Prod.fst) r r1) (k9 : cells + u0 = pm_used h) (k10 : slots + v0 = pm_slots h)
    (hm : pm_used h ≤ pm_used h' ∧ pm_slots h ≤ pm_slots h')
    (hr : va_Run p l e R s m args below meth c H locs cells slots (pm_used h' - pm_used h) (pm_slots h' - pm_slots h) (F0 m pc lsM stM) r1 (pm_Qc D V (va_A ws H.size) (ws.map Prod.fst) (.inl v) h' a) (va_A ws H.size))
    (hK : pm_X p l e R s m args below meth c Q D V A ad0 u0 v0 hF ls (v.toList ++ r) (pc + 3) h') : W p l e R s m args below meth c H locs cells slots Q (F0 m pc lsM stM) := by
  intro T hT X
  obtain ⟨ov, st₀, t, T', L, h0, X', hL, e1, e2, ⟨⟨v1, ow, ho, hoc, hB⟩, hFr⟩, sg⟩ := hr T hT X
  cases ho
  cases hoc
  have hvm : s.vm.Alike t.vm := by rw [← e2]; exact X'.warmed.alike
  obtain ⟨t2, a1, b1⟩ := hK.2 _ _ _ _ _ _ (pm_after k3 k4 k6 k7 k8 k9 k10 hm (pm_sub k3 k4 hA) h0 hL e1 hvm hB hFr) T' rfl X'
  exact ⟨t2, sg t2 a1, b1⟩
theorem sx_callV (hx : p.tables.exec = Jvm.exec) (hb : c.code = cc) (hml : c.maxLocals = ls.length) (hown : s.vm.findClass own = some m.cls) (hts : ∀ w ∈ Ts, w.before args s = true) (hG : pm_good Ts) (hA : ∀ q, s.heap.size ≤ q → A q) (hAm : pm_amb Amb) (hAs : Amb A s s.heap)
    (hRc : R.cells + u0 = pm_used hF) (hRs : R.slots + v0 = pm_slots hF) (hRf : R.frames = d + 1) (hRl : 36 * (d + 1) ≤ R.locals) (hcw : pm_cw M ∈ Ts) (hini : Cond.initialized M.y.cls ∈ Ts) (hd : pm_plain M.y n) (hmax : M.maxL ≤ 17) {ci : Nat} (h7 : ci < 7) (hC : M.y.cls = pm_cn ci) (hhs : M.hs = []) (hl : Cond.methodLink own i M.y ∈ Ts) (hin : Cond.instanceMethod M.y ∈ Ts) (hse : Cond.selects (pm_cn ci) M.y M.y ∈ Ts) (hdg : decode cc pc = .ok (.invokevirtual i, 3))
    {as : List pV} {k : Nat} {r fs : List pV} {v : Option pV} (hn : as.length = n) (hk : pm_get h k = some (.inr (ci, fs))) (hr4 : r.length ≤ 4) (hM : pm_Met l Ts Amb D V d M (vR k :: as) h (.inl v) h') (hK : pm_X p l e R s m args below meth c Q D V A ad0 u0 v0 hF ls (v.toList ++ r) (pc + 3) h') : pm_X p l e R s m args below meth c Q D V A ad0 u0 v0 hF ls (as.reverse ++ vR k :: r) pc h := by
  obtain ⟨hm, hM⟩ := hM
  have hB := hK.1
  refine ⟨⟨by omega, by omega⟩, fun H locs cells slots lsM stM hS => ?_⟩
  obtain ⟨ws, tys, ext, k1, k2, k3, k4, k5, k6, k7, k8, k9, k10⟩ := hS
  obtain ⟨w1, w2, rfl, hw1, hw2⟩ := k8.split
  obtain ⟨w0, r1, rfl, ⟨a, ha, rfl⟩, kr⟩ := hw2
  have has := hw1.rev
  have hro := kr.room hr4
  obtain ⟨e1, hwk, vs, rfl, hvs⟩ := k5.cell hk ha
  have hM := hM ws tys (.ref a :: w1.reverse) H.size k5 ⟨_, _, rfl, ⟨a, ha, rfl⟩, has⟩
  have hpre := pm_pre hAm hAs k1 k2 k3 k4 hA (.ref a :: w1.reverse)
  have hrun : va_Run p l e R s m args below meth c H locs cells slots (pm_used h' - pm_used h) (pm_slots h' - pm_slots h) (F0 m pc lsM (w1 ++ .ref a :: r1)) r1 (pm_Qc D V (va_A ws H.size) (ws.map Prod.fst) (.inl v) h' (Value.ref a :: w1.reverse).toArray) (va_A ws H.size) := va_runV (As := w1.reverse) (rest := r1) (b := a) (C := pm_cn ci) (g := F0 m pc lsM (w1 ++ .ref a :: r1)) ⟨hx, hb, hml, hown, hts⟩ (pm_Met.ret hM pm_noX) ⟨pm_callb hts hG hhs hcw hini hl hd hmax hRf hRl, hts _ hin, hts _ hse⟩ ⟨pm_blind hAm, va_recv k1 k2 (pm_cl ci h7) hwk, hpre⟩ rfl (by rw [has.len]; exact hn) k7.1 (by rw [List.reverse_reverse]) (by show 2 * 0 + _ ≤ 8; omega) hdg ⟨by omega, by omega⟩
  exact pm_go hA k3 k4 k6 k7 kr k9 k10 hm hrun hK
theorem sx_callS (hx : p.tables.exec = Jvm.exec) (hb : c.code = cc) (hml : c.maxLocals = ls.length) (hown : s.vm.findClass own = some m.cls) (hts : ∀ w ∈ Ts, w.before args s = true) (hG : pm_good Ts) (hA : ∀ q, s.heap.size ≤ q → A q) (hAm : pm_amb Amb) (hAs : Amb A s s.heap)
    (hRc : R.cells + u0 = pm_used hF) (hRs : R.slots + v0 = pm_slots hF) (hRf : R.frames = d + 1) (hRl : 36 * (d + 1) ≤ R.locals) (hcw : pm_cw M ∈ Ts) (hini : Cond.initialized M.y.cls ∈ Ts) (hd : pm_plain M.y n) (hmax : M.maxL ≤ 17) (hhs : M.hs = []) (hl : Cond.methodLink own i M.y ∈ Ts) (hst : Cond.static M.y ∈ Ts) (hdg : decode cc pc = .ok (.invokestatic i, 3))
    {as r : List pV} {v : Option pV} (hn : as.length = n) (hr4 : r.length ≤ 4) (hM : pm_Met l Ts Amb D V d M as h (.inl v) h') (hK : pm_X p l e R s m args below meth c Q D V A ad0 u0 v0 hF ls (v.toList ++ r) (pc + 3) h') : pm_X p l e R s m args below meth c Q D V A ad0 u0 v0 hF ls (as.reverse ++ r) pc h := by
  obtain ⟨hm, hM⟩ := hM
  have hB := hK.1
  refine ⟨⟨by omega, by omega⟩, fun H locs cells slots lsM stM hS => ?_⟩
  obtain ⟨ws, tys, ext, k1, k2, k3, k4, k5, k6, k7, k8, k9, k10⟩ := hS
  obtain ⟨w1, r1, rfl, hw1, kr⟩ := k8.split
  have has := hw1.rev
  have hro := kr.room hr4
  have hM := hM ws tys w1.reverse H.size k5 has
  have hpre := pm_pre hAm hAs k1 k2 k3 k4 hA w1.reverse
  have hrun : va_Run p l e R s m args below meth c H locs cells slots (pm_used h' - pm_used h) (pm_slots h' - pm_slots h) (F0 m pc lsM (w1 ++ r1)) r1 (pm_Qc D V (va_A ws H.size) (ws.map Prod.fst) (.inl v) h' (w1.reverse).toArray) (va_A ws H.size) := va_runS (As := w1.reverse) (rest := r1) (g := F0 m pc lsM (w1 ++ r1)) ⟨hx, hb, hml, hown, hts⟩ (pm_Met.ret hM pm_noX) ⟨pm_callb hts hG hhs hcw hini hl hd hmax hRf hRl, hts _ hst⟩ ⟨pm_blind hAm, hpre⟩ rfl (by rw [has.len]; exact hn) k7.1 (by rw [List.reverse_reverse]) (by show 2 * 0 + _ ≤ 8; omega) hdg ⟨by omega, by omega⟩
  exact pm_go hA k3 k4 k6 k7 kr k9 k10 hm hrun hK
theorem sx_callSN (hx : p.tables.exec = Jvm.exec) (hb : c.code = cc) (hml : c.maxLocals = ls.length) (hown : s.vm.findClass own = some m.cls) (hts : ∀ w ∈ Ts, w.before args s = true) (hG : pm_good Ts) (hA : ∀ q, s.heap.size ≤ q → A q) (hAm : pm_amb Amb) (hAs : Amb A s s.heap)
    (hRc : R.cells + u0 = pm_used hF) (hRs : R.slots + v0 = pm_slots hF) (hRf : R.frames = d + 1) (hRl : 36 * (d + 1) ≤ R.locals) (hcw : pm_cw M ∈ Ts) (hini : Cond.initialized M.y.cls ∈ Ts) (hd : pm_plain M.y n) (hmax : M.maxL ≤ 17) {host : String} (hhs : M.hs = []) (hl : va_Nw (.methodLinkNest own i M.y host) s) (hst : Cond.static M.y ∈ Ts) (hdg : decode cc pc = .ok (.invokestatic i, 3))
    {as r : List pV} {v : Option pV} (hn : as.length = n) (hr4 : r.length ≤ 4) (hM : pm_Met l Ts Amb D V d M as h (.inl v) h') (hK : pm_X p l e R s m args below meth c Q D V A ad0 u0 v0 hF ls (v.toList ++ r) (pc + 3) h') : pm_X p l e R s m args below meth c Q D V A ad0 u0 v0 hF ls (as.reverse ++ r) pc h := by
  obtain ⟨hm, hM⟩ := hM
  have hB := hK.1
  refine ⟨⟨by omega, by omega⟩, fun H locs cells slots lsM stM hS => ?_⟩
  obtain ⟨ws, tys, ext, k1, k2, k3, k4, k5, k6, k7, k8, k9, k10⟩ := hS
  obtain ⟨w1, r1, rfl, hw1, kr⟩ := k8.split
  have has := hw1.rev
  have hro := kr.room hr4
  have hM := hM ws tys w1.reverse H.size k5 has
  have hpre := pm_pre hAm hAs k1 k2 k3 k4 hA w1.reverse
  have hc : pm_cw M = Cond.code M.y M.bytes M.maxL M.ret := by unfold pm_cw; rw [if_pos hhs]
  have hrun : va_Run p l e R s m args below meth c H locs cells slots (pm_used h' - pm_used h) (pm_slots h' - pm_slots h) (F0 m pc lsM (w1 ++ r1)) r1 (pm_Qc D V (va_A ws H.size) (ws.map Prod.fst) (.inl v) h' (w1.reverse).toArray) (va_A ws H.size) := va_runSN (As := w1.reverse) (rest := r1) (host := host) (bytes := M.bytes) (maxL := M.maxL) (ret := M.ret) (n := n) (g := F0 m pc lsM (w1 ++ r1)) ⟨hx, hb, hml, hown, hts⟩ (pm_Met.ret hM pm_noX) ⟨⟨⟨rfl, rfl, by show d + 1 ≤ _; omega, by show 8 + (M.maxL + 11) + 36 * d ≤ _; omega, pm_pay hts hG hcw, by rw [← hc]; exact List.mem_cons_self⟩, by rw [← hc]; exact hts _ hcw, hts _ hini, ⟨hd.1, hd.2.1⟩, pm_par hd, va_Nw.use rfl hl⟩, hts _ hst, trivial⟩ ⟨pm_blind hAm, hpre⟩ rfl (by rw [has.len]; exact hn) k7.1 (by rw [List.reverse_reverse]) (by show 2 * 0 + _ ≤ 8; omega) hdg ⟨by omega, by omega⟩
  exact pm_go hA k3 k4 k6 k7 kr k9 k10 hm hrun hK
theorem sx_callI (hx : p.tables.exec = Jvm.exec) (hb : c.code = cc) (hml : c.maxLocals = ls.length) (hown : s.vm.findClass own = some m.cls) (hts : ∀ w ∈ Ts, w.before args s = true) (hG : pm_good Ts) (hA : ∀ q, s.heap.size ≤ q → A q) (hAm : pm_amb Amb) (hAs : Amb A s s.heap)
    (hRc : R.cells + u0 = pm_used hF) (hRs : R.slots + v0 = pm_slots hF) (hRf : R.frames = d + 1) (hRl : 36 * (d + 1) ≤ R.locals) (hcw : pm_cw M ∈ Ts) (hini : Cond.initialized M.y.cls ∈ Ts) (hd : pm_plain M.y n) (hmax : M.maxL ≤ 17) (hhs : M.hs = []) (hret : M.ret = none) (hin1 : M.y.name = "<init>") (hl : Cond.methodLink own i M.y ∈ Ts) (hin : Cond.instanceMethod M.y ∈ Ts) (hdg : decode cc pc = .ok (.invokespecial i, 3))
    {as : List pV} {k : Nat} {r : List pV} (hn : as.length = n) (hr4 : pm_c8 r ≤ 8) (hM : pm_Met l Ts Amb D V d M (vR k :: as) h (.inl none) h') (hK : pm_X p l e R s m args below meth c Q D V A ad0 u0 v0 hF ls r (pc + 3) h') : pm_X p l e R s m args below meth c Q D V A ad0 u0 v0 hF ls (as.reverse ++ vR k :: r) pc h := by
  obtain ⟨hm, hM⟩ := hM
  have hB := hK.1
  refine ⟨⟨by omega, by omega⟩, fun H locs cells slots lsM stM hS => ?_⟩
  obtain ⟨ws, tys, ext, k1, k2, k3, k4, k5, k6, k7, k8, k9, k10⟩ := hS
  obtain ⟨w1, w2, rfl, hw1, hw2⟩ := k8.split
  obtain ⟨w0, r1, rfl, ⟨a, ha, rfl⟩, kr⟩ := hw2
  have has := hw1.rev
  have hro := kr.room8 hr4
  have hM := hM ws tys (.ref a :: w1.reverse) H.size k5 ⟨_, _, rfl, ⟨a, ha, rfl⟩, has⟩
  have hpre := pm_pre hAm hAs k1 k2 k3 k4 hA (.ref a :: w1.reverse)
  have hcb := pm_callb (h := h) (h' := h') (own := own) (i := i) (n := n) hts hG hhs hcw hini hl hd hmax hRf hRl
  rw [hret] at hcb
  have hrun : va_Run p l e R s m args below meth c H locs cells slots (pm_used h' - pm_used h) (pm_slots h' - pm_slots h) (F0 m pc lsM (w1 ++ .ref a :: r1)) r1 (pm_Qc D V (va_A ws H.size) (ws.map Prod.fst) (.inl none) h' (Value.ref a :: w1.reverse).toArray) (va_A ws H.size) := va_runI (As := w1.reverse) (rest := r1) (b := a) (g := F0 m pc lsM (w1 ++ .ref a :: r1)) ⟨hx, hb, hml, hown, hts⟩ (pm_Met.ret hM pm_noX) ⟨hcb, hin1, hts _ hin⟩ ⟨pm_blind hAm, hpre⟩ rfl (by rw [has.len]; exact hn) k7.1 (by rw [List.reverse_reverse]) (by show 2 * 0 + _ ≤ 8; omega) hdg ⟨by omega, by omega⟩
  exact pm_go hA k3 k4 k6 k7 kr k9 k10 hm hrun hK
theorem sx_callIN (hx : p.tables.exec = Jvm.exec) (hb : c.code = cc) (hml : c.maxLocals = ls.length) (hown : s.vm.findClass own = some m.cls) (hts : ∀ w ∈ Ts, w.before args s = true) (hG : pm_good Ts) (hA : ∀ q, s.heap.size ≤ q → A q) (hAm : pm_amb Amb) (hAs : Amb A s s.heap)
    (hRc : R.cells + u0 = pm_used hF) (hRs : R.slots + v0 = pm_slots hF) (hRf : R.frames = d + 1) (hRl : 36 * (d + 1) ≤ R.locals) (hcw : pm_cw M ∈ Ts) (hini : Cond.initialized M.y.cls ∈ Ts) (hd : pm_plain M.y n) (hmax : M.maxL ≤ 17) {host : String} (hhs : M.hs = []) (hret : M.ret = none) (hin1 : M.y.name = "<init>") (hl : va_Nw (.methodLinkNest own i M.y host) s) (hin : Cond.instanceMethod M.y ∈ Ts) (hdg : decode cc pc = .ok (.invokespecial i, 3))
    {as : List pV} {k : Nat} {r : List pV} (hn : as.length = n) (hr4 : pm_c8 r ≤ 8) (hM : pm_Met l Ts Amb D V d M (vR k :: as) h (.inl none) h') (hK : pm_X p l e R s m args below meth c Q D V A ad0 u0 v0 hF ls r (pc + 3) h') : pm_X p l e R s m args below meth c Q D V A ad0 u0 v0 hF ls (as.reverse ++ vR k :: r) pc h := by
  obtain ⟨hm, hM⟩ := hM
  have hB := hK.1
  refine ⟨⟨by omega, by omega⟩, fun H locs cells slots lsM stM hS => ?_⟩
  obtain ⟨ws, tys, ext, k1, k2, k3, k4, k5, k6, k7, k8, k9, k10⟩ := hS
  obtain ⟨w1, w2, rfl, hw1, hw2⟩ := k8.split
  obtain ⟨w0, r1, rfl, ⟨a, ha, rfl⟩, kr⟩ := hw2
  have has := hw1.rev
  have hro := kr.room8 hr4
  have hM := hM ws tys (.ref a :: w1.reverse) H.size k5 ⟨_, _, rfl, ⟨a, ha, rfl⟩, has⟩
  have hpre := pm_pre hAm hAs k1 k2 k3 k4 hA (.ref a :: w1.reverse)
  have hc : pm_cw M = Cond.code M.y M.bytes M.maxL none := by unfold pm_cw; rw [if_pos hhs, hret]
  have hrun : va_Run p l e R s m args below meth c H locs cells slots (pm_used h' - pm_used h) (pm_slots h' - pm_slots h) (F0 m pc lsM (w1 ++ .ref a :: r1)) r1 (pm_Qc D V (va_A ws H.size) (ws.map Prod.fst) (.inl none) h' (Value.ref a :: w1.reverse).toArray) (va_A ws H.size) := va_runIN (As := w1.reverse) (rest := r1) (b := a) (host := host) (bytes := M.bytes) (maxL := M.maxL) (n := n) (g := F0 m pc lsM (w1 ++ .ref a :: r1)) ⟨hx, hb, hml, hown, hts⟩ (pm_Met.ret hM pm_noX) ⟨⟨⟨rfl, rfl, by show d + 1 ≤ _; omega, by show 8 + (M.maxL + 11) + 36 * d ≤ _; omega, pm_pay hts hG hcw, by rw [← hc]; exact List.mem_cons_self⟩, by rw [← hc]; exact hts _ hcw, hts _ hini, ⟨hd.1, hd.2.1⟩, pm_par hd, va_Nw.use rfl hl⟩, hin1, hts _ hin⟩ ⟨pm_blind hAm, hpre⟩ rfl (by rw [has.len]; exact hn) k7.1 (by rw [List.reverse_reverse]) (by show 2 * 0 + _ ≤ 8; omega) hdg ⟨by omega, by omega⟩
  exact pm_go hA k3 k4 k6 k7 kr k9 k10 hm hrun hK
theorem sx_callSW (hx : p.tables.exec = Jvm.exec) (hb : c.code = cc) (hml : c.maxLocals = ls.length) (hown : s.vm.findClass own = some m.cls) (hts : ∀ w ∈ Ts, w.before args s = true) (hG : pm_good Ts) (hA : ∀ q, s.heap.size ≤ q → A q) (hAm : pm_amb Amb) (hAs : Amb A s s.heap)
    (hRc : R.cells + u0 = pm_used hF) (hRs : R.slots + v0 = pm_slots hF) (hRf : R.frames = d + 1) (hRl : 36 * (d + 1) ≤ R.locals) (hcw : pm_cw M ∈ Ts) (hini : Cond.initialized M.y.cls ∈ Ts) (hd : pm_plain M.y n) (hmax : M.maxL ≤ 17) (hhs : M.hs ≠ []) (hl : Cond.methodLink own i M.y ∈ Ts) (hst : Cond.static M.y ∈ Ts) (hdg : decode cc pc = .ok (.invokestatic i, 3))
    {as r : List pV} {v : Option pV} (hn : as.length = n) (hr4 : r.length ≤ 4) (hM : pm_Met l Ts Amb D V d M as h (.inl v) h') (hK : pm_X p l e R s m args below meth c Q D V A ad0 u0 v0 hF ls (v.toList ++ r) (pc + 3) h') : pm_X p l e R s m args below meth c Q D V A ad0 u0 v0 hF ls (as.reverse ++ r) pc h := by
  obtain ⟨hm, hM⟩ := hM
  have hB := hK.1
  refine ⟨⟨by omega, by omega⟩, fun H locs cells slots lsM stM hS => ?_⟩
  obtain ⟨ws, tys, ext, k1, k2, k3, k4, k5, k6, k7, k8, k9, k10⟩ := hS
  obtain ⟨w1, r1, rfl, hw1, kr⟩ := k8.split
  have has := hw1.rev
  have hro := kr.room hr4
  have hM := hM ws tys w1.reverse H.size k5 has
  have hpre := pm_pre hAm hAs k1 k2 k3 k4 hA w1.reverse
  have hc : pm_cw M = Cond.codeWith M.y M.bytes M.maxL M.ret (M.hs.map (fun q => (q.1, q.2.1, q.2.2.1, q.2.2.2.1))) := by unfold pm_cw; rw [if_neg hhs]
  have hrun : va_Run p l e R s m args below meth c H locs cells slots (pm_used h' - pm_used h) (pm_slots h' - pm_slots h) (F0 m pc lsM (w1 ++ r1)) r1 (pm_Qc D V (va_A ws H.size) (ws.map Prod.fst) (.inl v) h' (w1.reverse).toArray) (va_A ws H.size) := vx_runSW (As := w1.reverse) (rest := r1) (bytes := M.bytes) (maxL := M.maxL) (ret := M.ret) (n := n) (hh := M.hs.map (fun q => (q.1, q.2.1, q.2.2.1, q.2.2.2.1))) (g := F0 m pc lsM (w1 ++ r1)) ⟨hx, hb, hml, hown, hts⟩ (pm_Met.ret hM pm_noX) ⟨⟨rfl, rfl, by show d + 1 ≤ _; omega, by show 8 + (M.maxL + 11) + 36 * d ≤ _; omega, pm_pay hts hG hcw, by rw [← hc]; exact List.mem_cons_self⟩, by rw [← hc]; exact hts _ hcw, hts _ hini, ⟨hd.1, hd.2.1⟩, pm_par hd, hts _ hl, hts _ hst⟩ ⟨pm_blind hAm, hpre⟩ rfl (by rw [has.len]; exact hn) k7.1 (by rw [List.reverse_reverse]) (by show 2 * 0 + _ ≤ 8; omega) hdg ⟨by omega, by omega⟩
  exact pm_go hA k3 k4 k6 k7 kr k9 k10 hm hrun hK
end SX6
