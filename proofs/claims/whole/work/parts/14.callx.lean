/-! ===== THE PURE MACHINE IS SOUND: a call that throws, caught by the caller ===== -/
theorem pm_tab {α β γ : Type} (f : α → γ) (g : β → γ) : ∀ (l : List α) (l2 : List β), l.map f = l2.map g → ∀ (pre : List β) (x : β) (suf : List β), l2 = pre ++ x :: suf → ∃ (pre' : List α) (x' : α) (suf' : List α), l = pre' ++ x' :: suf' ∧ f x' = g x ∧ pre'.map f = pre.map g := by
  intro l l2 h pre
  induction pre generalizing l l2 with
  | nil =>
    intro x suf e
    subst e
    cases l with
    | nil => cases h
    | cons a t =>
      simp only [List.nil_append, List.map_cons, List.cons.injEq] at h
      exact ⟨[], a, t, rfl, h.1, rfl⟩
  | cons b pre ih =>
    intro x suf e
    subst e
    cases l with
    | nil => cases h
    | cons a t =>
      simp only [List.cons_append, List.map_cons, List.cons.injEq] at h
      obtain ⟨pre', x', suf', e1, e2, e3⟩ := ih t (pre ++ x :: suf) h.2 x suf rfl
      exact ⟨a :: pre', x', suf', by rw [e1]; rfl, e2, by rw [List.map_cons, List.map_cons, h.1, e3]⟩
section SX8
variable {p : Program} {l : Launch} {e : Env} {R : Room} {s : State} {m : MethodId} {args : Array Value} {below : List Frame} {meth : Method} {c : Code} {Q : State → Prop} {D : va_G} {V : Nat → Nat} {A : Nat → Prop} {ad0 : List Nat} {u0 v0 : Nat} {hF : pH} {ls : List (Option pV)} {st : List pV} {pc : Nat} {h h' : pH} {cc : ByteArray} {own : String} {Ts : List Jvm.Cond} {d : Nat} {Amb : (Nat → Prop) → State → Heap → Prop} {M M0 : pM} {i n : Nat}
theorem sx_callVX (hx : p.tables.exec = Jvm.exec) (hb : c.code = cc) (hml : c.maxLocals = ls.length) (hown : s.vm.findClass own = some m.cls) (hts : ∀ w ∈ Ts, w.before args s = true) (hG : pm_good Ts) (hA : ∀ q, s.heap.size ≤ q → A q) (hAm : pm_amb Amb) (hAs : Amb A s s.heap)
    (hRc : R.cells + u0 = pm_used hF) (hRs : R.slots + v0 = pm_slots hF) (hRf : R.frames = d + 1) (hRl : 36 * (d + 1) ≤ R.locals) (hcw : pm_cw M ∈ Ts) (hini : Cond.initialized M.y.cls ∈ Ts) (hd : pm_plain M.y n) (hmax : M.maxL ≤ 17) {ci : Nat} (h7 : ci < 7) (hC : M.y.cls = pm_cn ci) (hhs : M.hs = []) (hl : Cond.methodLink own i M.y ∈ Ts) (hin : Cond.instanceMethod M.y ∈ Ts) (hse : Cond.selects (pm_cn ci) M.y M.y ∈ Ts) (hdg : decode cc pc = .ok (.invokevirtual i, 3))
    (htab : c.exceptionTable.toList.map (fun x => (x.startPc, x.endPc, x.handlerPc, x.catchType)) = M0.hs.map (fun q => (q.1, q.2.1, q.2.2.1, q.2.2.2.1))) (hhl : ∀ q ∈ M0.hs, (Cond.classLink own q.2.2.2.1 (pm_en q.2.2.2.2)).before args s = true ∧ q.2.2.2.1 ≠ 0 ∧ q.2.2.2.2 < 3)
    (hnc : ∀ k k', k < 3 → k' < 3 → k ≠ k' → va_Nc (pm_en k) (pm_en k') s) (hca : ∀ k, k < 3 → (Cond.castable (pm_en k) (pm_en k)).before args s = true)
    {as : List pV} {k : Nat} {r fs : List pV} {ex : Nat} {q0 : Nat × Nat × Nat × Nat × Nat} (hex : ex < 3) (hn : as.length = n) (hk : pm_get h k = some (.inr (ci, fs))) (hr4 : r.length ≤ 4) (hM : pm_Met l Ts Amb D V d M (vR k :: as) h (.inr ex) h')
    (hf : M0.hs.find? (fun q => decide (q.1 ≤ pc) && decide (pc < q.2.1) && decide (q.2.2.2.2 = ex)) = some q0) (hK : pm_X p l e R s m args below meth c Q D V A ad0 u0 v0 hF ls [vX 1] q0.2.2.1 h') : pm_X p l e R s m args below meth c Q D V A ad0 u0 v0 hF ls (as.reverse ++ vR k :: r) pc h := by
  obtain ⟨hm, hM⟩ := hM
  have hB := hK.1
  refine ⟨⟨by omega, by omega⟩, fun H locs cells slots lsM stM hS => ?_⟩
  obtain ⟨ws, tys, ext, k1, k2, k3, k4, k5, k6, k7, k8, k9, k10⟩ := hS
  obtain ⟨w1, w2, rfl, hw1, hw2⟩ := k8.split
  obtain ⟨w0, r1, rfl, ⟨a, ha, rfl⟩, kr⟩ := hw2
  have has := hw1.rev
  have hro := kr.room hr4
  obtain ⟨e1, hwk, vs, rfl, hvs⟩ := k5.cell hk ha
  have hM := hM ws tys (.ref a :: w1.reverse) H.size k5 ⟨_, _, rfl, ⟨a, ha, rfl⟩, has⟩
  have hpre := pm_pre hAm hAs k1 k2 k3 k4 hA (.ref a :: w1.reverse)
  have hrun : vx_Run p l e R s m args below meth c H locs cells slots (pm_used h' - pm_used h) (pm_slots h' - pm_slots h) (F0 m pc lsM (w1 ++ .ref a :: r1)) r1 (pm_Qc D V (va_A ws H.size) (ws.map Prod.fst) (.inr ex) h' (Value.ref a :: w1.reverse).toArray) (pm_XC D V (va_A ws H.size) (ws.map Prod.fst) (.inr ex) h') (va_A ws H.size) :=
    vx_runV (As := w1.reverse) (rest := r1) (b := a) (C := pm_cn ci) (g := F0 m pc lsM (w1 ++ .ref a :: r1)) ⟨hx, hb, hml, hown, hts⟩ hM ⟨pm_callb hts hG hhs hcw hini hl hd hmax hRf hRl, hts _ hin, hts _ hse⟩ ⟨pm_blind hAm, va_recv k1 k2 (pm_cl ci h7) hwk, hpre⟩ rfl (by rw [has.len]; exact hn) k7.1 (by rw [List.reverse_reverse]) (by show 2 * 0 + _ ≤ 8; omega) hdg ⟨by omega, by omega⟩
  intro T hT X
  rcases hrun T hT X with ⟨v, st₀, t, T', L, h0, X', hL, e1, e2, hq, sg⟩ | ⟨q, st₀, t, T', L, E, ce, h0, X', hL, e1, e2, hXC, hce, hcv, hcE, sg⟩
  · obtain ⟨⟨v1, ow, ho, -⟩, -⟩ := hq
    cases ho
  · obtain ⟨⟨k', ho, rfl, hBw⟩, hFr⟩ := hXC
    cases ho
    have hvm : s.vm.Alike t.vm := by rw [← e2]; exact X'.warmed.alike
    have hst := pm_after (r := []) (r1 := []) k3 k4 k6 k7 rfl k9 k10 hm (pm_sub k3 k4 hA) h0 hL e1 hvm hBw hFr
    obtain ⟨y1, y2, y3, y4, y5, y6, y7, y8, y9, y10, -, y11, y12⟩ := hst
    have hW2 := hK.2 _ _ _ _ _ [.ref q] ⟨y1, y2, y3, y4, y5, y6, y7, y8, y9, y10, ⟨_, _, rfl, ⟨q, rfl⟩, rfl⟩, y11, y12⟩
    obtain ⟨hq1, preQ, sufQ, hsp, hpr⟩ := List.find?_eq_some_iff_append.mp hf
    simp only [Bool.and_eq_true, decide_eq_true_eq] at hq1
    obtain ⟨pre', x', suf', hs1, hs2, hs3⟩ := pm_tab _ _ _ _ htab preQ q0 sufQ hsp
    have hmem : q0 ∈ M0.hs := by rw [hsp]; exact List.mem_append_right _ List.mem_cons_self
    obtain ⟨hl0, hl1, hl2⟩ := hhl q0 hmem
    simp only [Prod.mk.injEq] at hs2
    obtain ⟨s1, s2, s3, s4⟩ := hs2
    have hgo : vx_W p l e R s m args below meth c T'.heap (locs ++ L) (cells + (pm_used h' - pm_used h)) (slots + (pm_slots h' - pm_slots h)) Q (F0 m pc lsM r1) q := by
      refine cx_catch (own := own) (name := pm_en q0.2.2.2.2) (E := pm_en ex) (ce := ce) hown pre' x' suf' hs1 (fun z hz => ?_) ?_ (by rw [s4]; exact hl1) (by rw [s4]; exact hl0) (by rw [hq1.2]; exact hca ex hex) (by rw [e1]; exact hce) hcv hcE (by rw [s3]; exact hW2)
      · have hzm : (z.startPc, z.endPc, z.handlerPc, z.catchType) ∈ preQ.map (fun q => (q.1, q.2.1, q.2.2.1, q.2.2.2.1)) := by rw [← hs3]; exact List.mem_map_of_mem hz
        obtain ⟨qz, hqz, hze⟩ := List.mem_map.mp hzm
        simp only [Prod.mk.injEq] at hze
        obtain ⟨z1, z2, z3, z4⟩ := hze
        have hqn := hpr qz hqz
        obtain ⟨g1, g2, g3⟩ := hhl qz (by rw [hsp]; exact List.mem_append_left _ hqz)
        by_cases hcv : covers z pc = true
        · right
          refine ⟨by rw [← z4]; exact g2, pm_en qz.2.2.2.2, by rw [← z4]; exact g1, hnc ex _ hex g3 (fun hee => ?_)⟩
          simp only [covers, Bool.and_eq_true, decide_eq_true_eq] at hcv
          rw [← z1, ← z2] at hcv
          simp [hcv.1, hcv.2, ← hee] at hqn
        · left
          simpa using hcv
      · simp only [covers, Bool.and_eq_true, decide_eq_true_eq]
        rw [s1, s2]
        exact hq1.1
    obtain ⟨t2, a1, b1⟩ := hgo T' rfl X'
    exact ⟨t2, sg.trans a1, b1⟩
end SX8
