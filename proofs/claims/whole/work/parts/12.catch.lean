/-! ===== A THROW OF A CALLEE, CAUGHT: the search through the handlers, their classes linked or not yet ===== -/
section CX
variable {e : Env} {f : JFrame} {a : Addr}
/-- one row that covers the place: its class is linked; then it takes the thing, or the search goes on -/
theorem cx_row {s : State} {Q : Handler → Pre} {E : CtlPost} {dd : Bool} {acts : List Action} {x : ExceptionTableEntry} {t : List ExceptionTableEntry} {c : ClassId} {cell : Cell} (hx : covers x f.pc = true) (h0 : x.catchType ≠ 0)
    (hl : s.vm.ClassLinks e.platform f.method.cls x.catchType c) (hcell : s.heap[a]? = some cell) (hobj : ∀ k, cell.vm ≠ .statics k) (hk : ∃ k, s.vm.classes[cell.cls]? = some k) (hc : ∃ k, s.vm.classes[c]? = some k) :
    wp (findHandler.go f a (x :: t)) Q E e dd acts s ↔ (if s.vm.assignable cell.cls c = true then Q (.found x.handlerPc) dd acts (s.setVm (s.vm.noted f.method.cls x.catchType (.cls c))) else wp (findHandler.go f a t) Q E e dd acts (s.setVm (s.vm.noted f.method.cls x.catchType (.cls c)))) := by
  simp only [covers] at hx
  obtain ⟨g1, g2⟩ := (resolveClass_links e.toSetting hl).op (op := VmOp.resolveClass f.method.cls x.catchType) rfl
  have hal : s.vm.Alike (s.vm.noted f.method.cls x.catchType (.cls c)) := (Vm.Alike.refl s.vm).noted _ _ _
  obtain ⟨q1, hq1⟩ := hk
  obtain ⟨q2, hq2⟩ := hc
  obtain ⟨r1, hr1, -⟩ := hal.2.2 _ _ hq1
  obtain ⟨r2, hr2, -⟩ := hal.2.2 _ _ hq2
  have has := hal.assignable cell.cls c
  by_cases hfit : s.vm.assignable cell.cls c = true
  · rw [if_pos hfit]
    rw [hfit] at has
    simp [findHandler.go, hx, h0, g1, g2, hcell, hobj, hr1, hr2, has, VmOp.dirties, VmOp.acts]
  · rw [if_neg hfit]
    have hf2 : s.vm.assignable cell.cls c = false := by simpa using hfit
    rw [hf2] at has
    simp [findHandler.go, hx, h0, g1, g2, hcell, hobj, hr1, hr2, has, VmOp.dirties, VmOp.acts]
/-- the rows of a table, by what they are linked to at the method's entry s₀: the first that takes the class E -/
theorem cx_go {s₀ : State} {cell : Cell} (hobj : ∀ k, cell.vm ≠ .statics k) (hk0 : ∃ k, s₀.vm.classes[cell.cls]? = some k) {x : ExceptionTableEntry} {rest : List ExceptionTableEntry} (hx : covers x f.pc = true)
    {cx : ClassId} (hx0 : x.catchType ≠ 0) (hxl : s₀.vm.ClassLinks e.platform f.method.cls x.catchType cx) (hxa : s₀.vm.assignable cell.cls cx = true) :
    ∀ (pre : List ExceptionTableEntry) (S : State), s₀.WarmedH S.vm → S.heap[a]? = some cell → (∀ y ∈ pre, covers y f.pc = false ∨ (y.catchType ≠ 0 ∧ ∃ cy, s₀.vm.ClassLinks e.platform f.method.cls y.catchType cy ∧ s₀.vm.assignable cell.cls cy = false)) →
      ∃ vm', s₀.WarmedH vm' ∧ ∀ (Q : Handler → Pre) (E : CtlPost) (dd : Bool) (acts : List Action), wp (findHandler.go f a (pre ++ x :: rest)) Q E e dd acts S ↔ Q (.found x.handlerPc) dd acts (S.setVm vm') := by
  obtain ⟨q0, hq0⟩ := hk0
  intro pre
  induction pre with
  | nil =>
    intro S hW hcell _
    obtain ⟨q1, hq1, -⟩ := hW.alike.2.2 _ _ hq0
    obtain ⟨_, _, _, kt, hd, _, _, _, _, hkt, _, hopen⟩ := hxl.here
    obtain ⟨kt1, hkt1, -⟩ := hW.alike.2.2 _ _ hkt
    refine ⟨_, hW.noted hd hopen (State.rightAt_cls hxl), fun Q E dd acts => ?_⟩
    rw [List.nil_append, cx_row hx hx0 (hW.classLinks hxl) hcell hobj ⟨q1, hq1⟩ ⟨kt1, hkt1⟩, if_pos (by rw [hW.alike.assignable]; exact hxa)]
  | cons y ys ih =>
    intro S hW hcell hpass
    obtain ⟨q1, hq1, -⟩ := hW.alike.2.2 _ _ hq0
    have hrest := fun z (hz : z ∈ ys) => hpass z (List.mem_cons_of_mem _ hz)
    cases hcov : covers y f.pc with
    | false =>
      obtain ⟨vm', hW', hq⟩ := ih S hW hcell hrest
      refine ⟨vm', hW', fun Q E dd acts => ?_⟩
      rw [List.cons_append, W.findHandler_go_skip hcov]
      exact hq Q E dd acts
    | true =>
      rcases hpass y List.mem_cons_self with hz | ⟨h0, cy, hl, hno⟩
      · rw [hz] at hcov; cases hcov
      · obtain ⟨_, _, _, kt, hd, _, _, _, _, hkt, _, hopen⟩ := hl.here
        obtain ⟨kt1, hkt1, -⟩ := hW.alike.2.2 _ _ hkt
        obtain ⟨vm', hW', hq⟩ := ih (S.setVm (S.vm.noted f.method.cls y.catchType (.cls cy))) (hW.noted hd hopen (State.rightAt_cls hl)) hcell hrest
        refine ⟨vm', hW', fun Q E dd acts => ?_⟩
        rw [List.cons_append, cx_row hcov h0 (hW.classLinks hl) hcell hobj ⟨q1, hq1⟩ ⟨kt1, hkt1⟩, if_neg (by rw [hW.alike.assignable, hno]; decide)]
        exact hq Q E dd acts
end CX
