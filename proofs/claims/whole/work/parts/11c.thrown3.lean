/-- what a throw needs where the class's constructor links its superclass by an entry of its own -/
def pm_thrN (args : Array Value) (s : State) (own : String) (cc : ByteArray) (pc k ik : Nat) : Prop :=
  ∃ (text Y : String) (r : List String) (is ic idx sa : Nat) (bytes : ByteArray), r.length = 1 ∧ Bundle.fit (pm_en k) = true ∧ Bundle.fit Y = true ∧ (∀ n ∈ r, Bundle.fit n = true)
    ∧ decode bytes 0 = .ok (.aload_n 0, 1) ∧ decode bytes 1 = .ok (.aload_n 1, 1) ∧ decode bytes 2 = .ok (.invokespecial idx, 3) ∧ decode bytes 5 = .ok (.return_, 1)
    ∧ (Cond.classLink own ik (pm_en k)).before args s = true ∧ (Cond.initialized (pm_en k)).before args s = true ∧ vk_R own is text sa s ∧ (∀ w ∈ px_at own ic (pm_en k) Y r idx bytes, w.before args s = true)
    ∧ (∀ w ∈ Cond.classLink own ik (pm_en k) :: Cond.initialized (pm_en k) :: px_at own ic (pm_en k) Y r idx bytes, vx_ot w = true)
    ∧ decode cc (pc + 3) = .ok (.dup, 1) ∧ decode cc (pc + 4) = .ok (.ldc is, 2) ∧ decode cc (pc + 6) = .ok (.invokespecial ic, 3) ∧ decode cc (pc + 9) = .ok (.athrow, 1)
section SX7N
variable {p : Program} {l : Launch} {e : Env} {R : Room} {s : State} {m : MethodId} {args : Array Value} {below : List Frame} {meth : Method} {c : Code} {Q : State → Prop} {D : va_G} {V : Nat → Nat} {A : Nat → Prop} {ad0 : List Nat} {u0 v0 : Nat} {hF : pH} {ls : List (Option pV)} {st : List pV} {pc : Nat} {h : pH} {cc : ByteArray} {own : String} {d : Nat} {oF : pO}
theorem sx_throwN (hx : p.tables.exec = Jvm.exec) (hb : c.code = cc) (hl : l.stackTraces = false) {k ik : Nat} (hml : c.maxLocals = ls.length) (hown : s.vm.findClass own = some m.cls) (hlocks : meth.locks = false)
    (hU : vx_Zq Bundle.tN "UNASSIGNED_STACK" Bundle.steD A s s.heap) (hN : vx_Zq Bundle.tN "SUPPRESSED_SENTINEL" Bundle.listD A s s.heap) (hout : c.exceptionTable.toList = []) (ht : pm_thrN args s own cc pc k ik)
    (hRc : R.cells + u0 = pm_used hF) (hRs : R.slots + v0 = pm_slots hF) (hRf : R.frames = d) (hRl : 36 * d ≤ R.locals) (hdg : decode cc pc = .ok (.new ik, 3))
    (q : 7 ≤ d ∧ st = [] ∧ (.inr k = oF ∧ (h.1, h.2 + 1) = hF)) : pm_X p l e R s m args below meth c (vx_MQ below (pm_Qc D V A ad0 oF hF) (pm_XC D V A ad0 oF hF) args s (pm_used hF - u0) (pm_slots hF - v0) A) D V A ad0 u0 v0 hF ls st pc h := by
  obtain ⟨hd, rfl, ho, rfl⟩ := q
  have hu : pm_used (h.1, h.2 + 1) = pm_used h + 1 := by unfold pm_used; show h.1.length + (h.2 + 1) = _; omega
  have hv : pm_slots (h.1, h.2 + 1) = pm_slots h + 6 := by unfold pm_slots; show (h.1.map pm_size).sum + 6 * (h.2 + 1) = _; omega
  rw [hu] at hRc
  rw [hv] at hRs
  refine ⟨⟨by rw [hu]; omega, by rw [hv]; omega⟩, fun H locs cells slots lsM stM hS => ?_⟩
  obtain ⟨ws, tys, ext, k1, k2, k3, k4, k5, k6, k7, rfl, k9, k10⟩ := hS
  obtain ⟨text, Y, r, is, ic, idx, sa, bytes, hn2, t1, t2, t3, b0, b1, b2, b5, t4, t5, t6, t7, t8, d3, d4, d6, d9⟩ := ht
  refine px_throw hx hb hl hown t1 t2 t3 b0 b1 b2 b5 t4 t5 t6 t7 t8 hU hN k4 (by rw [hml]; exact k7.1) hdg d3 d4 d6 d9 (by rw [hout]; exact fun _ hq => absurd hq List.not_mem_nil) (by omega) (by show 0 + _ ≤ _; rw [hn2]; omega) (by omega) (by omega) hlocks (fun t hvm hz hk => ?_) k4.2.2 (by rw [hu]; omega) (by rw [hv]; omega)
  refine ⟨⟨k, ho.symm, rfl, ws, tys, ext, k2.kept (fun j q hj => hk q.1 (k2 j q hj).lt), va_K.moved hvm k1, k3, k5, k6, rfl⟩, Nat.le_trans k4.1 hz, fun q h1 h2 => ?_⟩
  rw [hk q (Nat.lt_of_lt_of_le h1 k4.1)]
  exact k4.2.1 q h1 h2
end SX7N
