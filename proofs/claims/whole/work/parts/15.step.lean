/-! ===== THE PURE MACHINE IS SOUND: one step, whatever it is (written by wip/whole/gen_asm.py) ===== -/
def pm_cal (Ts : List Jvm.Cond) (M : pM) : Prop := pm_cw M ∈ Ts ∧ Cond.initialized M.y.cls ∈ Ts ∧ M.maxL ≤ 17
/-- what an instruction is linked to -/
def pm_lk (P : List pM) (Ts : List Jvm.Cond) (V : Nat → Nat) (args : Array Value) (s : State) (M : pM) (pc : Nat) (ins : Instr) (a b c : Nat) : Prop := match ins with
  | .ldc i => (c = 0 → (Cond.constantFloat M.y.cls i (UInt32.ofNat a)).before args s = true) ∧ (c = 1 → ∃ tx, vk_R M.y.cls i tx (V (a + 1)) s)
  | .ldc2_w i => (Cond.constantLong M.y.cls i (Int64.ofInt ((a : Int) - b))).before args s = true
  | .getfield i => (Cond.fieldLink M.y.cls i (pm_T a b).1 (pm_T a b).2.1 (pm_T a b).2.2.1).before args s = true
  | .putfield i => (Cond.fieldLink M.y.cls i (pm_T a b).1 (pm_T a b).2.1 (pm_T a b).2.2.1).before args s = true ∧ ((pm_T a b).2.2.2 = false ∨ (M.y.name = "<init>" ∧ (pm_T a b).1 = M.y.cls))
  | .new i => (c = 0 → (Cond.classLink M.y.cls i (pm_cn a)).before args s = true ∧ (Cond.instantiable (pm_cn a) (pm_N a)).before args s = true ∧ (Cond.initialized (pm_cn a)).before args s = true) ∧ (c = 1 → pm_thr args s M.y.cls M.bytes pc a i ∨ pm_thrN args s M.y.cls M.bytes pc a i)
  | .newarray ty => (Cond.arrayClass (newarray.typeOf ty)).before args s = true
  | .anewarray i => (Cond.classLink M.y.cls i (pm_cn a)).before args s = true ∧ va_AO (pm_cn a) s
  | .invokespecial i => (c = 1 → (Cond.methodLink M.y.cls i Lib.objectInit).before args s = true ∧ (Cond.instanceMethod Lib.objectInit).before args s = true ∧ (Cond.code Lib.objectInit ⟨#[0xb1]⟩ 1 none).before args s = true)
      ∧ (c ≠ 1 → ∀ M', P[a]? = some M' → pm_cal Ts M' ∧ M'.hs = [] ∧ M'.ret = none ∧ M'.y.name = "<init>" ∧ pm_plain M'.y b ∧ Cond.instanceMethod M'.y ∈ Ts ∧ ((c = 0 ∧ Cond.methodLink M.y.cls i M'.y ∈ Ts) ∨ (c ≠ 0 ∧ ∃ host, va_Nw (.methodLinkNest M.y.cls i M'.y host) s)))
  | .invokevirtual i => (c = 0 → ∀ M', P[a]? = some M' → pm_cal Ts M' ∧ M'.hs = [] ∧ M'.y.cls = pm_cn (b / 8) ∧ pm_plain M'.y (b % 8) ∧ Cond.methodLink M.y.cls i M'.y ∈ Ts ∧ Cond.instanceMethod M'.y ∈ Ts ∧ Cond.selects (pm_cn (b / 8)) M'.y M'.y ∈ Ts)
      ∧ (c = 1 → (Cond.methodLink M.y.cls i yJ0_length_8abf5).before args s = true) ∧ (c = 2 → (Cond.methodLink M.y.cls i yJ0_charAt_5068e).before args s = true)
  | .invokestatic i => ((c = 0 ∨ 4 ≤ c) → ∀ M', P[a]? = some M' → pm_cal Ts M' ∧ pm_plain M'.y b ∧ Cond.static M'.y ∈ Ts ∧ ((c = 0 ∧ M'.hs = [] ∧ Cond.methodLink M.y.cls i M'.y ∈ Ts) ∨ (c = 4 ∧ M'.hs = [] ∧ ∃ host, va_Nw (.methodLinkNest M.y.cls i M'.y host) s) ∨ (c = 5 ∧ M'.hs ≠ [] ∧ Cond.methodLink M.y.cls i M'.y ∈ Ts)))
      ∧ (c = 1 → (Cond.methodLink M.y.cls i Lib.Math.max.name).before args s = true ∧ (Cond.static Lib.Math.max.name).before args s = true ∧ (Cond.initialized "java/lang/Math").before args s = true ∧ (Cond.code Lib.Math.max.name Lib.Math.max.code 2 (some .int)).before args s = true)
      ∧ ((c = 2 ∨ c = 3) → (Cond.methodLink M.y.cls i arraycopyName).before args s = true ∧ (Cond.native arraycopyName).before args s = true ∧ (Cond.static arraycopyName).before args s = true ∧ (Cond.initialized "java/lang/System").before args s = true)
  | _ => True
/-- how long an instruction is; 0 where it has no one length -/
def pm_len : Instr → Nat
  | .lconst _ => 1
  | .fconst _ => 1
  | .iload_n _ => 1
  | .fload_n _ => 1
  | .aload_n _ => 1
  | .lload_n _ => 1
  | .dload_n _ => 1
  | .istore_n _ => 1
  | .fstore_n _ => 1
  | .astore_n _ => 1
  | .lstore_n _ => 1
  | .dstore_n _ => 1
  | .iconst _ => 1
  | .dup => 1
  | .iadd => 1
  | .isub => 1
  | .imul => 1
  | .iand => 1
  | .ladd => 1
  | .lsub => 1
  | .lmul => 1
  | .ldiv => 1
  | .lcmp => 1
  | .i2l => 1
  | .i2c => 1
  | .i2f => 1
  | .f2d => 1
  | .fadd => 1
  | .fsub => 1
  | .fmul => 1
  | .fdiv => 1
  | .fcmp _ => 1
  | .dcmp _ => 1
  | .arraylength => 1
  | .iaload => 1
  | .baload => 1
  | .caload => 1
  | .laload => 1
  | .faload => 1
  | .daload => 1
  | .aaload => 1
  | .iastore => 1
  | .bastore => 1
  | .castore => 1
  | .lastore => 1
  | .fastore => 1
  | .dastore => 1
  | .aastore => 1
  | .ireturn => 1
  | .freturn => 1
  | .lreturn => 1
  | .return_ => 1
  | .bipush _ => 2
  | .ldc _ => 2
  | .iload _ => 2
  | .fload _ => 2
  | .aload _ => 2
  | .lload _ => 2
  | .dload _ => 2
  | .istore _ => 2
  | .fstore _ => 2
  | .astore _ => 2
  | .lstore _ => 2
  | .dstore _ => 2
  | .newarray _ => 2
  | .sipush _ => 3
  | .ldc2_w _ => 3
  | .iinc _ _ => 3
  | .goto _ => 3
  | .ifCond _ _ => 3
  | .if_icmp _ _ => 3
  | .getfield _ => 3
  | .putfield _ => 3
  | .new _ => 3
  | .anewarray _ => 3
  | .invokespecial _ => 3
  | .invokevirtual _ => 3
  | .invokestatic _ => 3
  | _ => 0
theorem pm_st1_len (ls : List (Option pV)) (i : Nat) (v : pV) : (pm_st1 ls i v).length = ls.length := by unfold pm_st1; rw [List.length_set, pm_clr_len]
theorem pm_st2_len (ls : List (Option pV)) (i : Nat) (v : pV) : (pm_st2 ls i v).length = ls.length := by unfold pm_st2; rw [List.length_set, List.length_set, pm_clr_len]
section SX9
variable {p : Program} {l : Launch} {e : Env} {R : Room} {s : State} {m : MethodId} {args : Array Value} {below : List Frame} {meth : Method} {c : Code} {D : va_G} {V : Nat → Nat} {A : Nat → Prop} {ad0 : List Nat} {u0 v0 : Nat} {hF : pH} {oF : pO} {ls : List (Option pV)} {st : List pV} {pc : Nat} {h : pH} {Ts : List Jvm.Cond} {d : Nat} {Amb : (Nat → Prop) → State → Heap → Prop} {M : pM} {P : List pM} {txt : Nat → List Int} {L sb : Nat} {xs : Nat → Int32} {C : Nat → List pV → pH → pO → pH → Prop}
set_option maxHeartbeats 4000000 in
theorem sx_one (hx : p.tables.exec = Jvm.exec) (hb : c.code = M.bytes) (hml : c.maxLocals = M.maxL) (hr : meth.sig.returnType = M.ret) (hlocks : meth.locks = false) (hname : M.y.name = "<init>" → meth.name = "<init>") (hown : s.vm.findClass M.y.cls = some m.cls) (hts : ∀ w ∈ Ts, w.before args s = true) (hG : pm_good Ts)
    (hclw : ∀ ci, ci < 7 → ∀ w ∈ u_ws (pm_cn ci) (pm_T ci) (pm_N ci), w ∈ Ts) (hdec : ∀ q ∈ M.code, decode M.bytes q.1 = .ok (q.2.1, q.2.2.1) ∧ (pm_len q.2.1 = 0 ∨ q.2.2.1 = pm_len q.2.1)) (hlk : ∀ q ∈ M.code, pm_lk P Ts V args s M q.1 q.2.1 q.2.2.2.1 q.2.2.2.2.1 q.2.2.2.2.2)
    (hA : ∀ q, s.heap.size ≤ q → A q) (hAm : pm_amb Amb) (hAs : Amb A s s.heap) (hRc : R.cells + u0 = pm_used hF) (hRs : R.slots + v0 = pm_slots hF) (hRf : R.frames = d) (hRl : 36 * d ≤ R.locals)
    (hl : l.stackTraces = false) (hU : vx_Zq Bundle.tN "UNASSIGNED_STACK" Bundle.steD A s s.heap) (hN : vx_Zq Bundle.tN "SUPPRESSED_SENTINEL" Bundle.listD A s s.heap) (hout : M.hs = [] → c.exceptionTable.toList = [])
    (htab : c.exceptionTable.toList.map (fun x => (x.startPc, x.endPc, x.handlerPc, x.catchType)) = M.hs.map (fun q => (q.1, q.2.1, q.2.2.1, q.2.2.2.1))) (hhl : ∀ q ∈ M.hs, (Cond.classLink M.y.cls q.2.2.2.1 (pm_en q.2.2.2.2)).before args s = true ∧ q.2.2.2.1 ≠ 0 ∧ q.2.2.2.2 < 3)
    (hnc : ∀ k k', k < 3 → k' < 3 → k ≠ k' → va_Nc (pm_en k) (pm_en k') s) (hca : ∀ k, k < 3 → (Cond.castable (pm_en k) (pm_en k)).before args s = true)
    (hX : V 0 = sb ∧ (L ≤ 1000 → va_X sb L xs s s.heap ∧ sb < s.heap.size ∧ ¬ A sb))
    (hC : ∀ μ as h o h', C μ as h o h' → ∃ d' M', d = d' + 1 ∧ P[μ]? = some M' ∧ pm_Met l Ts Amb D V d' M' as h o h')
    (hS1 : ∀ (i : Nat) (ls : List (Option pV)) (st : List pV) (pc : Nat) (h : pH), ls.length = M.maxL → decode M.bytes pc = .ok (.invokevirtual i, 3) → (Cond.methodLink M.y.cls i yJ0_length_8abf5).before args s = true → (∃ i r, st = vX (3 + i) :: r ∧ r.length ≤ 4 ∧ i < 13 ∧ 4 ≤ d ∧ pm_X p l e R s m args below meth c (vx_MQ below (pm_Qc D V A ad0 oF hF) (pm_XC D V A ad0 oF hF) args s (pm_used hF - u0) (pm_slots hF - v0) A) D V A ad0 u0 v0 hF ls (vI (txt i).length :: r) (pc + 3) h) → pm_X p l e R s m args below meth c (vx_MQ below (pm_Qc D V A ad0 oF hF) (pm_XC D V A ad0 oF hF) args s (pm_used hF - u0) (pm_slots hF - v0) A) D V A ad0 u0 v0 hF ls st pc h)
    (hS2 : ∀ (i : Nat) (ls : List (Option pV)) (st : List pV) (pc : Nat) (h : pH), ls.length = M.maxL → decode M.bytes pc = .ok (.invokevirtual i, 3) → (Cond.methodLink M.y.cls i yJ0_charAt_5068e).before args s = true → (∃ i j r x, st = vI j :: vX (3 + i) :: r ∧ r.length ≤ 4 ∧ i < 13 ∧ 4 ≤ d ∧ 0 ≤ j ∧ (txt i)[j.toNat]? = some x ∧ pm_X p l e R s m args below meth c (vx_MQ below (pm_Qc D V A ad0 oF hF) (pm_XC D V A ad0 oF hF) args s (pm_used hF - u0) (pm_slots hF - v0) A) D V A ad0 u0 v0 hF ls (vI x :: r) (pc + 3) h) → pm_X p l e R s m args below meth c (vx_MQ below (pm_Qc D V A ad0 oF hF) (pm_XC D V A ad0 oF hF) args s (pm_used hF - u0) (pm_slots hF - v0) A) D V A ad0 u0 v0 hF ls st pc h)
    (hlen : ls.length = M.maxL)
    (hst : pm_step txt L (fun j => (xs j).toInt) C d M (fun o h2 => o = oF ∧ h2 = hF) (fun ls st pc h => ls.length = M.maxL → pm_X p l e R s m args below meth c (vx_MQ below (pm_Qc D V A ad0 oF hF) (pm_XC D V A ad0 oF hF) args s (pm_used hF - u0) (pm_slots hF - v0) A) D V A ad0 u0 v0 hF ls st pc h) ls st pc h) :
    pm_X p l e R s m args below meth c (vx_MQ below (pm_Qc D V A ad0 oF hF) (pm_XC D V A ad0 oF hF) args s (pm_used hF - u0) (pm_slots hF - v0) A) D V A ad0 u0 v0 hF ls st pc h := by
  obtain ⟨⟨pq, ins, len, qa, qb, qc⟩, hat, hi⟩ := hst
  have hmem : ((pq, ins, len, qa, qb, qc) : pE) ∈ M.code := List.mem_of_find?_eq_some hat
  have hpq : pq = pc := by have := List.find?_some hat; simpa using this
  subst hpq
  obtain ⟨hdg, hln⟩ := hdec _ hmem
  have hk := hlk _ hmem
  dsimp only at hdg hln hk hi
  have hml2 : c.maxLocals = ls.length := hml.trans hlen.symm
  cases ins with
  | iconst n =>
    have hln : len = 1 := by rcases hln with h9 | h9; exact absurd (show (1 : Nat) = 0 from h9) (by decide); exact h9
    subst hln
    obtain ⟨hc, hK⟩ := hi
    exact sx_iconst hx hb hdg ⟨hc, hK hlen⟩
  | bipush n =>
    have hln : len = 2 := by rcases hln with h9 | h9; exact absurd (show (2 : Nat) = 0 from h9) (by decide); exact h9
    subst hln
    obtain ⟨hc, hK⟩ := hi
    exact sx_bipush hx hb hdg ⟨hc, hK hlen⟩
  | sipush n =>
    have hln : len = 3 := by rcases hln with h9 | h9; exact absurd (show (3 : Nat) = 0 from h9) (by decide); exact h9
    subst hln
    obtain ⟨hc, hK⟩ := hi
    exact sx_sipush hx hb hdg ⟨hc, hK hlen⟩
  | lconst n =>
    have hln : len = 1 := by rcases hln with h9 | h9; exact absurd (show (1 : Nat) = 0 from h9) (by decide); exact h9
    subst hln
    exact sx_lconst hx hb hdg (hi hlen)
  | fconst n =>
    have hln : len = 1 := by rcases hln with h9 | h9; exact absurd (show (1 : Nat) = 0 from h9) (by decide); exact h9
    subst hln
    obtain ⟨h0, h1, h2⟩ := hi
    match n, hdg, h0, h1, h2 with
    | 0, hdg, h0, _, _ => exact sx_fconst0 hx hb hdg (h0 rfl hlen)
    | 1, hdg, _, h1, _ => exact sx_fconst1 hx hb hdg (h1 rfl hlen)
    | 2, hdg, _, _, h2 => exact sx_fconst2 hx hb hdg (h2 rfl hlen)
  | ldc i =>
    have hln : len = 2 := by rcases hln with h9 | h9; exact absurd (show (2 : Nat) = 0 from h9) (by decide); exact h9
    subst hln
    obtain ⟨h0, h1, h2⟩ := hi
    obtain ⟨g0, g1⟩ := hk
    match qc, h0, h1, h2, g0, g1 with
    | 0, h0, _, _, g0, _ => exact sx_ldcf hx hb hown (g0 rfl) hdg ((h0 rfl).2 hlen)
    | 1, _, h1, _, _, g1 =>
      obtain ⟨tx, g1⟩ := g1 rfl
      have hK := h1 rfl hlen
      refine ⟨hK.1, fun H locs cells slots lsM stM hS => ?_⟩
      obtain ⟨ws, tys, ext, k1, k2, k3, k4, k5, k6, k7, k8, k9, k10⟩ := hS
      exact va_ldcS hx hb hown g1 hdg (hK.2 _ _ _ _ _ _ ⟨ws, tys, ext, k1, k2, k3, k4, k5, k6, k7, ⟨_, _, rfl, (by rw [Nat.add_comm 3 qa]; exact (rfl : _)), k8⟩, k9, k10⟩)
  | ldc2_w i =>
    have hln : len = 3 := by rcases hln with h9 | h9; exact absurd (show (3 : Nat) = 0 from h9) (by decide); exact h9
    subst hln
    obtain ⟨hc, hK⟩ := hi
    exact sx_ldc2 hx hb hown hk hdg ⟨hc, hK hlen⟩
  | iload i =>
    have hln : len = 2 := by rcases hln with h9 | h9; exact absurd (show (2 : Nat) = 0 from h9) (by decide); exact h9
    subst hln
    obtain ⟨x, hg, hK⟩ := hi
    exact sx_iload hx hb hdg ⟨x, hg, hK hlen⟩
  | iload_n i =>
    have hln : len = 1 := by rcases hln with h9 | h9; exact absurd (show (1 : Nat) = 0 from h9) (by decide); exact h9
    subst hln
    obtain ⟨x, hg, hK⟩ := hi
    exact sx_iload_n hx hb hdg ⟨x, hg, hK hlen⟩
  | fload i =>
    have hln : len = 2 := by rcases hln with h9 | h9; exact absurd (show (2 : Nat) = 0 from h9) (by decide); exact h9
    subst hln
    obtain ⟨x, hg, hK⟩ := hi
    exact sx_fload hx hb hdg ⟨x, hg, hK hlen⟩
  | fload_n i =>
    have hln : len = 1 := by rcases hln with h9 | h9; exact absurd (show (1 : Nat) = 0 from h9) (by decide); exact h9
    subst hln
    obtain ⟨x, hg, hK⟩ := hi
    exact sx_fload_n hx hb hdg ⟨x, hg, hK hlen⟩
  | lload i =>
    have hln : len = 2 := by rcases hln with h9 | h9; exact absurd (show (2 : Nat) = 0 from h9) (by decide); exact h9
    subst hln
    obtain ⟨x, hg, hK⟩ := hi
    exact sx_lload hx hb hdg ⟨x, hg, hK hlen⟩
  | lload_n i =>
    have hln : len = 1 := by rcases hln with h9 | h9; exact absurd (show (1 : Nat) = 0 from h9) (by decide); exact h9
    subst hln
    obtain ⟨x, hg, hK⟩ := hi
    exact sx_lload_n hx hb hdg ⟨x, hg, hK hlen⟩
  | dload i =>
    have hln : len = 2 := by rcases hln with h9 | h9; exact absurd (show (2 : Nat) = 0 from h9) (by decide); exact h9
    subst hln
    obtain ⟨x, hg, hK⟩ := hi
    exact sx_dload hx hb hdg ⟨x, hg, hK hlen⟩
  | dload_n i =>
    have hln : len = 1 := by rcases hln with h9 | h9; exact absurd (show (1 : Nat) = 0 from h9) (by decide); exact h9
    subst hln
    obtain ⟨x, hg, hK⟩ := hi
    exact sx_dload_n hx hb hdg ⟨x, hg, hK hlen⟩
  | aload i =>
    have hln : len = 2 := by rcases hln with h9 | h9; exact absurd (show (2 : Nat) = 0 from h9) (by decide); exact h9
    subst hln
    obtain ⟨v, hg, hv, hK⟩ := hi
    exact sx_aload hx hb hdg ⟨v, hg, hv, hK hlen⟩
  | aload_n i =>
    have hln : len = 1 := by rcases hln with h9 | h9; exact absurd (show (1 : Nat) = 0 from h9) (by decide); exact h9
    subst hln
    obtain ⟨v, hg, hv, hK⟩ := hi
    exact sx_aload_n hx hb hdg ⟨v, hg, hv, hK hlen⟩
  | istore i =>
    have hln : len = 2 := by rcases hln with h9 | h9; exact absurd (show (2 : Nat) = 0 from h9) (by decide); exact h9
    subst hln
    obtain ⟨x, r, e1, hg, hK⟩ := hi
    exact sx_istore hx hb hdg ⟨x, r, e1, hg, hK (by rw [pm_st1_len]; exact hlen)⟩
  | istore_n i =>
    have hln : len = 1 := by rcases hln with h9 | h9; exact absurd (show (1 : Nat) = 0 from h9) (by decide); exact h9
    subst hln
    obtain ⟨x, r, e1, hg, hK⟩ := hi
    exact sx_istore_n hx hb hdg ⟨x, r, e1, hg, hK (by rw [pm_st1_len]; exact hlen)⟩
  | fstore i =>
    have hln : len = 2 := by rcases hln with h9 | h9; exact absurd (show (2 : Nat) = 0 from h9) (by decide); exact h9
    subst hln
    obtain ⟨x, r, e1, hg, hK⟩ := hi
    exact sx_fstore hx hb hdg ⟨x, r, e1, hg, hK (by rw [pm_st1_len]; exact hlen)⟩
  | fstore_n i =>
    have hln : len = 1 := by rcases hln with h9 | h9; exact absurd (show (1 : Nat) = 0 from h9) (by decide); exact h9
    subst hln
    obtain ⟨x, r, e1, hg, hK⟩ := hi
    exact sx_fstore_n hx hb hdg ⟨x, r, e1, hg, hK (by rw [pm_st1_len]; exact hlen)⟩
  | lstore i =>
    have hln : len = 2 := by rcases hln with h9 | h9; exact absurd (show (2 : Nat) = 0 from h9) (by decide); exact h9
    subst hln
    obtain ⟨x, r, e1, hg, hK⟩ := hi
    exact sx_lstore hx hb hdg ⟨x, r, e1, hg, hK (by rw [pm_st2_len]; exact hlen)⟩
  | lstore_n i =>
    have hln : len = 1 := by rcases hln with h9 | h9; exact absurd (show (1 : Nat) = 0 from h9) (by decide); exact h9
    subst hln
    obtain ⟨x, r, e1, hg, hK⟩ := hi
    exact sx_lstore_n hx hb hdg ⟨x, r, e1, hg, hK (by rw [pm_st2_len]; exact hlen)⟩
  | dstore i =>
    have hln : len = 2 := by rcases hln with h9 | h9; exact absurd (show (2 : Nat) = 0 from h9) (by decide); exact h9
    subst hln
    obtain ⟨x, r, e1, hg, hK⟩ := hi
    exact sx_dstore hx hb hdg ⟨x, r, e1, hg, hK (by rw [pm_st2_len]; exact hlen)⟩
  | dstore_n i =>
    have hln : len = 1 := by rcases hln with h9 | h9; exact absurd (show (1 : Nat) = 0 from h9) (by decide); exact h9
    subst hln
    obtain ⟨x, r, e1, hg, hK⟩ := hi
    exact sx_dstore_n hx hb hdg ⟨x, r, e1, hg, hK (by rw [pm_st2_len]; exact hlen)⟩
  | astore i =>
    have hln : len = 2 := by rcases hln with h9 | h9; exact absurd (show (2 : Nat) = 0 from h9) (by decide); exact h9
    subst hln
    obtain ⟨x, r, e1, hv, hg, hK⟩ := hi
    exact sx_astore hx hb hdg ⟨x, r, e1, hv, hg, hK (by rw [pm_st1_len]; exact hlen)⟩
  | astore_n i =>
    have hln : len = 1 := by rcases hln with h9 | h9; exact absurd (show (1 : Nat) = 0 from h9) (by decide); exact h9
    subst hln
    obtain ⟨x, r, e1, hv, hg, hK⟩ := hi
    exact sx_astore_n hx hb hdg ⟨x, r, e1, hv, hg, hK (by rw [pm_st1_len]; exact hlen)⟩
  | iinc i n =>
    have hln : len = 3 := by rcases hln with h9 | h9; exact absurd (show (3 : Nat) = 0 from h9) (by decide); exact h9
    subst hln
    obtain ⟨x, hg, h1, h2, hK⟩ := hi
    exact sx_iinc hx hb hdg ⟨x, hg, h1, h2, hK (by rw [pm_st1_len]; exact hlen)⟩
  | dup =>
    have hln : len = 1 := by rcases hln with h9 | h9; exact absurd (show (1 : Nat) = 0 from h9) (by decide); exact h9
    subst hln
    obtain ⟨v, r, e1, hv, hK⟩ := hi
    exact sx_dup hx hb hdg ⟨v, r, e1, hv, hK hlen⟩
  | iadd =>
    have hln : len = 1 := by rcases hln with h9 | h9; exact absurd (show (1 : Nat) = 0 from h9) (by decide); exact h9
    subst hln
    obtain ⟨x, y, r, e1, hc, hK⟩ := hi
    exact sx_iadd hx hb hdg ⟨x, y, r, e1, hc, hK hlen⟩
  | isub =>
    have hln : len = 1 := by rcases hln with h9 | h9; exact absurd (show (1 : Nat) = 0 from h9) (by decide); exact h9
    subst hln
    obtain ⟨x, y, r, e1, hc, hK⟩ := hi
    exact sx_isub hx hb hdg ⟨x, y, r, e1, hc, hK hlen⟩
  | imul =>
    have hln : len = 1 := by rcases hln with h9 | h9; exact absurd (show (1 : Nat) = 0 from h9) (by decide); exact h9
    subst hln
    obtain ⟨x, y, r, e1, hc, hK⟩ := hi
    exact sx_imul hx hb hdg ⟨x, y, r, e1, hc, hK hlen⟩
  | ladd =>
    have hln : len = 1 := by rcases hln with h9 | h9; exact absurd (show (1 : Nat) = 0 from h9) (by decide); exact h9
    subst hln
    obtain ⟨x, y, r, e1, hc, hK⟩ := hi
    exact sx_ladd hx hb hdg ⟨x, y, r, e1, hc, hK hlen⟩
  | lsub =>
    have hln : len = 1 := by rcases hln with h9 | h9; exact absurd (show (1 : Nat) = 0 from h9) (by decide); exact h9
    subst hln
    obtain ⟨x, y, r, e1, hc, hK⟩ := hi
    exact sx_lsub hx hb hdg ⟨x, y, r, e1, hc, hK hlen⟩
  | lmul =>
    have hln : len = 1 := by rcases hln with h9 | h9; exact absurd (show (1 : Nat) = 0 from h9) (by decide); exact h9
    subst hln
    obtain ⟨x, y, r, e1, hc, hK⟩ := hi
    exact sx_lmul hx hb hdg ⟨x, y, r, e1, hc, hK hlen⟩
  | fadd =>
    have hln : len = 1 := by rcases hln with h9 | h9; exact absurd (show (1 : Nat) = 0 from h9) (by decide); exact h9
    subst hln
    obtain ⟨x, y, r, e1, hc, hK⟩ := hi
    exact sx_fadd hx hb hdg ⟨x, y, r, e1, hc, hK hlen⟩
  | fsub =>
    have hln : len = 1 := by rcases hln with h9 | h9; exact absurd (show (1 : Nat) = 0 from h9) (by decide); exact h9
    subst hln
    obtain ⟨x, y, r, e1, hc, hK⟩ := hi
    exact sx_fsub hx hb hdg ⟨x, y, r, e1, hc, hK hlen⟩
  | fmul =>
    have hln : len = 1 := by rcases hln with h9 | h9; exact absurd (show (1 : Nat) = 0 from h9) (by decide); exact h9
    subst hln
    obtain ⟨x, y, r, e1, hc, hK⟩ := hi
    exact sx_fmul hx hb hdg ⟨x, y, r, e1, hc, hK hlen⟩
  | fdiv =>
    have hln : len = 1 := by rcases hln with h9 | h9; exact absurd (show (1 : Nat) = 0 from h9) (by decide); exact h9
    subst hln
    obtain ⟨x, y, r, e1, hc, hK⟩ := hi
    exact sx_fdiv hx hb hdg ⟨x, y, r, e1, hc, hK hlen⟩
  | iand =>
    have hln : len = 1 := by rcases hln with h9 | h9; exact absurd (show (1 : Nat) = 0 from h9) (by decide); exact h9
    subst hln
    obtain ⟨x, r, e1, hK⟩ := hi
    exact sx_iand hx hb hdg ⟨x, r, e1, hK hlen⟩
  | ldiv =>
    have hln : len = 1 := by rcases hln with h9 | h9; exact absurd (show (1 : Nat) = 0 from h9) (by decide); exact h9
    subst hln
    obtain ⟨x, y, r, e1, h1, h2, hK⟩ := hi
    exact sx_ldiv hx hb hdg ⟨x, y, r, e1, h1, h2, hK hlen⟩
  | lcmp =>
    have hln : len = 1 := by rcases hln with h9 | h9; exact absurd (show (1 : Nat) = 0 from h9) (by decide); exact h9
    subst hln
    obtain ⟨x, y, r, e1, hK⟩ := hi
    exact sx_lcmp hx hb hdg ⟨x, y, r, e1, hK hlen⟩
  | i2l =>
    have hln : len = 1 := by rcases hln with h9 | h9; exact absurd (show (1 : Nat) = 0 from h9) (by decide); exact h9
    subst hln
    obtain ⟨x, r, e1, hK⟩ := hi
    exact sx_i2l hx hb hdg ⟨x, r, e1, hK hlen⟩
  | i2c =>
    have hln : len = 1 := by rcases hln with h9 | h9; exact absurd (show (1 : Nat) = 0 from h9) (by decide); exact h9
    subst hln
    obtain ⟨x, r, e1, hK⟩ := hi
    exact sx_i2c hx hb hdg ⟨x, r, e1, hK hlen⟩
  | i2f =>
    have hln : len = 1 := by rcases hln with h9 | h9; exact absurd (show (1 : Nat) = 0 from h9) (by decide); exact h9
    subst hln
    obtain ⟨x, r, e1, hK⟩ := hi
    exact sx_i2f hx hb hdg ⟨x, r, e1, hK hlen⟩
  | f2d =>
    have hln : len = 1 := by rcases hln with h9 | h9; exact absurd (show (1 : Nat) = 0 from h9) (by decide); exact h9
    subst hln
    obtain ⟨x, r, e1, hc, hK⟩ := hi
    exact sx_f2d hx hb hdg ⟨x, r, e1, hc, hK hlen⟩
  | fcmp op =>
    have hln : len = 1 := by rcases hln with h9 | h9; exact absurd (show (1 : Nat) = 0 from h9) (by decide); exact h9
    subst hln
    obtain ⟨x, y, r, e1, hK⟩ := hi
    exact sx_fcmp hx hb hdg ⟨x, y, r, e1, hK hlen⟩
  | dcmp op =>
    have hln : len = 1 := by rcases hln with h9 | h9; exact absurd (show (1 : Nat) = 0 from h9) (by decide); exact h9
    subst hln
    obtain ⟨x, y, r, e1, hK⟩ := hi
    exact sx_dcmp hx hb hdg ⟨x, y, r, e1, hK hlen⟩
  | goto off =>
    have hln : len = 3 := by rcases hln with h9 | h9; exact absurd (show (3 : Nat) = 0 from h9) (by decide); exact h9
    subst hln
    obtain ⟨t, ht, hK⟩ := hi
    exact sx_goto hx hb hdg ⟨t, ht, hK hlen⟩
  | ifCond q off =>
    have hln : len = 3 := by rcases hln with h9 | h9; exact absurd (show (3 : Nat) = 0 from h9) (by decide); exact h9
    subst hln
    obtain ⟨x, r, e1, t, ht, h1, h2⟩ := hi
    exact sx_if hx hb hdg ⟨x, r, e1, t, ht, fun z => h1 z hlen, fun z => h2 z hlen⟩
  | if_icmp q off =>
    have hln : len = 3 := by rcases hln with h9 | h9; exact absurd (show (3 : Nat) = 0 from h9) (by decide); exact h9
    subst hln
    obtain ⟨x, y, r, e1, t, ht, h1, h2⟩ := hi
    exact sx_icmp hx hb hdg ⟨x, y, r, e1, t, ht, fun z => h1 z hlen, fun z => h2 z hlen⟩
  | tableswitch df lo hi2 offs =>
    obtain ⟨x, r, e1, h1, h2, off, ho, t, ht, hK⟩ := hi
    exact sx_tsw hx hb hdg ⟨x, r, e1, h1, h2, off, ho, t, ht, hK hlen⟩
  | getfield i =>
    have hln : len = 3 := by rcases hln with h9 | h9; exact absurd (show (3 : Nat) = 0 from h9) (by decide); exact h9
    subst hln
    obtain ⟨k, r, e1, fs, v, h1, h2, h3, h4, hK⟩ := hi
    exact sx_getf hx hb hown hts (hclw _ h2) hk hdg ⟨k, r, e1, fs, v, h1, h2, h3, h4, hK hlen⟩
  | putfield i =>
    have hln : len = 3 := by rcases hln with h9 | h9; exact absurd (show (3 : Nat) = 0 from h9) (by decide); exact h9
    subst hln
    obtain ⟨v, k, r, e1, fs, h1, h2, h3, h4, h5, hK⟩ := hi
    exact sx_putf hx hb hown hts (hclw _ h2) hk.1 (by rcases hk.2 with g | ⟨g1, g2⟩; exact Or.inl g; exact Or.inr ⟨hname g1, g2⟩) hdg ⟨v, k, r, e1, fs, h1, h2, h3, h4, h5, hK hlen⟩
  | new i =>
    have hln : len = 3 := by rcases hln with h9 | h9; exact absurd (show (3 : Nat) = 0 from h9) (by decide); exact h9
    subst hln
    obtain ⟨h0, h1, h2⟩ := hi
    obtain ⟨g0, g1⟩ := hk
    match qc, h0, h1, h2, g0, g1 with
    | 0, h0, _, _, g0, _ =>
      obtain ⟨h7, hK⟩ := h0 rfl
      obtain ⟨w1, w2, w3⟩ := g0 rfl
      exact sx_new hx hb hown hts (hclw _ h7) w1 w2 w3 hA hRc hRs hdg ⟨h7, hK hlen⟩
    | 1, _, h1, _, _, g1 =>
      obtain ⟨hd7, hh, e1, e2, e3⟩ := h1 rfl
      rcases g1 rfl with g1 | g1
      · exact sx_throw hx hb hl hml2 hown hlocks hU hN (hout hh) g1 hRc hRs hRf hRl hdg ⟨hd7, e1, e2, e3⟩
      · exact sx_throwN hx hb hl hml2 hown hlocks hU hN (hout hh) g1 hRc hRs hRf hRl hdg ⟨hd7, e1, e2, e3⟩
  | newarray ty =>
    have hln : len = 2 := by rcases hln with h9 | h9; exact absurd (show (2 : Nat) = 0 from h9) (by decide); exact h9
    subst hln
    obtain ⟨n, r, z, e1, h1, h2, h3, hK⟩ := hi
    exact sx_newarr hx hb hk hA hRc hRs hdg ⟨n, r, z, e1, h1, h2, h3, hK hlen⟩
  | anewarray i =>
    have hln : len = 3 := by rcases hln with h9 | h9; exact absurd (show (3 : Nat) = 0 from h9) (by decide); exact h9
    subst hln
    obtain ⟨n, r, e1, h1, h2, h7, hK⟩ := hi
    exact sx_anew hx hb hown hk.1 hk.2 hA hRc hRs hdg ⟨n, r, e1, h1, h2, h7, hK hlen⟩
  | arraylength =>
    have hln : len = 1 := by rcases hln with h9 | h9; exact absurd (show (1 : Nat) = 0 from h9) (by decide); exact h9
    subst hln
    obtain ⟨v, r, e1, hq⟩ := hi
    refine sx_alen (L := L) (xs := xs) hx hb hX hdg ⟨v, r, e1, ?_⟩
    rcases hq with ⟨k, ty, n, z, h1, h2, h3, hK⟩ | ⟨h1, h2, hK⟩
    · exact Or.inl ⟨k, ty, n, z, h1, h2, h3, hK hlen⟩
    · exact Or.inr ⟨h1, h2, hK hlen⟩
  | iaload =>
    have hln : len = 1 := by rcases hln with h9 | h9; exact absurd (show (1 : Nat) = 0 from h9) (by decide); exact h9
    subst hln
    obtain ⟨i, v, r, e1, hq⟩ := hi
    refine sx_iaload (L := L) (xs := xs) hx hb hX hdg ⟨i, v, r, e1, ?_⟩
    rcases hq with ⟨k, n, f, h1, h2, h3, h4, h5, hK⟩ | ⟨h1, h2, h3, h4, hK⟩
    · exact Or.inl ⟨k, n, f, h1, h2, h3, h4, h5, hK hlen⟩
    · exact Or.inr ⟨h1, h2, h3, h4, hK hlen⟩
  | baload =>
    have hln : len = 1 := by rcases hln with h9 | h9; exact absurd (show (1 : Nat) = 0 from h9) (by decide); exact h9
    subst hln
    obtain ⟨i, k, r, n, f, e1, h1, h2, h3, h4, hK⟩ := hi
    exact sx_baload hx hb hdg ⟨i, k, r, n, f, e1, h1, h2, h3, h4, hK hlen⟩
  | caload =>
    have hln : len = 1 := by rcases hln with h9 | h9; exact absurd (show (1 : Nat) = 0 from h9) (by decide); exact h9
    subst hln
    obtain ⟨i, k, r, n, f, e1, h1, h2, h3, h4, hK⟩ := hi
    exact sx_caload hx hb hdg ⟨i, k, r, n, f, e1, h1, h2, h3, h4, hK hlen⟩
  | laload =>
    have hln : len = 1 := by rcases hln with h9 | h9; exact absurd (show (1 : Nat) = 0 from h9) (by decide); exact h9
    subst hln
    obtain ⟨i, k, r, n, f, e1, h1, h2, h3, h4, hK⟩ := hi
    exact sx_laload hx hb hdg ⟨i, k, r, n, f, e1, h1, h2, h3, h4, hK hlen⟩
  | faload =>
    have hln : len = 1 := by rcases hln with h9 | h9; exact absurd (show (1 : Nat) = 0 from h9) (by decide); exact h9
    subst hln
    obtain ⟨i, k, r, n, f, e1, h1, h2, h3, h4, hK⟩ := hi
    exact sx_faload hx hb hdg ⟨i, k, r, n, f, e1, h1, h2, h3, h4, hK hlen⟩
  | daload =>
    have hln : len = 1 := by rcases hln with h9 | h9; exact absurd (show (1 : Nat) = 0 from h9) (by decide); exact h9
    subst hln
    obtain ⟨i, k, r, n, f, e1, h1, h2, h3, h4, hK⟩ := hi
    exact sx_daload hx hb hdg ⟨i, k, r, n, f, e1, h1, h2, h3, h4, hK hlen⟩
  | aaload =>
    have hln : len = 1 := by rcases hln with h9 | h9; exact absurd (show (1 : Nat) = 0 from h9) (by decide); exact h9
    subst hln
    obtain ⟨i, k, r, cn, n, f, y, e1, h1, h2, h3, h4, h5, hK⟩ := hi
    exact sx_aaload hx hb hdg ⟨i, k, r, cn, n, f, y, e1, h1, h2, h3, h4, h5, hK hlen⟩
  | iastore =>
    have hln : len = 1 := by rcases hln with h9 | h9; exact absurd (show (1 : Nat) = 0 from h9) (by decide); exact h9
    subst hln
    obtain ⟨x, i, k, r, n, f, e1, h1, h2, h3, h4, hK⟩ := hi
    exact sx_iastore hx hb hdg ⟨x, i, k, r, n, f, e1, h1, h2, h3, h4, hK hlen⟩
  | lastore =>
    have hln : len = 1 := by rcases hln with h9 | h9; exact absurd (show (1 : Nat) = 0 from h9) (by decide); exact h9
    subst hln
    obtain ⟨x, i, k, r, n, f, e1, h1, h2, h3, h4, hK⟩ := hi
    exact sx_lastore hx hb hdg ⟨x, i, k, r, n, f, e1, h1, h2, h3, h4, hK hlen⟩
  | fastore =>
    have hln : len = 1 := by rcases hln with h9 | h9; exact absurd (show (1 : Nat) = 0 from h9) (by decide); exact h9
    subst hln
    obtain ⟨x, i, k, r, n, f, e1, h1, h2, h3, h4, hK⟩ := hi
    exact sx_fastore hx hb hdg ⟨x, i, k, r, n, f, e1, h1, h2, h3, h4, hK hlen⟩
  | dastore =>
    have hln : len = 1 := by rcases hln with h9 | h9; exact absurd (show (1 : Nat) = 0 from h9) (by decide); exact h9
    subst hln
    obtain ⟨x, i, k, r, n, f, e1, h1, h2, h3, h4, hK⟩ := hi
    exact sx_dastore hx hb hdg ⟨x, i, k, r, n, f, e1, h1, h2, h3, h4, hK hlen⟩
  | bastore =>
    have hln : len = 1 := by rcases hln with h9 | h9; exact absurd (show (1 : Nat) = 0 from h9) (by decide); exact h9
    subst hln
    obtain ⟨x, i, k, r, n, f, e1, h1, h2, h3, h4, h5, hK⟩ := hi
    exact sx_bastore hx hb hdg ⟨x, i, k, r, n, f, e1, h1, h2, h3, h4, h5, hK hlen⟩
  | castore =>
    have hln : len = 1 := by rcases hln with h9 | h9; exact absurd (show (1 : Nat) = 0 from h9) (by decide); exact h9
    subst hln
    obtain ⟨x, i, k, r, n, f, e1, h1, h2, h3, h4, h5, h6, hK⟩ := hi
    exact sx_castore hx hb hdg ⟨x, i, k, r, n, f, e1, h1, h2, h3, h4, h5, h6, hK hlen⟩
  | aastore =>
    have hln : len = 1 := by rcases hln with h9 | h9; exact absurd (show (1 : Nat) = 0 from h9) (by decide); exact h9
    subst hln
    obtain ⟨y, i, k, r, n, f, fs, e1, h1, h2, h3, h4, h5, h6, hK⟩ := hi
    exact sx_aastore hx hb hdg ⟨y, i, k, r, n, f, fs, e1, h1, h2, h3, h4, h5, h6, hK hlen⟩
  | ireturn =>
    have hln : len = 1 := by rcases hln with h9 | h9; exact absurd (show (1 : Nat) = 0 from h9) (by decide); exact h9
    subst hln
    exact sx_ireturn hx hb hr hlocks hdg hi
  | freturn =>
    have hln : len = 1 := by rcases hln with h9 | h9; exact absurd (show (1 : Nat) = 0 from h9) (by decide); exact h9
    subst hln
    exact sx_freturn hx hb hr hlocks hdg hi
  | lreturn =>
    have hln : len = 1 := by rcases hln with h9 | h9; exact absurd (show (1 : Nat) = 0 from h9) (by decide); exact h9
    subst hln
    exact sx_lreturn hx hb hr hlocks hdg hi
  | return_ =>
    have hln : len = 1 := by rcases hln with h9 | h9; exact absurd (show (1 : Nat) = 0 from h9) (by decide); exact h9
    subst hln
    exact sx_return hx hb hr hlocks hdg hi
  | invokespecial i =>
    have hln : len = 3 := by rcases hln with h9 | h9; exact absurd (show (3 : Nat) = 0 from h9) (by decide); exact h9
    subst hln
    obtain ⟨h1, h0, h2⟩ := hi
    obtain ⟨g1, g0⟩ := hk
    by_cases hq : qc = 1
    · obtain ⟨k, r, e1, hr4, hd, hK⟩ := h1 hq
      obtain ⟨w1, w2, w3⟩ := g1 hq
      exact sx_objinit hx hb hml2 hown w1 w2 w3 hRf hRl hdg ⟨k, r, e1, hr4, hd, hK hlen⟩
    · obtain ⟨as, k, r, rfl, hn, hr4, h', hcall, hK⟩ := h0 hq
      obtain ⟨d', M', hd', hP, hMet⟩ := hC _ _ _ _ _ hcall
      obtain ⟨⟨w1, w2, w3⟩, w4, w5, w6, w7, w8, w9⟩ := g0 hq M' hP
      subst hd'
      rcases w9 with ⟨-, w9⟩ | ⟨-, host, w9⟩
      · exact sx_callI hx hb hml2 hown hts hG hA hAm hAs hRc hRs hRf hRl w1 w2 w7 w3 w4 w5 w6 w9 w8 hdg hn hr4 hMet (hK hlen)
      · exact sx_callIN hx hb hml2 hown hts hG hA hAm hAs hRc hRs hRf hRl w1 w2 w7 w3 w4 w5 w6 w9 w8 hdg hn hr4 hMet (hK hlen)
  | invokevirtual i =>
    have hln : len = 3 := by rcases hln with h9 | h9; exact absurd (show (3 : Nat) = 0 from h9) (by decide); exact h9
    subst hln
    obtain ⟨h0, h1, h2, h3⟩ := hi
    obtain ⟨g0, g1, g2⟩ := hk
    match qc, h0, h1, h2, h3, g0, g1, g2 with
    | 0, h0, _, _, _, g0, _, _ =>
      obtain ⟨as, k, r, fs, rfl, hn, h7, hget, hr4, o, h', hcall, hbk⟩ := h0 rfl
      obtain ⟨d', M', hd', hP, hMet⟩ := hC _ _ _ _ _ hcall
      obtain ⟨⟨w1, w2, w3⟩, w4, w5, w6, w7, w8, w9⟩ := g0 rfl M' hP
      subst hd'
      rcases o with v | ex
      · exact sx_callV hx hb hml2 hown hts hG hA hAm hAs hRc hRs hRf hRl w1 w2 w6 w3 h7 w5 w4 w7 w8 w9 hdg hn hget hr4 hMet (hbk hlen)
      · obtain ⟨q0, hf, hK⟩ := hbk
        have hq0 : q0.2.2.2.2 = ex := by have := List.find?_some hf; simp only [Bool.and_eq_true, decide_eq_true_eq] at this; exact this.2
        exact sx_callVX hx hb hml2 hown hts hG hA hAm hAs hRc hRs hRf hRl w1 w2 w6 w3 h7 w5 w4 w7 w8 w9 hdg htab hhl hnc hca (by rw [← hq0]; exact (hhl q0 (List.mem_of_find?_eq_some hf)).2.2) hn hget hr4 hMet hf (hK hlen)
    | 1, _, h1, _, _, _, g1, _ =>
      obtain ⟨i', r, e1, hr4, h13, hd, hK⟩ := h1 rfl
      exact hS1 i ls st pq h hlen hdg (g1 rfl) ⟨i', r, e1, hr4, h13, hd, hK hlen⟩
    | 2, _, _, h2, _, _, _, g2 =>
      obtain ⟨i', j, r, x, e1, hr4, h13, hd, h4, h5, hK⟩ := h2 rfl
      exact hS2 i ls st pq h hlen hdg (g2 rfl) ⟨i', j, r, x, e1, hr4, h13, hd, h4, h5, hK hlen⟩
  | invokestatic i =>
    have hln : len = 3 := by rcases hln with h9 | h9; exact absurd (show (3 : Nat) = 0 from h9) (by decide); exact h9
    subst hln
    obtain ⟨h0, h1, h2, h3, h4⟩ := hi
    obtain ⟨g0, g1, g2⟩ := hk
    by_cases hq : qc = 0 ∨ 4 ≤ qc
    · obtain ⟨as, r, rfl, hn, hr4, v, h', hcall, hK⟩ := h0 hq
      obtain ⟨d', M', hd', hP, hMet⟩ := hC _ _ _ _ _ hcall
      obtain ⟨⟨w1, w2, w3⟩, w4, w5, w6⟩ := g0 hq M' hP
      subst hd'
      rcases w6 with ⟨-, w6, w7⟩ | ⟨-, w6, host, w7⟩ | ⟨-, w6, w7⟩
      · exact sx_callS hx hb hml2 hown hts hG hA hAm hAs hRc hRs hRf hRl w1 w2 w4 w3 w6 w7 w5 hdg hn hr4 hMet (hK hlen)
      · exact sx_callSN hx hb hml2 hown hts hG hA hAm hAs hRc hRs hRf hRl w1 w2 w4 w3 w6 w7 w5 hdg hn hr4 hMet (hK hlen)
      · exact sx_callSW hx hb hml2 hown hts hG hA hAm hAs hRc hRs hRf hRl w1 w2 w4 w3 w6 w7 w5 hdg hn hr4 hMet (hK hlen)
    · match qc, hq, h1, h2, h3, g1, g2 with
      | 1, _, h1, _, _, g1, _ =>
        obtain ⟨x, y, r, e1, hr4, hd, hK⟩ := h1 rfl
        obtain ⟨w1, w2, w3, w4⟩ := g1 rfl
        exact sx_max hx hb hml2 hown w1 w2 w3 w4 hRc hRs hRf hRl hdg ⟨x, y, r, e1, hr4, hd, hK hlen⟩
      | 2, _, _, h2, _, _, g2 =>
        obtain ⟨k0, k1, n, f, n1, g, e1, hd, a1, a2, a3, a4, a5, hK⟩ := h2 rfl
        obtain ⟨w1, w2, w3, w4⟩ := g2 (Or.inl rfl)
        exact sx_copyi hx hb hml2 hown w1 w2 w3 w4 hRf hRl hdg ⟨k0, k1, n, f, n1, g, e1, hd, a1, a2, a3, a4, a5, hK hlen⟩
      | 3, _, _, _, h3, _, g2 =>
        obtain ⟨k0, k1, n, f, n1, g, e1, hd, a1, a2, a3, a4, a5, hK⟩ := h3 rfl
        obtain ⟨w1, w2, w3, w4⟩ := g2 (Or.inr rfl)
        exact sx_copyf hx hb hml2 hown w1 w2 w3 w4 hRf hRl hdg ⟨k0, k1, n, f, n1, g, e1, hd, a1, a2, a3, a4, a5, hK hlen⟩
      | 0, hq, _, _, _, _, _ => exact absurd (Or.inl rfl) hq
      | q + 4, hq, _, _, _, _, _ => exact absurd (Or.inr (by omega)) hq
  | _ => exact absurd hi id
end SX9
