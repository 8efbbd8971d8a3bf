/-! ===== THE PURE MACHINE IS SOUND: instructions that touch no cell (written by wip/whole/gen_sx1.py) ===== -/
theorem i32_R (a : Int32) : inR a.toInt := ⟨by have := Int32.le_toInt a; simpa using this, by have := Int32.toInt_lt a; omega⟩
theorem i64_R (a : Int64) : inL a.toInt := ⟨by have := Int64.le_toInt a; simpa using this, by have := Int64.toInt_lt a; omega⟩
theorem bm32 {x : Int} (h : inR x) : x.bmod (2 ^ 32) = x := by
  obtain ⟨h1, h2⟩ := h
  rw [Int.bmod_def]
  split <;> omega
theorem bm64 {x : Int} (h : inL x) : x.bmod (2 ^ 64) = x := by
  obtain ⟨h1, h2⟩ := h
  rw [Int.bmod_def]
  split <;> omega
theorem i32_add {a b : Int32} (h : inR (a.toInt + b.toInt)) : (a + b).toInt = a.toInt + b.toInt := by rw [Int32.toInt_add]; exact bm32 h
theorem i32_sub {a b : Int32} (h : inR (a.toInt - b.toInt)) : (a - b).toInt = a.toInt - b.toInt := by rw [Int32.toInt_sub]; exact bm32 h
theorem i32_mul {a b : Int32} (h : inR (a.toInt * b.toInt)) : (a * b).toInt = a.toInt * b.toInt := by rw [Int32.toInt_mul]; exact bm32 h
theorem i64_add {a b : Int64} (h : inL (a.toInt + b.toInt)) : (a + b).toInt = a.toInt + b.toInt := by rw [Int64.toInt_add]; exact bm64 h
theorem i64_sub {a b : Int64} (h : inL (a.toInt - b.toInt)) : (a - b).toInt = a.toInt - b.toInt := by rw [Int64.toInt_sub]; exact bm64 h
theorem i64_mul {a b : Int64} (h : inL (a.toInt * b.toInt)) : (a * b).toInt = a.toInt * b.toInt := by rw [Int64.toInt_mul]; exact bm64 h
theorem i32_of {n : Int} (h : inR n) : (Int32.ofInt n).toInt = n := by rw [Int32.toInt_ofInt]; exact bm32 h
theorem i64_of {n : Int} (h : inL n) : (Int64.ofInt n).toInt = n := by rw [Int64.toInt_ofInt]; exact bm64 h
theorem i32_back (z : Int32) : Int32.ofInt z.toInt = z := Int32.toInt_inj.mp (i32_of (i32_R z))
theorem i64_back (z : Int64) : Int64.ofInt z.toInt = z := Int64.toInt_inj.mp (i64_of (i64_R z))
theorem i8_of {n : Int} (h : -128 ≤ n ∧ n ≤ 127) : (Int8.ofInt n).toInt32.toInt = n := by
  obtain ⟨h1, h2⟩ := h
  rw [Int8.toInt_toInt32, Int8.toInt_ofInt, Int.bmod_def, show (Int8.size : Nat) = 256 from rfl]
  split <;> omega
theorem i16_of {n : Int} (h : -32768 ≤ n ∧ n ≤ 32767) : (Int16.ofInt n).toInt32.toInt = n := by
  obtain ⟨h1, h2⟩ := h
  rw [Int16.toInt_toInt32, Int16.toInt_ofInt, Int.bmod_def, show (Int16.size : Nat) = 65536 from rfl]
  split <;> omega
def pm_used (h : pH) : Nat := h.1.length + h.2
def pm_size : pC → Nat
  | .inl q => q.2.1
  | .inr q => pm_N q.1
def pm_slots (h : pH) : Nat := (h.1.map pm_size).sum + 6 * h.2
/-- the machine beside the pure machine, at a point of a method's walk -/
def pm_St (D : va_G) (V : Nat → Nat) (A : Nat → Prop) (s : State) (ad0 : List Nat) (u0 v0 : Nat) (ls : List (Option pV)) (st : List pV) (h : pH) (H : Heap) (locs : List Loc) (cells slots : Nat) (lsM : Array Slot) (stM : List Value) : Prop :=
  ∃ (ws : va_W) (tys : List (ClassId × FieldType)) (ext : List Nat), va_K D vwCl tys s ∧ va_P D vwCl ws H ∧ va_D A ws ∧ va_S A s.heap H locs ∧ pm_w V tys h.1 ws ∧ ws.map Prod.fst = ad0 ++ ext ∧ pm_L V (ws.map Prod.fst) ls lsM ∧ pm_vs V (ws.map Prod.fst) st stM ∧ cells + u0 = pm_used h ∧ slots + v0 = pm_slots h
/-- from here on the machine comes to Q -/
def pm_X (p : Program) (l : Launch) (e : Env) (R : Room) (s : State) (m : MethodId) (args : Array Value) (below : List Frame) (meth : Method) (c : Code) (Q : State → Prop) (D : va_G) (V : Nat → Nat) (A : Nat → Prop) (ad0 : List Nat) (u0 v0 : Nat) (hF : pH) (ls : List (Option pV)) (st : List pV) (pc : Nat) (h : pH) : Prop :=
  (pm_used h ≤ pm_used hF ∧ pm_slots h ≤ pm_slots hF) ∧ ∀ (H : Heap) (locs : List Loc) (cells slots : Nat) (lsM : Array Slot) (stM : List Value), pm_St D V A s ad0 u0 v0 ls st h H locs cells slots lsM stM → W p l e R s m args below meth c H locs cells slots Q (F0 m pc lsM stM)
section SX1
variable {p : Program} {l : Launch} {e : Env} {R : Room} {s : State} {m : MethodId} {args : Array Value} {below : List Frame} {meth : Method} {c : Code} {Q : State → Prop} {D : va_G} {V : Nat → Nat} {A : Nat → Prop} {ad0 : List Nat} {u0 v0 : Nat} {hF : pH} {ls : List (Option pV)} {st : List pV} {pc : Nat} {h : pH} {cc : ByteArray}
theorem sx_iconst (hx : p.tables.exec = Jvm.exec) (hb : c.code = cc) {n : Int} (hdg : decode cc pc = .ok (.iconst n, 1)) (q : inR n ∧ pm_X p l e R s m args below meth c Q D V A ad0 u0 v0 hF ls (vI n :: st) (pc + 1) h) : pm_X p l e R s m args below meth c Q D V A ad0 u0 v0 hF ls st pc h := by
  obtain ⟨hc, hK⟩ := q
  refine ⟨hK.1, fun H locs cells slots lsM stM hS => ?_⟩
  obtain ⟨ws, tys, ext, k1, k2, k3, k4, k5, k6, k7, k8, k9, k10⟩ := hS
  exact lv_iconst hx hb hdg rfl (hK.2 _ _ _ _ _ _ ⟨ws, tys, ext, k1, k2, k3, k4, k5, k6, k7, ⟨_, _, rfl, ⟨_, rfl, i32_of hc⟩, k8⟩, k9, k10⟩)
theorem sx_bipush (hx : p.tables.exec = Jvm.exec) (hb : c.code = cc) {n : Int} (hdg : decode cc pc = .ok (.bipush n, 2)) (q : (-128 ≤ n ∧ n ≤ 127) ∧ pm_X p l e R s m args below meth c Q D V A ad0 u0 v0 hF ls (vI n :: st) (pc + 2) h) : pm_X p l e R s m args below meth c Q D V A ad0 u0 v0 hF ls st pc h := by
  obtain ⟨hc, hK⟩ := q
  refine ⟨hK.1, fun H locs cells slots lsM stM hS => ?_⟩
  obtain ⟨ws, tys, ext, k1, k2, k3, k4, k5, k6, k7, k8, k9, k10⟩ := hS
  exact lv_bipush hx hb hdg rfl (hK.2 _ _ _ _ _ _ ⟨ws, tys, ext, k1, k2, k3, k4, k5, k6, k7, ⟨_, _, rfl, ⟨_, rfl, i8_of hc⟩, k8⟩, k9, k10⟩)
theorem sx_sipush (hx : p.tables.exec = Jvm.exec) (hb : c.code = cc) {n : Int} (hdg : decode cc pc = .ok (.sipush n, 3)) (q : (-32768 ≤ n ∧ n ≤ 32767) ∧ pm_X p l e R s m args below meth c Q D V A ad0 u0 v0 hF ls (vI n :: st) (pc + 3) h) : pm_X p l e R s m args below meth c Q D V A ad0 u0 v0 hF ls st pc h := by
  obtain ⟨hc, hK⟩ := q
  refine ⟨hK.1, fun H locs cells slots lsM stM hS => ?_⟩
  obtain ⟨ws, tys, ext, k1, k2, k3, k4, k5, k6, k7, k8, k9, k10⟩ := hS
  exact lv_sipush hx hb hdg rfl (hK.2 _ _ _ _ _ _ ⟨ws, tys, ext, k1, k2, k3, k4, k5, k6, k7, ⟨_, _, rfl, ⟨_, rfl, i16_of hc⟩, k8⟩, k9, k10⟩)
theorem sx_lconst (hx : p.tables.exec = Jvm.exec) (hb : c.code = cc) {n : Fin 2} (hdg : decode cc pc = .ok (.lconst n, 1)) (q : pm_X p l e R s m args below meth c Q D V A ad0 u0 v0 hF ls (vL (n.val : Int) :: st) (pc + 1) h) : pm_X p l e R s m args below meth c Q D V A ad0 u0 v0 hF ls st pc h := by
  have hK := q
  refine ⟨hK.1, fun H locs cells slots lsM stM hS => ?_⟩
  obtain ⟨ws, tys, ext, k1, k2, k3, k4, k5, k6, k7, k8, k9, k10⟩ := hS
  exact lv_lconst hx hb hdg rfl (hK.2 _ _ _ _ _ _ ⟨ws, tys, ext, k1, k2, k3, k4, k5, k6, k7, ⟨_, _, rfl, ⟨_, rfl, by revert n; intro n; match n with | 0 => intros; rfl | 1 => intros; rfl⟩, k8⟩, k9, k10⟩)
theorem sx_fconst0 (hx : p.tables.exec = Jvm.exec) (hb : c.code = cc) (hdg : decode cc pc = .ok (.fconst 0, 1)) (q : pm_X p l e R s m args below meth c Q D V A ad0 u0 v0 hF ls (vF FP.fconst0 :: st) (pc + 1) h) : pm_X p l e R s m args below meth c Q D V A ad0 u0 v0 hF ls st pc h := by
  have hK := q
  refine ⟨hK.1, fun H locs cells slots lsM stM hS => ?_⟩
  obtain ⟨ws, tys, ext, k1, k2, k3, k4, k5, k6, k7, k8, k9, k10⟩ := hS
  exact lv_fconst0 hx hb hdg (hK.2 _ _ _ _ _ _ ⟨ws, tys, ext, k1, k2, k3, k4, k5, k6, k7, ⟨_, _, rfl, rfl, k8⟩, k9, k10⟩)
theorem sx_fconst1 (hx : p.tables.exec = Jvm.exec) (hb : c.code = cc) (hdg : decode cc pc = .ok (.fconst 1, 1)) (q : pm_X p l e R s m args below meth c Q D V A ad0 u0 v0 hF ls (vF FP.fconst1 :: st) (pc + 1) h) : pm_X p l e R s m args below meth c Q D V A ad0 u0 v0 hF ls st pc h := by
  have hK := q
  refine ⟨hK.1, fun H locs cells slots lsM stM hS => ?_⟩
  obtain ⟨ws, tys, ext, k1, k2, k3, k4, k5, k6, k7, k8, k9, k10⟩ := hS
  exact lv_fconst1 hx hb hdg (hK.2 _ _ _ _ _ _ ⟨ws, tys, ext, k1, k2, k3, k4, k5, k6, k7, ⟨_, _, rfl, rfl, k8⟩, k9, k10⟩)
theorem sx_fconst2 (hx : p.tables.exec = Jvm.exec) (hb : c.code = cc) (hdg : decode cc pc = .ok (.fconst 2, 1)) (q : pm_X p l e R s m args below meth c Q D V A ad0 u0 v0 hF ls (vF FP.fconst2 :: st) (pc + 1) h) : pm_X p l e R s m args below meth c Q D V A ad0 u0 v0 hF ls st pc h := by
  have hK := q
  refine ⟨hK.1, fun H locs cells slots lsM stM hS => ?_⟩
  obtain ⟨ws, tys, ext, k1, k2, k3, k4, k5, k6, k7, k8, k9, k10⟩ := hS
  exact lv_fconst2 hx hb hdg (hK.2 _ _ _ _ _ _ ⟨ws, tys, ext, k1, k2, k3, k4, k5, k6, k7, ⟨_, _, rfl, rfl, k8⟩, k9, k10⟩)
theorem sx_ldcf (hx : p.tables.exec = Jvm.exec) (hb : c.code = cc) {own : String} {i : Nat} {v : UInt32} (hown : s.vm.findClass own = some m.cls) (hw : (Jvm.Cond.constantFloat own i v).before args s = true) (hdg : decode cc pc = .ok (.ldc i, 2)) (q : pm_X p l e R s m args below meth c Q D V A ad0 u0 v0 hF ls (vF v :: st) (pc + 2) h) : pm_X p l e R s m args below meth c Q D V A ad0 u0 v0 hF ls st pc h := by
  have hK := q
  refine ⟨hK.1, fun H locs cells slots lsM stM hS => ?_⟩
  obtain ⟨ws, tys, ext, k1, k2, k3, k4, k5, k6, k7, k8, k9, k10⟩ := hS
  exact lv_ldcf hx hb hown hw hdg (hK.2 _ _ _ _ _ _ ⟨ws, tys, ext, k1, k2, k3, k4, k5, k6, k7, ⟨_, _, rfl, rfl, k8⟩, k9, k10⟩)
theorem sx_ldc2 (hx : p.tables.exec = Jvm.exec) (hb : c.code = cc) {own : String} {i : Nat} {v : Int} (hown : s.vm.findClass own = some m.cls) (hw : (Jvm.Cond.constantLong own i (Int64.ofInt v)).before args s = true) (hdg : decode cc pc = .ok (.ldc2_w i, 3)) (q : inL v ∧ pm_X p l e R s m args below meth c Q D V A ad0 u0 v0 hF ls (vL v :: st) (pc + 3) h) : pm_X p l e R s m args below meth c Q D V A ad0 u0 v0 hF ls st pc h := by
  obtain ⟨hc, hK⟩ := q
  refine ⟨hK.1, fun H locs cells slots lsM stM hS => ?_⟩
  obtain ⟨ws, tys, ext, k1, k2, k3, k4, k5, k6, k7, k8, k9, k10⟩ := hS
  exact lv_ldc2 hx hb hown hw hdg (hK.2 _ _ _ _ _ _ ⟨ws, tys, ext, k1, k2, k3, k4, k5, k6, k7, ⟨_, _, rfl, ⟨_, rfl, i64_of hc⟩, k8⟩, k9, k10⟩)
theorem sx_iload (hx : p.tables.exec = Jvm.exec) (hb : c.code = cc) {i : Nat} (hdg : decode cc pc = .ok (.iload i, 2)) (q : ∃ x, ls[i]? = some (some (vI x)) ∧ pm_X p l e R s m args below meth c Q D V A ad0 u0 v0 hF ls (vI x :: st) (pc + 2) h) : pm_X p l e R s m args below meth c Q D V A ad0 u0 v0 hF ls st pc h := by
  obtain ⟨x, hg, hK⟩ := q
  refine ⟨hK.1, fun H locs cells slots lsM stM hS => ?_⟩
  obtain ⟨ws, tys, ext, k1, k2, k3, k4, k5, k6, k7, k8, k9, k10⟩ := hS
  obtain ⟨w, hw, hv⟩ := k7.2.2 _ _ hg
  have hv0 := hv
  obtain ⟨z, rfl, ez⟩ := hv
  exact lv_iload hx hb hdg hw (hK.2 _ _ _ _ _ _ ⟨ws, tys, ext, k1, k2, k3, k4, k5, k6, k7, ⟨_, _, rfl, hv0, k8⟩, k9, k10⟩)
theorem sx_iload_n (hx : p.tables.exec = Jvm.exec) (hb : c.code = cc) {i : Fin 4} (hdg : decode cc pc = .ok (.iload_n i, 1)) (q : ∃ x, ls[i.val]? = some (some (vI x)) ∧ pm_X p l e R s m args below meth c Q D V A ad0 u0 v0 hF ls (vI x :: st) (pc + 1) h) : pm_X p l e R s m args below meth c Q D V A ad0 u0 v0 hF ls st pc h := by
  obtain ⟨x, hg, hK⟩ := q
  refine ⟨hK.1, fun H locs cells slots lsM stM hS => ?_⟩
  obtain ⟨ws, tys, ext, k1, k2, k3, k4, k5, k6, k7, k8, k9, k10⟩ := hS
  obtain ⟨w, hw, hv⟩ := k7.2.2 _ _ hg
  have hv0 := hv
  obtain ⟨z, rfl, ez⟩ := hv
  exact lv_iload_n hx hb hdg rfl hw (hK.2 _ _ _ _ _ _ ⟨ws, tys, ext, k1, k2, k3, k4, k5, k6, k7, ⟨_, _, rfl, hv0, k8⟩, k9, k10⟩)
theorem sx_fload (hx : p.tables.exec = Jvm.exec) (hb : c.code = cc) {i : Nat} (hdg : decode cc pc = .ok (.fload i, 2)) (q : ∃ x, ls[i]? = some (some (vF x)) ∧ pm_X p l e R s m args below meth c Q D V A ad0 u0 v0 hF ls (vF x :: st) (pc + 2) h) : pm_X p l e R s m args below meth c Q D V A ad0 u0 v0 hF ls st pc h := by
  obtain ⟨x, hg, hK⟩ := q
  refine ⟨hK.1, fun H locs cells slots lsM stM hS => ?_⟩
  obtain ⟨ws, tys, ext, k1, k2, k3, k4, k5, k6, k7, k8, k9, k10⟩ := hS
  obtain ⟨w, hw, hv⟩ := k7.2.2 _ _ hg
  have hv0 := hv
  obtain rfl := hv
  exact lv_fload hx hb hdg hw (hK.2 _ _ _ _ _ _ ⟨ws, tys, ext, k1, k2, k3, k4, k5, k6, k7, ⟨_, _, rfl, hv0, k8⟩, k9, k10⟩)
theorem sx_fload_n (hx : p.tables.exec = Jvm.exec) (hb : c.code = cc) {i : Fin 4} (hdg : decode cc pc = .ok (.fload_n i, 1)) (q : ∃ x, ls[i.val]? = some (some (vF x)) ∧ pm_X p l e R s m args below meth c Q D V A ad0 u0 v0 hF ls (vF x :: st) (pc + 1) h) : pm_X p l e R s m args below meth c Q D V A ad0 u0 v0 hF ls st pc h := by
  obtain ⟨x, hg, hK⟩ := q
  refine ⟨hK.1, fun H locs cells slots lsM stM hS => ?_⟩
  obtain ⟨ws, tys, ext, k1, k2, k3, k4, k5, k6, k7, k8, k9, k10⟩ := hS
  obtain ⟨w, hw, hv⟩ := k7.2.2 _ _ hg
  have hv0 := hv
  obtain rfl := hv
  exact lv_fload_n hx hb hdg rfl hw (hK.2 _ _ _ _ _ _ ⟨ws, tys, ext, k1, k2, k3, k4, k5, k6, k7, ⟨_, _, rfl, hv0, k8⟩, k9, k10⟩)
theorem sx_lload (hx : p.tables.exec = Jvm.exec) (hb : c.code = cc) {i : Nat} (hdg : decode cc pc = .ok (.lload i, 2)) (q : ∃ x, ls[i]? = some (some (vL x)) ∧ pm_X p l e R s m args below meth c Q D V A ad0 u0 v0 hF ls (vL x :: st) (pc + 2) h) : pm_X p l e R s m args below meth c Q D V A ad0 u0 v0 hF ls st pc h := by
  obtain ⟨x, hg, hK⟩ := q
  refine ⟨hK.1, fun H locs cells slots lsM stM hS => ?_⟩
  obtain ⟨ws, tys, ext, k1, k2, k3, k4, k5, k6, k7, k8, k9, k10⟩ := hS
  obtain ⟨w, hw, hv⟩ := k7.2.2 _ _ hg
  have hv0 := hv
  obtain ⟨z, rfl, ez⟩ := hv
  exact lv_lload hx hb hdg hw (hK.2 _ _ _ _ _ _ ⟨ws, tys, ext, k1, k2, k3, k4, k5, k6, k7, ⟨_, _, rfl, hv0, k8⟩, k9, k10⟩)
theorem sx_lload_n (hx : p.tables.exec = Jvm.exec) (hb : c.code = cc) {i : Fin 4} (hdg : decode cc pc = .ok (.lload_n i, 1)) (q : ∃ x, ls[i.val]? = some (some (vL x)) ∧ pm_X p l e R s m args below meth c Q D V A ad0 u0 v0 hF ls (vL x :: st) (pc + 1) h) : pm_X p l e R s m args below meth c Q D V A ad0 u0 v0 hF ls st pc h := by
  obtain ⟨x, hg, hK⟩ := q
  refine ⟨hK.1, fun H locs cells slots lsM stM hS => ?_⟩
  obtain ⟨ws, tys, ext, k1, k2, k3, k4, k5, k6, k7, k8, k9, k10⟩ := hS
  obtain ⟨w, hw, hv⟩ := k7.2.2 _ _ hg
  have hv0 := hv
  obtain ⟨z, rfl, ez⟩ := hv
  exact lv_lload_n hx hb hdg rfl hw (hK.2 _ _ _ _ _ _ ⟨ws, tys, ext, k1, k2, k3, k4, k5, k6, k7, ⟨_, _, rfl, hv0, k8⟩, k9, k10⟩)
theorem sx_dload (hx : p.tables.exec = Jvm.exec) (hb : c.code = cc) {i : Nat} (hdg : decode cc pc = .ok (.dload i, 2)) (q : ∃ x, ls[i]? = some (some (vD x)) ∧ pm_X p l e R s m args below meth c Q D V A ad0 u0 v0 hF ls (vD x :: st) (pc + 2) h) : pm_X p l e R s m args below meth c Q D V A ad0 u0 v0 hF ls st pc h := by
  obtain ⟨x, hg, hK⟩ := q
  refine ⟨hK.1, fun H locs cells slots lsM stM hS => ?_⟩
  obtain ⟨ws, tys, ext, k1, k2, k3, k4, k5, k6, k7, k8, k9, k10⟩ := hS
  obtain ⟨w, hw, hv⟩ := k7.2.2 _ _ hg
  have hv0 := hv
  obtain rfl := hv
  exact lv_dload hx hb hdg hw (hK.2 _ _ _ _ _ _ ⟨ws, tys, ext, k1, k2, k3, k4, k5, k6, k7, ⟨_, _, rfl, hv0, k8⟩, k9, k10⟩)
theorem sx_dload_n (hx : p.tables.exec = Jvm.exec) (hb : c.code = cc) {i : Fin 4} (hdg : decode cc pc = .ok (.dload_n i, 1)) (q : ∃ x, ls[i.val]? = some (some (vD x)) ∧ pm_X p l e R s m args below meth c Q D V A ad0 u0 v0 hF ls (vD x :: st) (pc + 1) h) : pm_X p l e R s m args below meth c Q D V A ad0 u0 v0 hF ls st pc h := by
  obtain ⟨x, hg, hK⟩ := q
  refine ⟨hK.1, fun H locs cells slots lsM stM hS => ?_⟩
  obtain ⟨ws, tys, ext, k1, k2, k3, k4, k5, k6, k7, k8, k9, k10⟩ := hS
  obtain ⟨w, hw, hv⟩ := k7.2.2 _ _ hg
  have hv0 := hv
  obtain rfl := hv
  exact lv_dload_n hx hb hdg rfl hw (hK.2 _ _ _ _ _ _ ⟨ws, tys, ext, k1, k2, k3, k4, k5, k6, k7, ⟨_, _, rfl, hv0, k8⟩, k9, k10⟩)
theorem pm_v_ref {ad : List Nat} {v : pV} {w : Value} (hr : ∃ k, v = vR k ∨ v = vX (k + 1)) (h : pm_v V ad v w) : ∃ a, w = .ref a := by
  obtain ⟨k, rfl | rfl⟩ := hr
  · obtain ⟨a, -, e⟩ := h
    exact ⟨a, e⟩
  · rcases k with _ | k
    · exact h
    · exact ⟨_, h⟩
theorem sx_aload (hx : p.tables.exec = Jvm.exec) (hb : c.code = cc) {i : Nat} (hdg : decode cc pc = .ok (.aload i, 2)) (q : ∃ v, ls[i]? = some (some v) ∧ (∃ k, v = vR k ∨ v = vX (k + 1)) ∧ pm_X p l e R s m args below meth c Q D V A ad0 u0 v0 hF ls (v :: st) (pc + 2) h) : pm_X p l e R s m args below meth c Q D V A ad0 u0 v0 hF ls st pc h := by
  obtain ⟨x, hg, hr, hK⟩ := q
  refine ⟨hK.1, fun H locs cells slots lsM stM hS => ?_⟩
  obtain ⟨ws, tys, ext, k1, k2, k3, k4, k5, k6, k7, k8, k9, k10⟩ := hS
  obtain ⟨w, hw, hv⟩ := k7.2.2 _ _ hg
  obtain ⟨a, rfl⟩ := pm_v_ref hr hv
  exact lv_aload hx hb hdg hw (hK.2 _ _ _ _ _ _ ⟨ws, tys, ext, k1, k2, k3, k4, k5, k6, k7, ⟨_, _, rfl, hv, k8⟩, k9, k10⟩)
theorem sx_aload_n (hx : p.tables.exec = Jvm.exec) (hb : c.code = cc) {i : Fin 4} (hdg : decode cc pc = .ok (.aload_n i, 1)) (q : ∃ v, ls[i.val]? = some (some v) ∧ (∃ k, v = vR k ∨ v = vX (k + 1)) ∧ pm_X p l e R s m args below meth c Q D V A ad0 u0 v0 hF ls (v :: st) (pc + 1) h) : pm_X p l e R s m args below meth c Q D V A ad0 u0 v0 hF ls st pc h := by
  obtain ⟨x, hg, hr, hK⟩ := q
  refine ⟨hK.1, fun H locs cells slots lsM stM hS => ?_⟩
  obtain ⟨ws, tys, ext, k1, k2, k3, k4, k5, k6, k7, k8, k9, k10⟩ := hS
  obtain ⟨w, hw, hv⟩ := k7.2.2 _ _ hg
  obtain ⟨a, rfl⟩ := pm_v_ref hr hv
  exact lv_aload_n hx hb hdg rfl hw (hK.2 _ _ _ _ _ _ ⟨ws, tys, ext, k1, k2, k3, k4, k5, k6, k7, ⟨_, _, rfl, hv, k8⟩, k9, k10⟩)
theorem sx_istore (hx : p.tables.exec = Jvm.exec) (hb : c.code = cc) {i : Nat} (hdg : decode cc pc = .ok (.istore i, 2)) (q : ∃ x r, st = vI x :: r ∧ i < ls.length ∧ pm_X p l e R s m args below meth c Q D V A ad0 u0 v0 hF (pm_st1 ls i (vI x)) r (pc + 2) h) : pm_X p l e R s m args below meth c Q D V A ad0 u0 v0 hF ls st pc h := by
  obtain ⟨x, r, rfl, hi, hK⟩ := q
  refine ⟨hK.1, fun H locs cells slots lsM stM hS => ?_⟩
  obtain ⟨ws, tys, ext, k1, k2, k3, k4, k5, k6, k7, k8, k9, k10⟩ := hS
  obtain ⟨w, r1, rfl, hv, k8⟩ := k8
  have hv0 := hv
  obtain ⟨z, rfl, ez⟩ := hv
  refine lv_istore hx hb hdg (pm_all_has k7.2.1) (by rw [k7.1]; exact hi) rfl (fun ls' h' => hK.2 _ _ _ _ _ _ ⟨ws, tys, ext, k1, k2, k3, k4, k5, k6, k7.st1 hv0 hi h', k8, k9, k10⟩)
theorem sx_istore_n (hx : p.tables.exec = Jvm.exec) (hb : c.code = cc) {i : Fin 4} (hdg : decode cc pc = .ok (.istore_n i, 1)) (q : ∃ x r, st = vI x :: r ∧ i.val < ls.length ∧ pm_X p l e R s m args below meth c Q D V A ad0 u0 v0 hF (pm_st1 ls i.val (vI x)) r (pc + 1) h) : pm_X p l e R s m args below meth c Q D V A ad0 u0 v0 hF ls st pc h := by
  obtain ⟨x, r, rfl, hi, hK⟩ := q
  refine ⟨hK.1, fun H locs cells slots lsM stM hS => ?_⟩
  obtain ⟨ws, tys, ext, k1, k2, k3, k4, k5, k6, k7, k8, k9, k10⟩ := hS
  obtain ⟨w, r1, rfl, hv, k8⟩ := k8
  have hv0 := hv
  obtain ⟨z, rfl, ez⟩ := hv
  refine lv_istore_n hx hb hdg rfl (pm_all_has k7.2.1) (by rw [k7.1]; exact hi) rfl (fun ls' h' => hK.2 _ _ _ _ _ _ ⟨ws, tys, ext, k1, k2, k3, k4, k5, k6, k7.st1 hv0 hi h', k8, k9, k10⟩)
theorem sx_fstore (hx : p.tables.exec = Jvm.exec) (hb : c.code = cc) {i : Nat} (hdg : decode cc pc = .ok (.fstore i, 2)) (q : ∃ x r, st = vF x :: r ∧ i < ls.length ∧ pm_X p l e R s m args below meth c Q D V A ad0 u0 v0 hF (pm_st1 ls i (vF x)) r (pc + 2) h) : pm_X p l e R s m args below meth c Q D V A ad0 u0 v0 hF ls st pc h := by
  obtain ⟨x, r, rfl, hi, hK⟩ := q
  refine ⟨hK.1, fun H locs cells slots lsM stM hS => ?_⟩
  obtain ⟨ws, tys, ext, k1, k2, k3, k4, k5, k6, k7, k8, k9, k10⟩ := hS
  obtain ⟨w, r1, rfl, hv, k8⟩ := k8
  have hv0 := hv
  obtain rfl := hv
  refine lv_fstore hx hb hdg (pm_all_has k7.2.1) (by rw [k7.1]; exact hi) rfl (fun ls' h' => hK.2 _ _ _ _ _ _ ⟨ws, tys, ext, k1, k2, k3, k4, k5, k6, k7.st1 hv0 hi h', k8, k9, k10⟩)
theorem sx_fstore_n (hx : p.tables.exec = Jvm.exec) (hb : c.code = cc) {i : Fin 4} (hdg : decode cc pc = .ok (.fstore_n i, 1)) (q : ∃ x r, st = vF x :: r ∧ i.val < ls.length ∧ pm_X p l e R s m args below meth c Q D V A ad0 u0 v0 hF (pm_st1 ls i.val (vF x)) r (pc + 1) h) : pm_X p l e R s m args below meth c Q D V A ad0 u0 v0 hF ls st pc h := by
  obtain ⟨x, r, rfl, hi, hK⟩ := q
  refine ⟨hK.1, fun H locs cells slots lsM stM hS => ?_⟩
  obtain ⟨ws, tys, ext, k1, k2, k3, k4, k5, k6, k7, k8, k9, k10⟩ := hS
  obtain ⟨w, r1, rfl, hv, k8⟩ := k8
  have hv0 := hv
  obtain rfl := hv
  refine lv_fstore_n hx hb hdg rfl (pm_all_has k7.2.1) (by rw [k7.1]; exact hi) rfl (fun ls' h' => hK.2 _ _ _ _ _ _ ⟨ws, tys, ext, k1, k2, k3, k4, k5, k6, k7.st1 hv0 hi h', k8, k9, k10⟩)
theorem sx_lstore (hx : p.tables.exec = Jvm.exec) (hb : c.code = cc) {i : Nat} (hdg : decode cc pc = .ok (.lstore i, 2)) (q : ∃ x r, st = vL x :: r ∧ i + 1 < ls.length ∧ pm_X p l e R s m args below meth c Q D V A ad0 u0 v0 hF (pm_st2 ls i (vL x)) r (pc + 2) h) : pm_X p l e R s m args below meth c Q D V A ad0 u0 v0 hF ls st pc h := by
  obtain ⟨x, r, rfl, hi, hK⟩ := q
  refine ⟨hK.1, fun H locs cells slots lsM stM hS => ?_⟩
  obtain ⟨ws, tys, ext, k1, k2, k3, k4, k5, k6, k7, k8, k9, k10⟩ := hS
  obtain ⟨w, r1, rfl, hv, k8⟩ := k8
  have hv0 := hv
  obtain ⟨z, rfl, ez⟩ := hv
  refine lv_lstore hx hb hdg (pm_all_has k7.2.1) (by rw [k7.1]; exact hi) rfl (fun ls' h' => hK.2 _ _ _ _ _ _ ⟨ws, tys, ext, k1, k2, k3, k4, k5, k6, k7.st2 hv0 hi h', k8, k9, k10⟩)
theorem sx_lstore_n (hx : p.tables.exec = Jvm.exec) (hb : c.code = cc) {i : Fin 4} (hdg : decode cc pc = .ok (.lstore_n i, 1)) (q : ∃ x r, st = vL x :: r ∧ i.val + 1 < ls.length ∧ pm_X p l e R s m args below meth c Q D V A ad0 u0 v0 hF (pm_st2 ls i.val (vL x)) r (pc + 1) h) : pm_X p l e R s m args below meth c Q D V A ad0 u0 v0 hF ls st pc h := by
  obtain ⟨x, r, rfl, hi, hK⟩ := q
  refine ⟨hK.1, fun H locs cells slots lsM stM hS => ?_⟩
  obtain ⟨ws, tys, ext, k1, k2, k3, k4, k5, k6, k7, k8, k9, k10⟩ := hS
  obtain ⟨w, r1, rfl, hv, k8⟩ := k8
  have hv0 := hv
  obtain ⟨z, rfl, ez⟩ := hv
  refine lv_lstore_n hx hb hdg rfl (pm_all_has k7.2.1) (by rw [k7.1]; exact hi) rfl (fun ls' h' => hK.2 _ _ _ _ _ _ ⟨ws, tys, ext, k1, k2, k3, k4, k5, k6, k7.st2 hv0 hi h', k8, k9, k10⟩)
theorem sx_dstore (hx : p.tables.exec = Jvm.exec) (hb : c.code = cc) {i : Nat} (hdg : decode cc pc = .ok (.dstore i, 2)) (q : ∃ x r, st = vD x :: r ∧ i + 1 < ls.length ∧ pm_X p l e R s m args below meth c Q D V A ad0 u0 v0 hF (pm_st2 ls i (vD x)) r (pc + 2) h) : pm_X p l e R s m args below meth c Q D V A ad0 u0 v0 hF ls st pc h := by
  obtain ⟨x, r, rfl, hi, hK⟩ := q
  refine ⟨hK.1, fun H locs cells slots lsM stM hS => ?_⟩
  obtain ⟨ws, tys, ext, k1, k2, k3, k4, k5, k6, k7, k8, k9, k10⟩ := hS
  obtain ⟨w, r1, rfl, hv, k8⟩ := k8
  have hv0 := hv
  obtain rfl := hv
  refine lv_dstore hx hb hdg (pm_all_has k7.2.1) (by rw [k7.1]; exact hi) rfl (fun ls' h' => hK.2 _ _ _ _ _ _ ⟨ws, tys, ext, k1, k2, k3, k4, k5, k6, k7.st2 hv0 hi h', k8, k9, k10⟩)
theorem sx_dstore_n (hx : p.tables.exec = Jvm.exec) (hb : c.code = cc) {i : Fin 4} (hdg : decode cc pc = .ok (.dstore_n i, 1)) (q : ∃ x r, st = vD x :: r ∧ i.val + 1 < ls.length ∧ pm_X p l e R s m args below meth c Q D V A ad0 u0 v0 hF (pm_st2 ls i.val (vD x)) r (pc + 1) h) : pm_X p l e R s m args below meth c Q D V A ad0 u0 v0 hF ls st pc h := by
  obtain ⟨x, r, rfl, hi, hK⟩ := q
  refine ⟨hK.1, fun H locs cells slots lsM stM hS => ?_⟩
  obtain ⟨ws, tys, ext, k1, k2, k3, k4, k5, k6, k7, k8, k9, k10⟩ := hS
  obtain ⟨w, r1, rfl, hv, k8⟩ := k8
  have hv0 := hv
  obtain rfl := hv
  refine lv_dstore_n hx hb hdg rfl (pm_all_has k7.2.1) (by rw [k7.1]; exact hi) rfl (fun ls' h' => hK.2 _ _ _ _ _ _ ⟨ws, tys, ext, k1, k2, k3, k4, k5, k6, k7.st2 hv0 hi h', k8, k9, k10⟩)
theorem sx_astore (hx : p.tables.exec = Jvm.exec) (hb : c.code = cc) {i : Nat} (hdg : decode cc pc = .ok (.astore i, 2)) (q : ∃ v r, st = v :: r ∧ (∃ k, v = vR k ∨ v = vX (k + 1)) ∧ i < ls.length ∧ pm_X p l e R s m args below meth c Q D V A ad0 u0 v0 hF (pm_st1 ls i v) r (pc + 2) h) : pm_X p l e R s m args below meth c Q D V A ad0 u0 v0 hF ls st pc h := by
  obtain ⟨x, r, rfl, hr, hi, hK⟩ := q
  refine ⟨hK.1, fun H locs cells slots lsM stM hS => ?_⟩
  obtain ⟨ws, tys, ext, k1, k2, k3, k4, k5, k6, k7, k8, k9, k10⟩ := hS
  obtain ⟨w, r1, rfl, hv, k8⟩ := k8
  obtain ⟨a, rfl⟩ := pm_v_ref hr hv
  refine lv_astore hx hb hdg (pm_all_has k7.2.1) (by rw [k7.1]; exact hi) rfl (fun ls' h' => hK.2 _ _ _ _ _ _ ⟨ws, tys, ext, k1, k2, k3, k4, k5, k6, k7.st1 hv hi h', k8, k9, k10⟩)
theorem sx_astore_n (hx : p.tables.exec = Jvm.exec) (hb : c.code = cc) {i : Fin 4} (hdg : decode cc pc = .ok (.astore_n i, 1)) (q : ∃ v r, st = v :: r ∧ (∃ k, v = vR k ∨ v = vX (k + 1)) ∧ i.val < ls.length ∧ pm_X p l e R s m args below meth c Q D V A ad0 u0 v0 hF (pm_st1 ls i.val v) r (pc + 1) h) : pm_X p l e R s m args below meth c Q D V A ad0 u0 v0 hF ls st pc h := by
  obtain ⟨x, r, rfl, hr, hi, hK⟩ := q
  refine ⟨hK.1, fun H locs cells slots lsM stM hS => ?_⟩
  obtain ⟨ws, tys, ext, k1, k2, k3, k4, k5, k6, k7, k8, k9, k10⟩ := hS
  obtain ⟨w, r1, rfl, hv, k8⟩ := k8
  obtain ⟨a, rfl⟩ := pm_v_ref hr hv
  refine lv_astore_n hx hb hdg rfl (pm_all_has k7.2.1) (by rw [k7.1]; exact hi) rfl (fun ls' h' => hK.2 _ _ _ _ _ _ ⟨ws, tys, ext, k1, k2, k3, k4, k5, k6, k7.st1 hv hi h', k8, k9, k10⟩)
theorem sx_iinc (hx : p.tables.exec = Jvm.exec) (hb : c.code = cc) {i : Nat} {n : Int} (hdg : decode cc pc = .ok (.iinc i n, 3)) (q : ∃ x, ls[i]? = some (some (vI x)) ∧ inR n ∧ inR (x + n) ∧ pm_X p l e R s m args below meth c Q D V A ad0 u0 v0 hF (pm_st1 ls i (vI (x + n))) st (pc + 3) h) : pm_X p l e R s m args below meth c Q D V A ad0 u0 v0 hF ls st pc h := by
  obtain ⟨x, hg, hn, hr, hK⟩ := q
  refine ⟨hK.1, fun H locs cells slots lsM stM hS => ?_⟩
  obtain ⟨ws, tys, ext, k1, k2, k3, k4, k5, k6, k7, k8, k9, k10⟩ := hS
  obtain ⟨w, hw, z, rfl, ez⟩ := k7.2.2 _ _ hg
  obtain ⟨k, hk⟩ := List.getElem?_of_mem (pm_all_mem.mpr hw)
  have hi : i < ls.length := (List.getElem?_eq_some_iff.mp hg).1
  have hz : (z + Int32.ofInt n).toInt = x + n := by rw [i32_add (by rw [i32_of hn, ez]; exact hr), i32_of hn, ez]
  refine lv_iinc hx hb hdg (pm_all_has k7.2.1) hk rfl (by rw [k7.1]; exact hi) rfl (fun ls' h' => hK.2 _ _ _ _ _ _ ⟨ws, tys, ext, k1, k2, k3, k4, k5, k6, k7.st1 ⟨_, rfl, hz⟩ hi h', k8, k9, k10⟩)
theorem sx_dup (hx : p.tables.exec = Jvm.exec) (hb : c.code = cc) (hdg : decode cc pc = .ok (.dup, 1)) (q : ∃ v r, st = v :: r ∧ pm_cat2 v = false ∧ pm_X p l e R s m args below meth c Q D V A ad0 u0 v0 hF ls (v :: v :: r) (pc + 1) h) : pm_X p l e R s m args below meth c Q D V A ad0 u0 v0 hF ls st pc h := by
  obtain ⟨x, r, rfl, hc, hK⟩ := q
  refine ⟨hK.1, fun H locs cells slots lsM stM hS => ?_⟩
  obtain ⟨ws, tys, ext, k1, k2, k3, k4, k5, k6, k7, k8, k9, k10⟩ := hS
  obtain ⟨w, r1, rfl, hv, k8⟩ := k8
  exact lv_dup hx hb hdg (by rw [pm_cat_v hv, hc]; rfl) (hK.2 _ _ _ _ _ _ ⟨ws, tys, ext, k1, k2, k3, k4, k5, k6, k7, ⟨_, _, rfl, hv, ⟨_, _, rfl, hv, k8⟩⟩, k9, k10⟩)
theorem sx_iadd (hx : p.tables.exec = Jvm.exec) (hb : c.code = cc) (hdg : decode cc pc = .ok (.iadd, 1)) (q : ∃ x y r, st = vI y :: vI x :: r ∧ inR (x + y) ∧ pm_X p l e R s m args below meth c Q D V A ad0 u0 v0 hF ls (vI (x + y) :: r) (pc + 1) h) : pm_X p l e R s m args below meth c Q D V A ad0 u0 v0 hF ls st pc h := by
  obtain ⟨x, y, r, rfl, hc, hK⟩ := q
  refine ⟨hK.1, fun H locs cells slots lsM stM hS => ?_⟩
  obtain ⟨ws, tys, ext, k1, k2, k3, k4, k5, k6, k7, k8, k9, k10⟩ := hS
  obtain ⟨w2, r2, rfl, hv2, w1, r1, rfl, hv1, k8⟩ := k8
  obtain ⟨z2, rfl, e2⟩ := hv2
  obtain ⟨z1, rfl, e1⟩ := hv1
  subst e1; subst e2
  exact lv_iadd hx hb hdg (hK.2 _ _ _ _ _ _ ⟨ws, tys, ext, k1, k2, k3, k4, k5, k6, k7, ⟨_, _, rfl, ⟨_, rfl, i32_add hc⟩, k8⟩, k9, k10⟩)
theorem sx_ladd (hx : p.tables.exec = Jvm.exec) (hb : c.code = cc) (hdg : decode cc pc = .ok (.ladd, 1)) (q : ∃ x y r, st = vL y :: vL x :: r ∧ inL (x + y) ∧ pm_X p l e R s m args below meth c Q D V A ad0 u0 v0 hF ls (vL (x + y) :: r) (pc + 1) h) : pm_X p l e R s m args below meth c Q D V A ad0 u0 v0 hF ls st pc h := by
  obtain ⟨x, y, r, rfl, hc, hK⟩ := q
  refine ⟨hK.1, fun H locs cells slots lsM stM hS => ?_⟩
  obtain ⟨ws, tys, ext, k1, k2, k3, k4, k5, k6, k7, k8, k9, k10⟩ := hS
  obtain ⟨w2, r2, rfl, hv2, w1, r1, rfl, hv1, k8⟩ := k8
  obtain ⟨z2, rfl, e2⟩ := hv2
  obtain ⟨z1, rfl, e1⟩ := hv1
  subst e1; subst e2
  exact lv_ladd hx hb hdg (hK.2 _ _ _ _ _ _ ⟨ws, tys, ext, k1, k2, k3, k4, k5, k6, k7, ⟨_, _, rfl, ⟨_, rfl, i64_add hc⟩, k8⟩, k9, k10⟩)
theorem sx_isub (hx : p.tables.exec = Jvm.exec) (hb : c.code = cc) (hdg : decode cc pc = .ok (.isub, 1)) (q : ∃ x y r, st = vI y :: vI x :: r ∧ inR (x - y) ∧ pm_X p l e R s m args below meth c Q D V A ad0 u0 v0 hF ls (vI (x - y) :: r) (pc + 1) h) : pm_X p l e R s m args below meth c Q D V A ad0 u0 v0 hF ls st pc h := by
  obtain ⟨x, y, r, rfl, hc, hK⟩ := q
  refine ⟨hK.1, fun H locs cells slots lsM stM hS => ?_⟩
  obtain ⟨ws, tys, ext, k1, k2, k3, k4, k5, k6, k7, k8, k9, k10⟩ := hS
  obtain ⟨w2, r2, rfl, hv2, w1, r1, rfl, hv1, k8⟩ := k8
  obtain ⟨z2, rfl, e2⟩ := hv2
  obtain ⟨z1, rfl, e1⟩ := hv1
  subst e1; subst e2
  exact lv_isub hx hb hdg (hK.2 _ _ _ _ _ _ ⟨ws, tys, ext, k1, k2, k3, k4, k5, k6, k7, ⟨_, _, rfl, ⟨_, rfl, i32_sub hc⟩, k8⟩, k9, k10⟩)
theorem sx_lsub (hx : p.tables.exec = Jvm.exec) (hb : c.code = cc) (hdg : decode cc pc = .ok (.lsub, 1)) (q : ∃ x y r, st = vL y :: vL x :: r ∧ inL (x - y) ∧ pm_X p l e R s m args below meth c Q D V A ad0 u0 v0 hF ls (vL (x - y) :: r) (pc + 1) h) : pm_X p l e R s m args below meth c Q D V A ad0 u0 v0 hF ls st pc h := by
  obtain ⟨x, y, r, rfl, hc, hK⟩ := q
  refine ⟨hK.1, fun H locs cells slots lsM stM hS => ?_⟩
  obtain ⟨ws, tys, ext, k1, k2, k3, k4, k5, k6, k7, k8, k9, k10⟩ := hS
  obtain ⟨w2, r2, rfl, hv2, w1, r1, rfl, hv1, k8⟩ := k8
  obtain ⟨z2, rfl, e2⟩ := hv2
  obtain ⟨z1, rfl, e1⟩ := hv1
  subst e1; subst e2
  exact lv_lsub hx hb hdg (hK.2 _ _ _ _ _ _ ⟨ws, tys, ext, k1, k2, k3, k4, k5, k6, k7, ⟨_, _, rfl, ⟨_, rfl, i64_sub hc⟩, k8⟩, k9, k10⟩)
theorem sx_imul (hx : p.tables.exec = Jvm.exec) (hb : c.code = cc) (hdg : decode cc pc = .ok (.imul, 1)) (q : ∃ x y r, st = vI y :: vI x :: r ∧ inR (x * y) ∧ pm_X p l e R s m args below meth c Q D V A ad0 u0 v0 hF ls (vI (x * y) :: r) (pc + 1) h) : pm_X p l e R s m args below meth c Q D V A ad0 u0 v0 hF ls st pc h := by
  obtain ⟨x, y, r, rfl, hc, hK⟩ := q
  refine ⟨hK.1, fun H locs cells slots lsM stM hS => ?_⟩
  obtain ⟨ws, tys, ext, k1, k2, k3, k4, k5, k6, k7, k8, k9, k10⟩ := hS
  obtain ⟨w2, r2, rfl, hv2, w1, r1, rfl, hv1, k8⟩ := k8
  obtain ⟨z2, rfl, e2⟩ := hv2
  obtain ⟨z1, rfl, e1⟩ := hv1
  subst e1; subst e2
  exact lv_imul hx hb hdg (hK.2 _ _ _ _ _ _ ⟨ws, tys, ext, k1, k2, k3, k4, k5, k6, k7, ⟨_, _, rfl, ⟨_, rfl, i32_mul hc⟩, k8⟩, k9, k10⟩)
theorem sx_lmul (hx : p.tables.exec = Jvm.exec) (hb : c.code = cc) (hdg : decode cc pc = .ok (.lmul, 1)) (q : ∃ x y r, st = vL y :: vL x :: r ∧ inL (x * y) ∧ pm_X p l e R s m args below meth c Q D V A ad0 u0 v0 hF ls (vL (x * y) :: r) (pc + 1) h) : pm_X p l e R s m args below meth c Q D V A ad0 u0 v0 hF ls st pc h := by
  obtain ⟨x, y, r, rfl, hc, hK⟩ := q
  refine ⟨hK.1, fun H locs cells slots lsM stM hS => ?_⟩
  obtain ⟨ws, tys, ext, k1, k2, k3, k4, k5, k6, k7, k8, k9, k10⟩ := hS
  obtain ⟨w2, r2, rfl, hv2, w1, r1, rfl, hv1, k8⟩ := k8
  obtain ⟨z2, rfl, e2⟩ := hv2
  obtain ⟨z1, rfl, e1⟩ := hv1
  subst e1; subst e2
  exact lv_lmul hx hb hdg (hK.2 _ _ _ _ _ _ ⟨ws, tys, ext, k1, k2, k3, k4, k5, k6, k7, ⟨_, _, rfl, ⟨_, rfl, i64_mul hc⟩, k8⟩, k9, k10⟩)
theorem sx_fadd (hx : p.tables.exec = Jvm.exec) (hb : c.code = cc) (hdg : decode cc pc = .ok (.fadd, 1)) (q : ∃ x y r, st = vF y :: vF x :: r ∧ vf_n32 (FP.fadd x y) ∧ pm_X p l e R s m args below meth c Q D V A ad0 u0 v0 hF ls (vF (FP.fadd x y) :: r) (pc + 1) h) : pm_X p l e R s m args below meth c Q D V A ad0 u0 v0 hF ls st pc h := by
  obtain ⟨x, y, r, rfl, hc, hK⟩ := q
  refine ⟨hK.1, fun H locs cells slots lsM stM hS => ?_⟩
  obtain ⟨ws, tys, ext, k1, k2, k3, k4, k5, k6, k7, k8, k9, k10⟩ := hS
  obtain ⟨w2, r2, rfl, hv2, w1, r1, rfl, hv1, k8⟩ := k8
  obtain rfl := hv2
  obtain rfl := hv1
  skip
  exact lv_fadd hx hb hdg hc (hK.2 _ _ _ _ _ _ ⟨ws, tys, ext, k1, k2, k3, k4, k5, k6, k7, ⟨_, _, rfl, rfl, k8⟩, k9, k10⟩)
theorem sx_fsub (hx : p.tables.exec = Jvm.exec) (hb : c.code = cc) (hdg : decode cc pc = .ok (.fsub, 1)) (q : ∃ x y r, st = vF y :: vF x :: r ∧ vf_n32 (FP.fsub x y) ∧ pm_X p l e R s m args below meth c Q D V A ad0 u0 v0 hF ls (vF (FP.fsub x y) :: r) (pc + 1) h) : pm_X p l e R s m args below meth c Q D V A ad0 u0 v0 hF ls st pc h := by
  obtain ⟨x, y, r, rfl, hc, hK⟩ := q
  refine ⟨hK.1, fun H locs cells slots lsM stM hS => ?_⟩
  obtain ⟨ws, tys, ext, k1, k2, k3, k4, k5, k6, k7, k8, k9, k10⟩ := hS
  obtain ⟨w2, r2, rfl, hv2, w1, r1, rfl, hv1, k8⟩ := k8
  obtain rfl := hv2
  obtain rfl := hv1
  skip
  exact lv_fsub hx hb hdg hc (hK.2 _ _ _ _ _ _ ⟨ws, tys, ext, k1, k2, k3, k4, k5, k6, k7, ⟨_, _, rfl, rfl, k8⟩, k9, k10⟩)
theorem sx_fmul (hx : p.tables.exec = Jvm.exec) (hb : c.code = cc) (hdg : decode cc pc = .ok (.fmul, 1)) (q : ∃ x y r, st = vF y :: vF x :: r ∧ vf_n32 (FP.fmul x y) ∧ pm_X p l e R s m args below meth c Q D V A ad0 u0 v0 hF ls (vF (FP.fmul x y) :: r) (pc + 1) h) : pm_X p l e R s m args below meth c Q D V A ad0 u0 v0 hF ls st pc h := by
  obtain ⟨x, y, r, rfl, hc, hK⟩ := q
  refine ⟨hK.1, fun H locs cells slots lsM stM hS => ?_⟩
  obtain ⟨ws, tys, ext, k1, k2, k3, k4, k5, k6, k7, k8, k9, k10⟩ := hS
  obtain ⟨w2, r2, rfl, hv2, w1, r1, rfl, hv1, k8⟩ := k8
  obtain rfl := hv2
  obtain rfl := hv1
  skip
  exact lv_fmul hx hb hdg hc (hK.2 _ _ _ _ _ _ ⟨ws, tys, ext, k1, k2, k3, k4, k5, k6, k7, ⟨_, _, rfl, rfl, k8⟩, k9, k10⟩)
theorem sx_fdiv (hx : p.tables.exec = Jvm.exec) (hb : c.code = cc) (hdg : decode cc pc = .ok (.fdiv, 1)) (q : ∃ x y r, st = vF y :: vF x :: r ∧ vf_n32 (FP.fdiv x y) ∧ pm_X p l e R s m args below meth c Q D V A ad0 u0 v0 hF ls (vF (FP.fdiv x y) :: r) (pc + 1) h) : pm_X p l e R s m args below meth c Q D V A ad0 u0 v0 hF ls st pc h := by
  obtain ⟨x, y, r, rfl, hc, hK⟩ := q
  refine ⟨hK.1, fun H locs cells slots lsM stM hS => ?_⟩
  obtain ⟨ws, tys, ext, k1, k2, k3, k4, k5, k6, k7, k8, k9, k10⟩ := hS
  obtain ⟨w2, r2, rfl, hv2, w1, r1, rfl, hv1, k8⟩ := k8
  obtain rfl := hv2
  obtain rfl := hv1
  skip
  exact lv_fdiv hx hb hdg hc (hK.2 _ _ _ _ _ _ ⟨ws, tys, ext, k1, k2, k3, k4, k5, k6, k7, ⟨_, _, rfl, rfl, k8⟩, k9, k10⟩)
end SX1
