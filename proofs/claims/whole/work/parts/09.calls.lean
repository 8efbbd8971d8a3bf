/-! ===== CONTRACTS OUT OF THE PURE MACHINE; returns and calls ===== -/
theorem pm_vs.append {V : Nat → Nat} {ad : List Nat} {x y : List pV} : ∀ {w1 w2 : List Value}, pm_vs V ad x w1 → pm_vs V ad y w2 → pm_vs V ad (x ++ y) (w1 ++ w2) := by
  induction x with
  | nil => intro w1 w2 h1 h2; rw [h1]; exact h2
  | cons v r ih =>
    intro w1 w2 h1 h2
    obtain ⟨w, r', rfl, ha, hb⟩ := h1
    exact ⟨w, r' ++ w2, rfl, ha, ih hb h2⟩
theorem pm_vs.split {V : Nat → Nat} {ad : List Nat} {x y : List pV} : ∀ {w : List Value}, pm_vs V ad (x ++ y) w → ∃ w1 w2, w = w1 ++ w2 ∧ pm_vs V ad x w1 ∧ pm_vs V ad y w2 := by
  induction x with
  | nil => intro w h; exact ⟨[], w, rfl, rfl, h⟩
  | cons v r ih =>
    intro w h
    obtain ⟨w0, r', rfl, ha, hb⟩ := h
    obtain ⟨w1, w2, rfl, h1, h2⟩ := ih hb
    exact ⟨w0 :: w1, w2, rfl, ⟨w0, w1, rfl, ha, h1⟩, h2⟩
theorem pm_vs.rev {V : Nat → Nat} {ad : List Nat} {x : List pV} : ∀ {w : List Value}, pm_vs V ad x.reverse w → pm_vs V ad x w.reverse := by
  induction x with
  | nil => intro w h; rw [h]; exact (rfl : _)
  | cons v r ih =>
    intro w h
    rw [List.reverse_cons] at h
    obtain ⟨w1, w2, rfl, h1, h2⟩ := h.split
    obtain ⟨w0, r', rfl, ha, hb⟩ := h2
    rw [hb, List.reverse_append]
    exact ⟨w0, w1.reverse, rfl, ha, ih h1⟩
/-- the names of the exceptions' classes -/
def pm_en : Nat → String
  | 0 => "java/lang/IllegalArgumentException"
  | 1 => "java/lang/IllegalStateException"
  | _ => "java/util/NoSuchElementException"
def pm_good (Ts : List Jvm.Cond) : Prop := ∀ w ∈ Ts, (w.onTables && w.keeps) = true ∨ ∃ ty, w = .arrayClass ty
/-- the words of a method: its code (with its handlers), and all the words that there are -/
def pm_cw (M : pM) : Jvm.Cond := if M.hs = [] then .code M.y M.bytes M.maxL M.ret else .codeWith M.y M.bytes M.maxL M.ret (M.hs.map (fun q => (q.1, q.2.1, q.2.2.1, q.2.2.2.1)))
def pm_wd (Ts : List Jvm.Cond) (M : pM) : List Jvm.Cond := pm_cw M :: Ts
def pm_rm (d : Nat) (h h' : pH) : Room := { frames := d, locals := 36 * d, cells := pm_used h' - pm_used h, slots := pm_slots h' - pm_slots h }
/-- the world behind a call -/
def pm_B (D : va_G) (V : Nat → Nat) (A : Nat → Prop) (ad0 : List Nat) (h' : pH) (vs : List pV) (wv : List Value) (t : State) : Prop :=
  ∃ (ws : va_W) (tys : List (ClassId × FieldType)) (ext : List Nat), va_P D vwCl ws t.heap ∧ va_K D vwCl tys t ∧ va_D A ws ∧ pm_w V tys h'.1 ws ∧ ws.map Prod.fst = ad0 ++ ext ∧ pm_vs V (ws.map Prod.fst) vs wv
def pm_Qc (D : va_G) (V : Nat → Nat) (A : Nat → Prop) (ad0 : List Nat) (o : pO) (h' : pH) : Array Value → State → Outcome → State → Prop := fun _ st oc t =>
  (∃ (v : Option pV) (ow : Option Value), o = .inl v ∧ oc = .returned ow ∧ pm_B D V A ad0 h' v.toList ow.toList t) ∧ va_F A st t
def pm_XC (D : va_G) (V : Nat → Nat) (A : Nat → Prop) (ad0 : List Nat) (o : pO) (h' : pH) : String → State → State → Prop := fun E st t =>
  (∃ k, o = .inr k ∧ E = pm_en k ∧ pm_B D V A ad0 h' [] [] t) ∧ va_F A st t
def pm_Pc (Amb : (Nat → Prop) → State → Heap → Prop) (D : va_G) (ws : va_W) (tys : List (ClassId × FieldType)) (asM : List Value) (sz : Nat) : Array Value → State → Prop :=
  va_Pc asM (fun U => U.heap.size = sz ∧ va_P D vwCl ws U.heap ∧ va_K D vwCl tys U ∧ va_D (fun _ => True) ws ∧ Amb (va_A ws sz) U U.heap)
/-- what the surroundings give (statics, texts, links between mates) goes along -/
def pm_amb (Amb : (Nat → Prop) → State → Heap → Prop) : Prop :=
  (∀ (A B : Nat → Prop) (U U' : State), Amb A U U.heap → U.WarmedH U'.vm → (∀ q, q < U.heap.size → ¬ A q → U'.heap[q]? = U.heap[q]?) → (∀ q, B q → A q) → Amb B U' U'.heap) ∧
  ∀ (A : Nat → Prop) (U U' : State), U'.vm = U.vm → U'.heap = U.heap → Amb A U U.heap → Amb A U' U'.heap
/-- the contract of a call of M from h with o and h' -/
def pm_Met (l : Launch) (Ts : List Jvm.Cond) (Amb : (Nat → Prop) → State → Heap → Prop) (D : va_G) (V : Nat → Nat) (d : Nat) (M : pM) (as : List pV) (h : pH) (o : pO) (h' : pH) : Prop :=
  (pm_used h ≤ pm_used h' ∧ pm_slots h ≤ pm_slots h') ∧
  ∀ (ws : va_W) (tys : List (ClassId × FieldType)) (asM : List Value) (sz : Nat), pm_w V tys h.1 ws → pm_vs V (ws.map Prod.fst) as asM →
    vx_Met l M.y (pm_wd Ts M) (pm_rm d h h') (pm_Pc Amb D ws tys asM sz) (pm_Qc D V (va_A ws sz) (ws.map Prod.fst) o h') (pm_XC D V (va_A ws sz) (ws.map Prod.fst) o h') (pm_used h' - pm_used h) (pm_slots h' - pm_slots h) (va_A ws sz)
/-- of a method that returns, the kit's own contract -/
theorem pm_Met.ret {l : Launch} {y : MethodName} {ws : List Jvm.Cond} {rm : Room} {Pc : Array Value → State → Prop} {Qc : Array Value → State → Outcome → State → Prop} {XC : String → State → State → Prop} {mc ms : Nat} {free : Addr → Prop}
    (h : vx_Met l y ws rm Pc Qc XC mc ms free) (hX : ∀ E st t, ¬ XC E st t) : Met l y ws rm Pc Qc mc ms free := by
  intro p e ha hc hk s m args below hf happ hP hK
  obtain ⟨n, o, h1, h2, h3, h4⟩ := h p e ha hc hk s m args below hf happ hP hK
  refine ⟨n, o, h1, h2, h3, ?_⟩
  rcases h4 with h4 | ⟨q, -, E, ce, L, hx, -⟩
  · exact h4
  · exact absurd hx (hX _ _ _)
theorem pm_blind {Amb : (Nat → Prop) → State → Heap → Prop} (hA : pm_amb Amb) {D : va_G} {ws : va_W} {tys : List (ClassId × FieldType)} {asM : List Value} {sz : Nat} : FrameBlind (pm_Pc Amb D ws tys asM sz) := by
  intro a U g mk q
  obtain ⟨q0, q1, qP, qK, qD, qA⟩ := q
  exact ⟨q0, q1, qP, va_K.moved (u := U) (U := U.calling g mk a) (Vm.Alike.refl U.vm) qK, qD, hA.2 _ U (U.calling g mk a) rfl rfl qA⟩
section SX5
variable {p : Program} {l : Launch} {e : Env} {R : Room} {s : State} {m : MethodId} {args : Array Value} {below : List Frame} {meth : Method} {c : Code} {Q : State → Prop} {D : va_G} {V : Nat → Nat} {A : Nat → Prop} {ad0 : List Nat} {u0 v0 : Nat} {hF : pH} {ls : List (Option pV)} {st : List pV} {pc : Nat} {h : pH} {cc : ByteArray} {own : String} {Ts : List Jvm.Cond} {d : Nat} {Amb : (Nat → Prop) → State → Heap → Prop} {oF : pO}
/-- the end of a method: what its answer owes -/
theorem pm_end {H : Heap} {locs : List Loc} {cells slots : Nat} {lsM : Array Slot} {v : Option pV} {ow : Option Value} (ho : oF = .inl v) (hS : pm_St D V A s ad0 u0 v0 ls v.toList hF H locs cells slots lsM ow.toList) :
    (∀ t : State, t.heap = H → s.WarmedH t.vm → pm_Qc D V A ad0 oF hF args s (.returned ow) t) ∧ (∀ q ∈ locs, A q.base) ∧ cells = pm_used hF - u0 ∧ slots = pm_slots hF - v0 := by
  obtain ⟨ws, tys, ext, k1, k2, k3, k4, k5, k6, k7, k8, k9, k10⟩ := hS
  refine ⟨fun t ht hW => ⟨⟨v, ow, ho, rfl, ws, tys, ext, by rw [ht]; exact k2, va_K.moved hW.alike k1, k3, k5, k6, k8⟩, k4.F ht⟩, k4.2.2, by omega, by omega⟩
theorem sx_ireturn (hx : p.tables.exec = Jvm.exec) (hb : c.code = cc) {M : pM} (hr : meth.sig.returnType = M.ret) (hlocks : meth.locks = false) (hdg : decode cc pc = .ok (.ireturn, 1))
    (q : ∃ x r, st = vI x :: r ∧ (∃ t, M.ret = some t ∧ (t = .int ∨ (t = .boolean ∧ (x = 0 ∨ x = 1)) ∨ (t = .char ∧ 0 ≤ x ∧ x < 65536))) ∧ r = [] ∧ (.inl (some (vI x)) = oF ∧ h = hF)) :
    pm_X p l e R s m args below meth c (vx_MQ below (pm_Qc D V A ad0 oF hF) (pm_XC D V A ad0 oF hF) args s (pm_used hF - u0) (pm_slots hF - v0) A) D V A ad0 u0 v0 hF ls st pc h := by
  obtain ⟨x, r, rfl, ⟨ty, hty, hfit⟩, rfl, ho, rfl⟩ := q
  refine ⟨⟨Nat.le_refl _, Nat.le_refl _⟩, fun H locs cells slots lsM stM hS => ?_⟩
  obtain ⟨ws, tys, ext, k1, k2, k3, k4, k5, k6, k7, ⟨w, r1, rfl, ⟨z, rfl, ez⟩, rfl⟩, k9, k10⟩ := hS
  obtain ⟨h1, h2, h3, h4⟩ := pm_end (args := args) (v := some (vI x)) (ow := some (.int z)) ho.symm ⟨ws, tys, ext, k1, k2, k3, k4, k5, k6, k7, ⟨_, _, rfl, ⟨z, rfl, ez⟩, rfl⟩, k9, k10⟩
  have hn : narrow ty (.int z) = .int z := by
    rcases hfit with rfl | ⟨rfl, h01⟩ | ⟨rfl, hc0, hc1⟩
    · rfl
    · exact (pm_fit_ok (V := V) (ad := []) (ty := .boolean) (v := vI x) (by rcases h01 with rfl | rfl; exact Or.inl rfl; exact Or.inr rfl) ⟨z, rfl, ez⟩).1
    · exact (pm_fit_ok (V := V) (ad := []) (ty := .char) (v := vI x) ⟨x, rfl, hc0, hc1⟩ ⟨z, rfl, ez⟩).1
  rw [← h3, ← h4]
  exact vx_ret (W.zret hx hb (hr.trans hty) hn h1 h2 hdg hlocks)
theorem sx_freturn (hx : p.tables.exec = Jvm.exec) (hb : c.code = cc) {M : pM} (hr : meth.sig.returnType = M.ret) (hlocks : meth.locks = false) (hdg : decode cc pc = .ok (.freturn, 1))
    (q : ∃ x r, st = vF x :: r ∧ M.ret = some .float ∧ r = [] ∧ (.inl (some (vF x)) = oF ∧ h = hF)) :
    pm_X p l e R s m args below meth c (vx_MQ below (pm_Qc D V A ad0 oF hF) (pm_XC D V A ad0 oF hF) args s (pm_used hF - u0) (pm_slots hF - v0) A) D V A ad0 u0 v0 hF ls st pc h := by
  obtain ⟨x, r, rfl, hty, rfl, ho, rfl⟩ := q
  refine ⟨⟨Nat.le_refl _, Nat.le_refl _⟩, fun H locs cells slots lsM stM hS => ?_⟩
  obtain ⟨ws, tys, ext, k1, k2, k3, k4, k5, k6, k7, ⟨w, r1, rfl, rfl, rfl⟩, k9, k10⟩ := hS
  obtain ⟨h1, h2, h3, h4⟩ := pm_end (args := args) (v := some (vF x)) (ow := some (.float x)) ho.symm ⟨ws, tys, ext, k1, k2, k3, k4, k5, k6, k7, ⟨_, _, rfl, rfl, rfl⟩, k9, k10⟩
  rw [← h3, ← h4]
  exact vx_ret (W.fret hx hb (hr.trans hty) h1 h2 hdg hlocks)
theorem sx_lreturn (hx : p.tables.exec = Jvm.exec) (hb : c.code = cc) {M : pM} (hr : meth.sig.returnType = M.ret) (hlocks : meth.locks = false) (hdg : decode cc pc = .ok (.lreturn, 1))
    (q : ∃ x r, st = vL x :: r ∧ M.ret = some .long ∧ r = [] ∧ (.inl (some (vL x)) = oF ∧ h = hF)) :
    pm_X p l e R s m args below meth c (vx_MQ below (pm_Qc D V A ad0 oF hF) (pm_XC D V A ad0 oF hF) args s (pm_used hF - u0) (pm_slots hF - v0) A) D V A ad0 u0 v0 hF ls st pc h := by
  obtain ⟨x, r, rfl, hty, rfl, ho, rfl⟩ := q
  refine ⟨⟨Nat.le_refl _, Nat.le_refl _⟩, fun H locs cells slots lsM stM hS => ?_⟩
  obtain ⟨ws, tys, ext, k1, k2, k3, k4, k5, k6, k7, ⟨w, r1, rfl, ⟨z, rfl, ez⟩, rfl⟩, k9, k10⟩ := hS
  obtain ⟨h1, h2, h3, h4⟩ := pm_end (args := args) (v := some (vL x)) (ow := some (.long z)) ho.symm ⟨ws, tys, ext, k1, k2, k3, k4, k5, k6, k7, ⟨_, _, rfl, ⟨z, rfl, ez⟩, rfl⟩, k9, k10⟩
  rw [← h3, ← h4]
  exact vx_ret (W.lret hx hb (hr.trans hty) h1 h2 hdg hlocks)
theorem sx_return (hx : p.tables.exec = Jvm.exec) (hb : c.code = cc) {M : pM} (hr : meth.sig.returnType = M.ret) (hlocks : meth.locks = false) (hdg : decode cc pc = .ok (.return_, 1))
    (q : M.ret = none ∧ st = [] ∧ (.inl none = oF ∧ h = hF)) :
    pm_X p l e R s m args below meth c (vx_MQ below (pm_Qc D V A ad0 oF hF) (pm_XC D V A ad0 oF hF) args s (pm_used hF - u0) (pm_slots hF - v0) A) D V A ad0 u0 v0 hF ls st pc h := by
  obtain ⟨hty, rfl, ho, rfl⟩ := q
  refine ⟨⟨Nat.le_refl _, Nat.le_refl _⟩, fun H locs cells slots lsM stM hS => ?_⟩
  obtain ⟨ws, tys, ext, k1, k2, k3, k4, k5, k6, k7, rfl, k9, k10⟩ := hS
  obtain ⟨h1, h2, h3, h4⟩ := pm_end (args := args) (v := none) (ow := none) ho.symm ⟨ws, tys, ext, k1, k2, k3, k4, k5, k6, k7, rfl, k9, k10⟩
  rw [← h3, ← h4]
  exact vx_ret (W.vret hx hb (hr.trans hty) h1 h2 hdg hlocks)
theorem pm_sub {ws : va_W} {H : Heap} {locs : List Loc} (k3 : va_D A ws) (k4 : va_S A s.heap H locs) (hA : ∀ q, s.heap.size ≤ q → A q) : ∀ q, va_A ws H.size q → A q := by
  intro q hq
  rcases hq with ⟨k, e1, hk⟩ | hq
  · exact k3.2 k _ hk
  · exact hA q (Nat.le_trans k4.1 hq)
/-- the caller's world behind the call -/
theorem pm_after {ws : va_W} {ext : List Nat} {H : Heap} {locs L : List Loc} {cells slots : Nat} {lsM : Array Slot} {r : List pV} {r1 : List Value} {h' : pH} {vs : List pV} {wv : List Value} {st₀ t T' : State} {B : Nat → Prop}
    (k3 : va_D A ws) (k4 : va_S A s.heap H locs) (k6 : ws.map Prod.fst = ad0 ++ ext) (k7 : pm_L V (ws.map Prod.fst) ls lsM) (k8 : pm_vs V (ws.map Prod.fst) r r1) (k9 : cells + u0 = pm_used h) (k10 : slots + v0 = pm_slots h)
    (hm : pm_used h ≤ pm_used h' ∧ pm_slots h ≤ pm_slots h') (hsub : ∀ q, B q → A q) (h0 : st₀.heap = H) (hL : ∀ q ∈ L, B q.base) (e1 : T'.heap = t.heap) (hvm : s.vm.Alike t.vm) (hB : pm_B D V B (ws.map Prod.fst) h' vs wv t) (hFr : va_F B st₀ t) :
    pm_St D V A s ad0 u0 v0 ls (vs ++ r) h' T'.heap (locs ++ L) (cells + (pm_used h' - pm_used h)) (slots + (pm_slots h' - pm_slots h)) lsM (wv ++ r1) := by
  obtain ⟨ws', tys', ext', b1, b2, b3, b4, b5, b6⟩ := hB
  obtain ⟨-, -, hS⟩ := vx_keep (A0 := A) (A1 := B) (free := B) h0 e1 k4 (fun q _ hq => hsub q hq) hsub hL hFr
  refine ⟨ws', tys', ext ++ ext', va_K.moved hvm.symm b2, by rw [e1]; exact b1, b3.weaken (fun _ _ _ hq => hsub _ hq), hS, b4, ?_, ?_, ?_, by omega, by omega⟩
  · rw [b5, k6, List.append_assoc]
  · rw [b5]; exact k7.app ext'
  · refine b6.append ?_
    rw [b5]; exact k8.app ext'
end SX5
