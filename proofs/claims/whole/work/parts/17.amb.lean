/-! ===== WHAT THE SURROUNDINGS GIVE, and the texts in the pure machine ===== -/
def pm_Am (V adV : Nat → Nat) (N : Nat) (len : List Nat) (byt : List (List Int32)) (aw : List Jvm.Cond) (ao : List String) (sr : List (String × Nat × String × Nat)) (A : Nat → Prop) (U : State) (H : Heap) : Prop :=
  vx_Zq Bundle.tN "UNASSIGNED_STACK" Bundle.steD A U H ∧ vx_Zq Bundle.tN "SUPPRESSED_SENTINEL" Bundle.listD A U H ∧ sj_F N len byt (fun i => V (i + 1)) adV A U H ∧ (∀ w ∈ aw, va_Nw w U) ∧ (∀ C ∈ ao, va_AO C U) ∧ (∀ q ∈ sr, vk_R q.1 q.2.1 q.2.2.1 (V (q.2.2.2 + 1)) U) ∧ ∀ k k', k < 3 → k' < 3 → k ≠ k' → va_Nc (pm_en k) (pm_en k') U
def pm_awok (w : Jvm.Cond) : Prop := (∃ a i x h, w = .methodLinkNest a i x h) ∨ (∃ C T, w = .castable C T) ∨ ∃ x, w = .declares x
theorem pm_Am_amb {V adV : Nat → Nat} {N : Nat} {len : List Nat} {byt : List (List Int32)} {aw : List Jvm.Cond} {ao : List String} {sr : List (String × Nat × String × Nat)} (haw : ∀ w ∈ aw, pm_awok w) : pm_amb (pm_Am V adV N len byt aw ao sr) := by
  have key : ∀ (A B : Nat → Prop) (U U' : State), pm_Am V adV N len byt aw ao sr A U U.heap → U.WarmedH U'.vm → (∀ q, q < U.heap.size → ¬ A q → U'.heap[q]? = U.heap[q]?) → (∀ q, B q → A q) → pm_Am V adV N len byt aw ao sr B U' U'.heap := by
    intro A B U U' h hW hq hB
    obtain ⟨h1, h2, h3, h4, h5, h6, h7⟩ := h
    have hal := hW.alike
    refine ⟨((h1.moved hal).kept hq).narrow hB, ((h2.moved hal).kept hq).narrow hB, h3.to hal hq hB, fun w hw => ?_, fun C hC => (h5 C hC).moved hal, fun q hq2 => (h6 q hq2).warm hW, fun k k' a1 a2 a3 => (h7 k k' a1 a2 a3).moved hal⟩
    have hz := h4 w hw
    rcases haw w hw with ⟨a, i, x, h, rfl⟩ | ⟨C, T, rfl⟩ | ⟨x, rfl⟩
    · exact va_Nw.warmM hW hz
    · exact va_Nw.warmC hW hz
    · exact va_Nw.warmD hW hz
  refine ⟨key, fun A U U' h1 h2 h => ?_⟩
  exact key A A U U' h (by rw [h1]; exact State.WarmedH.refl U) (fun q _ _ => by rw [h2]) (fun _ hq => hq)
section SX10
variable {p : Program} {l : Launch} {e : Env} {R : Room} {s : State} {m : MethodId} {args : Array Value} {below : List Frame} {meth : Method} {c : Code} {Q : State → Prop} {D : va_G} {V adV : Nat → Nat} {A : Nat → Prop} {ad0 : List Nat} {u0 v0 : Nat} {hF : pH} {ls : List (Option pV)} {st : List pV} {pc : Nat} {h : pH} {cc : ByteArray} {own : String} {Ts : List Jvm.Cond} {d N : Nat} {len : List Nat} {byt : List (List Int32)} {txt : Nat → List Int}
/-- the texts, as the pure machine has them -/
def pm_txt (N : Nat) (len : List Nat) (byt : List (List Int32)) (txt : Nat → List Int) : Prop :=
  ∀ i, i < N → (txt i).length = len.getD i 0 ∧ len.getD i 0 < 1000 ∧ ∀ (j : Nat) (x : Int), (txt i)[j]? = some x → ∃ ch : Int32, ((((byt.getD i []).getD j 0) &&& 255).toUInt32 % 65536).toInt32 = ch ∧ narrow .char (.int ch) = .int ch ∧ ch.toInt = x
theorem sj_pre (hFa : sj_F N len byt (fun i => V (i + 1)) adV A s s.heap) {H : Heap} {locs : List Loc} (k4 : va_S A s.heap H locs) (av : List Value) : ∀ U : State, U.heap = H → s.WarmedH U.vm → va_Pc av (fun U => sj_F N len byt (fun i => V (i + 1)) adV (fun _ => False) U U.heap) av.toArray U := by
  intro U hU hW
  refine ⟨rfl, ?_⟩
  show sj_F N len byt (fun i => V (i + 1)) adV (fun _ => False) U U.heap
  rw [hU]
  exact hFa.to hW.alike k4.2.1 (fun _ hq => hq.elim)
theorem sx_slen (hx : p.tables.exec = Jvm.exec) (hb : c.code = cc) (hml : c.maxLocals = ls.length) (hown : s.vm.findClass own = some m.cls) (hts : ∀ w ∈ Ts, w.before args s = true) (hG : pm_good Ts) (hT : ∀ w ∈ sj_ws, w ∈ Ts) (hFa : sj_F N len byt (fun i => V (i + 1)) adV A s s.heap) (htx : pm_txt N len byt txt)
    (hRc : R.cells + u0 = pm_used hF) (hRs : R.slots + v0 = pm_slots hF) (hRf : R.frames = d) (hRl : 36 * d ≤ R.locals) {i : Nat} (hl : (Cond.methodLink own i yJ0_length_8abf5).before args s = true) (hdg : decode cc pc = .ok (.invokevirtual i, 3))
    (q : ∃ i r, st = vX (3 + i) :: r ∧ r.length ≤ 4 ∧ i < N ∧ 4 ≤ d ∧ pm_X p l e R s m args below meth c Q D V A ad0 u0 v0 hF ls (vI (txt i).length :: r) (pc + 3) h) : pm_X p l e R s m args below meth c Q D V A ad0 u0 v0 hF ls st pc h := by
  obtain ⟨ti, r, rfl, hr4, hi, hd, hK⟩ := q
  refine ⟨hK.1, fun H locs cells slots lsM stM hS => ?_⟩
  obtain ⟨ws, tys, ext, k1, k2, k3, k4, k5, k6, k7, k8, k9, k10⟩ := hS
  rw [Nat.add_comm 3 ti] at k8
  obtain ⟨w1, r1, rfl, hv, k8⟩ := k8
  have hv : w1 = .ref (V (ti + 1)) := hv
  subst hv
  have hro := k8.room hr4
  have hB := hK.1
  obtain ⟨t1, t2, -⟩ := htx ti hi
  have hrun := W.runV (p := p) (l := l) (e := e) (R := R) (below := below) (meth := meth) (H := H) (locs := locs) (cells := cells) (slots := slots) (As := []) (rest := r1) (b := V (ti + 1)) (C := RJ0) (n := 0) (bytes := cJ0_length_8abf5) (maxL := 1) (ret := some .int) (index := i) (g := F0 m pc lsM (.ref (V (ti + 1)) :: r1)) ⟨hx, hb, hml, hown, hts⟩
    (sj_length (l := l) (len := len) (byt := byt) (adK := fun i => V (i + 1)) (adV := adV) hG hT ti hi _ rfl)
    ⟨⟨rfl, rfl, (by show 1 + 1 ≤ _; omega), (by show 8 + (1 + 11) + 20 ≤ _; omega), sj_pay hts hG (hT _ (List.mem_of_getElem? (i := 3) rfl)), List.mem_cons_self, hts _ (hT _ (List.mem_of_getElem? (i := 3) rfl)), hts _ (hT _ (List.mem_of_getElem? (i := 8) rfl)), ⟨by decide, by decide⟩, sj_par (by decide +kernel), hl⟩, hts _ (hT _ (List.mem_of_getElem? (i := 26) rfl)), hts _ (hT _ (List.mem_of_getElem? (i := 27) rfl))⟩
    ⟨sj_blind (sj_same (N := N) (len := len) (byt := byt) (adK := fun i => V (i + 1)) (adV := adV)), vk_recv (adK := fun i => V (i + 1)) (i := ti) hFa.1 hi k4, sj_pre hFa k4 _⟩ rfl rfl k7.1 rfl (by show 2 * 0 + _ ≤ 8; omega) hdg ⟨by omega, by omega⟩
  refine W.callX hrun (fun x hq => hq.elim) (fun v st₀ t h00 hq => ?_)
  obtain ⟨hv, hh⟩ := hq
  cases hv
  rw [h00] at hh
  rw [hh]
  refine hK.2 _ _ _ _ _ _ ⟨ws, tys, ext, k1, k2, k3, k4, k5, k6, k7, ⟨_, _, rfl, ⟨_, rfl, ?_⟩, k8⟩, k9, k10⟩
  rw [sb_shr0, t1]
  exact nI_toInt (n := len.getD ti 0) (by omega)
theorem sx_schar (hx : p.tables.exec = Jvm.exec) (hb : c.code = cc) (hml : c.maxLocals = ls.length) (hown : s.vm.findClass own = some m.cls) (hts : ∀ w ∈ Ts, w.before args s = true) (hG : pm_good Ts) (hT : ∀ w ∈ sj_ws, w ∈ Ts) (hFa : sj_F N len byt (fun i => V (i + 1)) adV A s s.heap) (htx : pm_txt N len byt txt)
    (hRc : R.cells + u0 = pm_used hF) (hRs : R.slots + v0 = pm_slots hF) (hRf : R.frames = d) (hRl : 36 * d ≤ R.locals) {i : Nat} (hl : (Cond.methodLink own i yJ0_charAt_5068e).before args s = true) (hdg : decode cc pc = .ok (.invokevirtual i, 3))
    (q : ∃ i j r x, st = vI j :: vX (3 + i) :: r ∧ r.length ≤ 4 ∧ i < N ∧ 4 ≤ d ∧ 0 ≤ j ∧ (txt i)[j.toNat]? = some x ∧ pm_X p l e R s m args below meth c Q D V A ad0 u0 v0 hF ls (vI x :: r) (pc + 3) h) : pm_X p l e R s m args below meth c Q D V A ad0 u0 v0 hF ls st pc h := by
  obtain ⟨ti, j, r, x, rfl, hr4, hi, hd, hj0, hjx, hK⟩ := q
  refine ⟨hK.1, fun H locs cells slots lsM stM hS => ?_⟩
  obtain ⟨ws, tys, ext, k1, k2, k3, k4, k5, k6, k7, k8, k9, k10⟩ := hS
  rw [Nat.add_comm 3 ti] at k8
  obtain ⟨w0, r0, rfl, ⟨zj, rfl, ej⟩, w1, r1, rfl, hv, k8⟩ := k8
  have hv : w1 = .ref (V (ti + 1)) := hv
  subst hv
  have hro := k8.room hr4
  have hB := hK.1
  obtain ⟨t1, t2, t3⟩ := htx ti hi
  obtain ⟨ch, c1, c2, c3⟩ := t3 j.toNat x hjx
  have hjl : j.toNat < len.getD ti 0 := by rw [← t1]; exact (List.getElem?_eq_some_iff.mp hjx).1
  have h0 : ¬ zj < 0 := fun hq => by have := i32_lt.mp hq; rw [ej] at this; have e9 : (0 : Int32).toInt = 0 := rfl; omega
  have h1 : zj < Int32.ofNat (len.getD ti 0) := i32_lt.mpr (by rw [ej]; have := nI_toInt (n := len.getD ti 0) (by omega); unfold nI at this; omega)
  have hin : vp_in zj (len.getD ti 0) := pm_in ej hj0 (by omega)
  have hcl : zj.toNatClampNeg = j.toNat := by rw [pm_cl0, ej]
  have hrun := W.runV (p := p) (l := l) (e := e) (R := R) (below := below) (meth := meth) (H := H) (locs := locs) (cells := cells) (slots := slots) (As := [.int zj]) (rest := r1) (b := V (ti + 1)) (C := RJ0) (n := 1) (bytes := cJ0_charAt_5068e) (maxL := 2) (ret := some .char) (index := i) (g := F0 m pc lsM (.int zj :: .ref (V (ti + 1)) :: r1)) ⟨hx, hb, hml, hown, hts⟩
    (sj_charAt (l := l) (len := len) (byt := byt) (adK := fun i => V (i + 1)) (adV := adV) hG hT ti hi zj ch h0 h1 hin (by rw [hcl]; exact c1) c2)
    ⟨⟨rfl, rfl, (by show 3 + 1 ≤ _; omega), (by show 8 + (2 + 11) + 64 ≤ _; omega), sj_pay hts hG (hT _ (List.mem_of_getElem? (i := 19) rfl)), List.mem_cons_self, hts _ (hT _ (List.mem_of_getElem? (i := 19) rfl)), hts _ (hT _ (List.mem_of_getElem? (i := 8) rfl)), ⟨by decide, by decide⟩, sj_par (by decide +kernel), hl⟩, hts _ (hT _ (List.mem_of_getElem? (i := 28) rfl)), hts _ (hT _ (List.mem_of_getElem? (i := 29) rfl))⟩
    ⟨sj_blind (sj_same (N := N) (len := len) (byt := byt) (adK := fun i => V (i + 1)) (adV := adV)), vk_recv (adK := fun i => V (i + 1)) (i := ti) hFa.1 hi k4, sj_pre hFa k4 _⟩ rfl rfl k7.1 rfl (by show 2 * 0 + _ ≤ 8; omega) hdg ⟨by omega, by omega⟩
  refine W.callX hrun (fun x hq => hq.elim) (fun v st₀ t h00 hq => ?_)
  obtain ⟨hv, hh⟩ := hq
  cases hv
  rw [h00] at hh
  rw [hh]
  exact hK.2 _ _ _ _ _ _ ⟨ws, tys, ext, k1, k2, k3, k4, k5, k6, k7, ⟨_, _, rfl, ⟨_, rfl, c3⟩, k8⟩, k9, k10⟩
end SX10
