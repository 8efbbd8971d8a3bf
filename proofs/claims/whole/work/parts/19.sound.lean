/-! ===== THE PURE MACHINE IS SOUND: a call of it gives the contract of the method ===== -/
theorem pm_args_ok {V : Nat → Nat} {ad : List Nat} : ∀ {as : List pV} {asM : List Value}, pm_vs V ad as asM → (lg_sl asM).length = (pm_args as).length ∧ ∀ (i : Nat) (v : pV), (pm_args as)[i]? = some (some v) → ∃ w, (lg_sl asM)[i]? = some (.val w) ∧ pm_v V ad v w := by
  intro as
  induction as with
  | nil =>
    intro asM h
    rw [h]
    exact ⟨rfl, fun i v hi => by cases hi⟩
  | cons x r ih =>
    intro asM h
    obtain ⟨w, r', rfl, hv, hr⟩ := h
    obtain ⟨h1, h2⟩ := ih hr
    have hc := pm_cat_v hv
    cases hx : pm_cat2 x with
    | true =>
      rw [hx] at hc
      have hc2 : w.category = 2 := hc
      have e1 : lg_sl (w :: r') = .val w :: .second :: lg_sl r' := by unfold lg_sl; simp [hc2]
      have e2 : pm_args (x :: r) = some x :: none :: pm_args r := by show (if pm_cat2 x then _ else _) = _; rw [hx]; rfl
      rw [e1, e2]
      refine ⟨by simp [h1], fun i v hi => ?_⟩
      match i, hi with
      | 0, hi => cases hi; exact ⟨w, rfl, hv⟩
      | 1, hi => cases hi
      | i + 2, hi => exact h2 i v hi
    | false =>
      rw [hx] at hc
      have hc2 : w.category = 1 := hc
      have e1 : lg_sl (w :: r') = .val w :: lg_sl r' := by unfold lg_sl; simp [hc2]
      have e2 : pm_args (x :: r) = some x :: pm_args r := by show (if pm_cat2 x then _ else _) = _; rw [hx]; rfl
      rw [e1, e2]
      refine ⟨by simp [h1], fun i v hi => ?_⟩
      match i, hi with
      | 0, hi => cases hi; exact ⟨w, rfl, hv⟩
      | i + 1, hi => exact h2 i v hi
theorem pm_entry_len {n : Nat} {as : List pV} (h : (pm_args as).length ≤ n) : (pm_entry n as).length = n := by
  unfold pm_entry
  rw [List.length_append, List.length_replicate]
  omega
theorem pm_entry_ok {V : Nat → Nat} {ad : List Nat} {as : List pV} {asM : List Value} {n : Nat} (hv : pm_vs V ad as asM) (h : (pm_args as).length ≤ n) : pm_L V ad (pm_entry n as) ((lg_sl asM ++ List.replicate (n - (lg_sl asM).length) Slot.unset).toArray) := by
  obtain ⟨h1, h2⟩ := pm_args_ok hv
  have hl := lv_entry asM (n := n) (by rw [h1]; exact h)
  refine ⟨by rw [hl.1, pm_entry_len h], hl.2.1, fun i v hi => ?_⟩
  unfold pm_entry at hi
  by_cases hlt : i < (pm_args as).length
  · rw [List.getElem?_append_left hlt] at hi
    obtain ⟨w, h3, h4⟩ := h2 i v hi
    refine ⟨w, ?_, h4⟩
    rw [List.getElem?_toArray]
    exact pm_get_app h3 _
  · rw [List.getElem?_append_right (by omega), List.getElem?_replicate] at hi
    split at hi
    · cases hi
    · cases hi
/-- the program's methods are what the tables say, wherever these words hold -/
def pm_env (P : List pM) (Ts : List Jvm.Cond) (Amb : (Nat → Prop) → State → Heap → Prop) (V : Nat → Nat) : Prop :=
  ∀ M ∈ P, plainName M.y.cls = true ∧ (∀ q ∈ M.code, decode M.bytes q.1 = .ok (q.2.1, q.2.2.1) ∧ (pm_len q.2.1 = 0 ∨ q.2.2.1 = pm_len q.2.1)) ∧
    ∀ (args : Array Value) (s : State) (A : Nat → Prop), (∀ w ∈ Ts, w.before args s = true) → Amb A s s.heap →
      (∀ q ∈ M.code, pm_lk P Ts V args s M q.1 q.2.1 q.2.2.2.1 q.2.2.2.2.1 q.2.2.2.2.2) ∧ (∀ q ∈ M.hs, (Cond.classLink M.y.cls q.2.2.2.1 (pm_en q.2.2.2.2)).before args s = true ∧ q.2.2.2.1 ≠ 0 ∧ q.2.2.2.2 < 3) ∧ ∀ k, k < 3 → (Cond.castable (pm_en k) (pm_en k)).before args s = true
section SND
variable {l : Launch} {D : va_G} {V adV : Nat → Nat} {Ts : List Jvm.Cond} {P : List pM} {txt : Nat → List Int} {len : List Nat} {byt : List (List Int32)} {aw : List Jvm.Cond} {ao : List String} {sr : List (String × Nat × String × Nat)} {xs : Nat → Int32}
/-- the walk of a method's body, from its entry -/
theorem pm_walk (hl : l.stackTraces = false) (hG : pm_good Ts) (hclw : ∀ ci, ci < 7 → ∀ w ∈ u_ws (pm_cn ci) (pm_T ci) (pm_N ci), w ∈ Ts) (hT : ∀ w ∈ sj_ws, w ∈ Ts) (htx : pm_txt 13 len byt txt) (haw : ∀ w ∈ aw, pm_awok w) (henv : pm_env P Ts (pm_Am V adV 13 len byt aw ao sr) V)
    {d : Nat} {M : pM} (hM : M ∈ P) {C : Nat → List pV → pH → pO → pH → Prop} (hC : ∀ μ as h o h', C μ as h o h' → ∃ d' M', d = d' + 1 ∧ P[μ]? = some M' ∧ pm_Met l Ts (pm_Am V adV 13 len byt aw ao sr) D V d' M' as h o h')
    {as : List pV} {h h' : pH} {o : pO} (hn : (pm_args as).length ≤ M.maxL) (hR : pR txt 1001 (fun j => (xs j).toInt) C d M (fun o2 h2 => o2 = o ∧ h2 = h') (pm_entry M.maxL as) [] 0 h)
    {ws : va_W} {tys : List (ClassId × FieldType)} {asM : List Value} (hw : pm_w V tys h.1 ws) (hvs : pm_vs V (ws.map Prod.fst) as asM)
    {p : Program} {e : Env} {s : State} {m : MethodId} {below : List Frame} {meth : Method} {c : Code} {s₁ : State} {S : Spec} (B : BodyLoose p l M.y S M.bytes M.maxL M.ret e s m asM.toArray below meth c s₁) (hml : c.maxLocals = M.maxL)
    (hts : ∀ w ∈ Ts, w.before asM.toArray s = true) (hout : M.hs = [] → c.exceptionTable.toList = []) (htab : c.exceptionTable.toList.map (fun x => (x.startPc, x.endPc, x.handlerPc, x.catchType)) = M.hs.map (fun q => (q.1, q.2.1, q.2.2.1, q.2.2.2.1)))
    (hle : pm_le h h') (hP : va_P D vwCl ws s.heap) (hK : va_K D vwCl tys s) (hD0 : va_D (fun _ => True) ws) (hAs : pm_Am V adV 13 len byt aw ao sr (va_A ws s.heap.size) s s.heap) :
    W p l e (pm_rm d h h') s m asM.toArray below meth c s.heap [] 0 0 (vx_MQ below (pm_Qc D V (va_A ws s.heap.size) (ws.map Prod.fst) o h') (pm_XC D V (va_A ws s.heap.size) (ws.map Prod.fst) o h') asM.toArray s (pm_used h' - pm_used h) (pm_slots h' - pm_slots h) (va_A ws s.heap.size)) (entryFrame m asM.toArray M.maxL) := by
  obtain ⟨he1, he2, he3⟩ := henv M hM
  obtain ⟨hlk, hhl, hca⟩ := he3 asM.toArray s (va_A ws s.heap.size) hts hAs
  have hown : s.vm.findClass M.y.cls = some m.cls := findClass_of_methodNamed B.named
  have hname : M.y.name = "<init>" → meth.name = "<init>" := fun hq => (name_of_methodNamed B.named B.method).1.trans hq
  have hAm := pm_Am_amb (V := V) (adV := adV) (N := 13) (len := len) (byt := byt) (ao := ao) (sr := sr) haw
  have hRc : (pm_rm d h h').cells + pm_used h = pm_used h' := by show pm_used h' - pm_used h + pm_used h = _; have := hle.1; omega
  have hRs : (pm_rm d h h').slots + pm_slots h = pm_slots h' := by show pm_slots h' - pm_slots h + pm_slots h = _; have := hle.2; omega
  have hA : ∀ q : Nat, s.heap.size ≤ q → va_A ws s.heap.size q := fun q hq => Or.inr hq
  have hX := hR (fun ls st pc h2 => ls.length = M.maxL → pm_X p l e (pm_rm d h h') s m asM.toArray below meth c (vx_MQ below (pm_Qc D V (va_A ws s.heap.size) (ws.map Prod.fst) o h') (pm_XC D V (va_A ws s.heap.size) (ws.map Prod.fst) o h') asM.toArray s (pm_used h' - pm_used h) (pm_slots h' - pm_slots h) (va_A ws s.heap.size)) D V (va_A ws s.heap.size) (ws.map Prod.fst) (pm_used h) (pm_slots h) h' ls st pc h2)
    (fun ls st pc h2 hst hlen => sx_one (sb := V 0) (L := 1001) (xs := xs) B.exec B.bytes hml B.returns B.notSynchronized hname hown hts hG hclw he2 hlk hA hAm hAs hRc hRs rfl (Nat.le_refl _) hl hAs.1 hAs.2.1 hout htab hhl hAs.2.2.2.2.2.2 hca ⟨rfl, fun hq => by omega⟩ hC
      (fun i ls st pc h3 hl3 hdg hlink q => sx_slen B.exec B.bytes (hml.trans hl3.symm) hown hts hG hT hAs.2.2.1 htx hRc hRs rfl (Nat.le_refl _) hlink hdg q)
      (fun i ls st pc h3 hl3 hdg hlink q => sx_schar B.exec B.bytes (hml.trans hl3.symm) hown hts hG hT hAs.2.2.1 htx hRc hRs rfl (Nat.le_refl _) hlink hdg q) hlen hst) (pm_entry_len hn)
  rw [lg_entry_eq]
  exact hX.2 _ _ _ _ _ _ ⟨ws, tys, [], hK, hP, hD0.self, va_S.rf, hw, by rw [List.append_nil], pm_entry_ok hvs hn, rfl, by rw [Nat.zero_add], by rw [Nat.zero_add]⟩
theorem pm_sound (hl : l.stackTraces = false) (hG : pm_good Ts) (hclw : ∀ ci, ci < 7 → ∀ w ∈ u_ws (pm_cn ci) (pm_T ci) (pm_N ci), w ∈ Ts) (hT : ∀ w ∈ sj_ws, w ∈ Ts) (htx : pm_txt 13 len byt txt) (haw : ∀ w ∈ aw, pm_awok w) (henv : pm_env P Ts (pm_Am V adV 13 len byt aw ao sr) V) :
    ∀ (d μ : Nat) (as : List pV) (h : pH) (o : pO) (h' : pH), pCall txt 1001 (fun j => (xs j).toInt) P d μ as h o h' → ∃ d' M', d = d' + 1 ∧ P[μ]? = some M' ∧ pm_Met l Ts (pm_Am V adV 13 len byt aw ao sr) D V d' M' as h o h' := by
  intro d
  induction d with
  | zero => intro μ as h o h' hq; exact absurd hq id
  | succ d ih =>
    intro μ as h o h' hq
    have hle : pm_le h h' := pCall_bound _ _ _ _ _ _ hq
    obtain ⟨M, hM, hn, hR⟩ := hq
    have hMm : M ∈ P := List.mem_of_getElem? hM
    refine ⟨d, M, rfl, hM, hle, fun ws tys asM sz hw hvs => ?_⟩
    obtain ⟨he1, -, -⟩ := henv M hMm
    by_cases hhs : M.hs = []
    · have hc : pm_cw M = Cond.code M.y M.bytes M.maxL M.ret := by unfold pm_cw; rw [if_pos hhs]
      refine vx_ofW (cc := M.bytes) (maxL := M.maxL) (ret := M.ret) (ws' := Ts) he1 (by unfold pm_wd; rw [hc]) ?_
      intro p e s m args below meth c s₁ B hml htb hv
      obtain ⟨rfl, hsz, hP, hK, hD0, hAs⟩ := hv
      subst hsz
      have hts : ∀ w ∈ Ts, w.before asM.toArray s = true := fun w hw2 => atoms_spec (ws := pm_wd Ts M) B.pre w (List.mem_cons_of_mem _ hw2)
      have hnil : c.exceptionTable.toList = [] := List.eq_nil_iff_forall_not_mem.mpr htb
      exact pm_walk hl hG hclw hT htx haw henv hMm ih hn hR hw hvs B hml hts (fun _ => hnil) (by rw [hnil, hhs]; rfl) hle hP hK hD0 hAs
    · have hc : pm_cw M = Cond.codeWith M.y M.bytes M.maxL M.ret (M.hs.map (fun q => (q.1, q.2.1, q.2.2.1, q.2.2.2.1))) := by unfold pm_cw; rw [if_neg hhs]
      refine vx_ofWH (cc := M.bytes) (maxL := M.maxL) (ret := M.ret) (ws' := Ts) he1 (by unfold pm_wd; rw [hc]) ?_
      intro p e s m args below meth c s₁ B hml hv
      obtain ⟨rfl, hsz, hP, hK, hD0, hAs⟩ := hv
      subst hsz
      have hts : ∀ w ∈ Ts, w.before asM.toArray s = true := fun w hw2 => atoms_spec (ws := pm_wd Ts M) B.pre w (List.mem_cons_of_mem _ hw2)
      have hcw : (Cond.codeWith M.y M.bytes M.maxL M.ret (M.hs.map (fun q => (q.1, q.2.1, q.2.2.1, q.2.2.2.1)))).before asM.toArray s = true := by rw [← hc]; exact atoms_spec (ws := pm_wd Ts M) B.pre _ List.mem_cons_self
      have htb := vx_table (x := M.y) B hcw
      exact pm_walk hl hG hclw hT htx haw henv hMm ih hn hR hw hvs B hml hts (fun hq => absurd hq hhs) (by rw [htb]; simp [tableOf, List.map_map, Function.comp_def]) hle hP hK hD0 hAs
end SND
