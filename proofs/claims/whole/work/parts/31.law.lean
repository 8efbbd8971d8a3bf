/-! THE CLAIM OUT OF ONE WALK OF THE LAW'S BODY. Your part is whole_start (and what it stands on); all else here is the same for every law, but numbers. -/
def R_law : String := "TrackGridLaw"
def lw_P (b : Addr) (xs : List Int32) (args : Array Value) (s : State) : Prop := args = #[.ref b] ∧ s.IntsAt b xs ∧ xs.length ≤ 240 ∧ (Jvm.Cond.and given_1 narrow_1).before args s = true
def lw_Q (_ : Array Value) (s : State) (o : Outcome) (t : State) : Prop := o = .returned (some (.int 1)) ∧ Framed s o t [] 178 2141
def lw_Z (below : List Frame) (a : Array Value) (s : State) : State → Prop := fun t => ∃ o, t.status = .running ∧ Ended t below o ∧ lw_Q a s o t
/-- the law's own end, with 1 on the stack, nothing written that was there before, its room as the claim has it -/
theorem lw_ret {p : Program} {l : Launch} {e : Env} {s : State} {m : MethodId} {below : List Frame} {meth : Method} {c : Code} {b : Nat} (hx : p.tables.exec = Jvm.exec) (hb : c.code = code) (hr : meth.sig.returnType = ret) (hlocks : meth.locks = false) {pc : Nat} {H : Heap} {ls : Array Slot} (hdg : decode code pc = .ok (.ireturn, 1)) : W p l e room_1 s m #[Value.ref b] below meth c H [] 178 2141 (lw_Z below #[Value.ref b] s) (F0 m pc ls [.int 1]) := by
  intro T hT X
  obtain ⟨fs, hret, hrun, hended, hW, hframe⟩ := X.leave (v := some (.int 1)) (hlocks := hlocks) (fun h => by rw [hr] at h; cases h)
  have hmeth' : T.vm.method? m = some meth := X.method'
  refine ⟨T.setFrames fs, ?_, .returned (some (.int 1)), hrun, hended, rfl, ⟨_, rfl⟩, hW, hframe⟩
  jvm_step X.here [X.here.top, hx, hb, hdg, hmeth', hr, ret, narrow_b1]
  (try refine ⟨rfl, ?_⟩); (try refine ⟨rfl, ?_⟩)
  first | (intro acts; rw [hret _ acts rfl rfl rfl]) | rw [hret _ _ rfl rfl rfl]
  exact Steps.refl _
/-- what holds at the law's entry: the machine, the code, the tables' words (any of lw_tbl by 'hts w (by decide +kernel)'), the script of L ints xs at the cell b, what the Statement gives of the start (any of its parts by flat_of_before) -/
def lw_At (p : Program) (s : State) (m : MethodId) (meth : Method) (c : Code) (b L : Nat) (xs : Nat → Int32) : Prop :=
  p.tables.exec = Jvm.exec ∧ c.code = code ∧ meth.sig.returnType = ret ∧ c.maxLocals = 10 ∧ s.vm.findClass R_law = some m.cls ∧ (∀ w ∈ lw_tbl, w.before #[Value.ref b] s = true) ∧ va_X b L xs s s.heap ∧ b < s.heap.size ∧ meth.locks = false ∧ (Jvm.Cond.and given_1 narrow_1).before #[Value.ref b] s = true
/-- a smaller room is enough -/
theorem pm_room {p : Program} {l : Launch} {e : Env} {R R' : Room} {s : State} {m : MethodId} {args : Array Value} {below : List Frame} {meth : Method} {c : Code} {H : Heap} {locs : List Loc} {cells slots : Nat} {Q : State → Prop} {g : JFrame} (h1 : R'.frames ≤ R.frames) (h2 : R'.cells ≤ R.cells) (h3 : R'.slots ≤ R.slots) (h4 : R'.locals ≤ R.locals)
    (k : W p l e R' s m args below meth c H locs cells slots Q g) : W p l e R s m args below meth c H locs cells slots Q g := by
  intro T hT X
  refine k T hT { X with room := ?_ }
  have h := X.room
  simp only [State.hasRoom, Bool.and_eq_true, decide_eq_true_eq] at h ⊢
  obtain ⟨⟨⟨⟨a1, a2, a3, a4, a5, a6⟩, a7⟩, a8⟩, a9⟩ := h
  exact ⟨⟨⟨⟨by omega, by omega, by omega, by omega, by omega, a6⟩, by omega⟩, by omega⟩, a9⟩
/-- the law's run in the pure machine: for every script it ends with 1, within the claim's room -/
def pm_law (L : Nat) (xs : Nat → Int32) : Prop :=
  ∃ hF : pH, pR pm_tx L (fun j => (xs j).toInt) (pCall pm_tx 1001 (fun j => (xs j).toInt) pm_P 14) 14 mL_law (fun o h => o = .inl (some (vI 1)) ∧ h = hF) (pm_entry 10 [vX 2]) [] 0 ([], 0) ∧ pm_used hF ≤ 178 ∧ pm_slots hF ≤ 2141
theorem whole_open {p : Program} {e : Env} {s : State} {m : MethodId} {below : List Frame} {meth : Method} {c : Code} (l : Launch) (hst : l.stackTraces = false) {b L : Nat} {xs : Nat → Int32} (hL : L ≤ 240) (hex : c.exceptionTable.toList = []) (C0 : lw_At p s m meth c b L xs) (hlaw : pm_law L xs) : W p l e room_1 s m #[Value.ref b] below meth c s.heap [] 0 0 (lw_Z below #[Value.ref b] s) (entryFrame m ([Value.ref b] : List Value).toArray 10) := by
  obtain ⟨hx, hb, hr, hml, hown, hts, hX, hbl, hlocks, hgv⟩ := C0
  obtain ⟨hF, hR, hu, hv⟩ := hlaw
  obtain ⟨V, adV, hV, hAs⟩ := pm_amb0 hts hgv
  have hts2 : ∀ w ∈ pm_Ts, w.before #[Value.ref b] s = true := fun w hw => hts w (List.mem_filter.mp hw).1
  obtain ⟨-, -, -, -, hcl⟩ := pm_Ts_com
  have hsk : ∀ ci : Nat, ∃ x : ClassId × (Nat → Nat), ci < 7 → u_Kn s (pm_cn ci) (pm_T ci) (pm_N ci) x.1 x.2 := by
    intro ci
    by_cases h7 : ci < 7
    · obtain ⟨cC, iS, hk⟩ := u_known hts2 (pm_Ts_cl ci h7) (hts2 _ (hcl ci h7).1)
      exact ⟨(cC, iS), fun _ => hk⟩
    · exact ⟨(0, fun _ => 0), fun hq => absurd hq h7⟩
  obtain ⟨f, hf⟩ := Classical.skolem.mp hsk
  have hK : va_K (fun c => (f c).1, fun c => (f c).2) vwCl [] s := by
    refine ⟨fun ci q hq => ?_, fun k q hk => by cases hk⟩
    have h7 : ci < 7 := (List.getElem?_eq_some_iff.mp hq).1
    rw [pm_cl ci h7] at hq
    cases hq
    exact hf ci h7
  have hbA : ¬ va_A [] s.heap.size b := by
    intro hq
    rcases hq with ⟨k, e, hk⟩ | hq
    · cases hk
    · omega
  have hsound := pm_sound (l := l) (D := (fun c => (f c).1, fun c => (f c).2)) (V := V) (adV := adV) (Ts := pm_Ts) (P := pm_P) (txt := pm_tx) (xs := xs) hst pm_Ts_good pm_Ts_cl pm_Ts_j pm_tx_ok pm_aw_ok (pm_P_env V adV)
  have henv := pm_env1 (V := V) (adV := adV) (M := mL_law) (by decide +kernel) dk_L_law ck_L_law pm_P_mok (List.forall_mem_nil _)
  obtain ⟨-, he2, he3⟩ := henv
  obtain ⟨hlk, hhl, hca⟩ := he3 #[Value.ref b] s (va_A [] s.heap.size) hts2 hAs
  have hA : ∀ q : Nat, s.heap.size ≤ q → va_A [] s.heap.size q := fun q hq => Or.inr hq
  have h00 : pm_used (([], 0) : pH) = 0 := rfl
  have h01 : pm_slots (([], 0) : pH) = 0 := rfl
  have key := hR (fun ls st pc h2 => ls.length = mL_law.maxL → pm_X p l e (pm_rm 14 ([], 0) hF) s m #[Value.ref b] below meth c (vx_MQ below (pm_Qc (fun c => (f c).1, fun c => (f c).2) V (va_A [] s.heap.size) [] (.inl (some (vI 1))) hF) (pm_XC (fun c => (f c).1, fun c => (f c).2) V (va_A [] s.heap.size) [] (.inl (some (vI 1))) hF) #[Value.ref b] s (pm_used hF - 0) (pm_slots hF - 0) (va_A [] s.heap.size)) (fun c => (f c).1, fun c => (f c).2) V (va_A [] s.heap.size) [] 0 0 hF ls st pc h2)
    (fun ls st pc h2 hst2 hlen => sx_one (M := mL_law) (sb := b) (L := L) (xs := xs) hx hb hml hr hlocks (fun hq => absurd hq (by decide)) hown hts2 pm_Ts_good pm_Ts_cl he2 hlk hA (pm_Am_amb pm_aw_ok) hAs (by show pm_used hF - 0 + 0 = _; omega) (by show pm_slots hF - 0 + 0 = _; omega) rfl (Nat.le_refl _) hst hAs.1 hAs.2.1 (fun _ => hex) (by rw [hex]; rfl) hhl hAs.2.2.2.2.2.2 hca ⟨hV, fun _ => ⟨hX, hbl, hbA⟩⟩ (hsound 14)
      (fun i ls st pc h3 hl3 hdg hlink q => sx_slen hx hb (hml.trans hl3.symm) hown hts2 pm_Ts_good pm_Ts_j hAs.2.2.1 pm_tx_ok (by show pm_used hF - 0 + 0 = _; omega) (by show pm_slots hF - 0 + 0 = _; omega) rfl (Nat.le_refl _) hlink hdg q)
      (fun i ls st pc h3 hl3 hdg hlink q => sx_schar hx hb (hml.trans hl3.symm) hown hts2 pm_Ts_good pm_Ts_j hAs.2.2.1 pm_tx_ok (by show pm_used hF - 0 + 0 = _; omega) (by show pm_slots hF - 0 + 0 = _; omega) rfl (Nat.le_refl _) hlink hdg q) hlen hst2) rfl
  have hW := key.2 s.heap [] 0 0 ((lg_sl [Value.ref b] ++ List.replicate (10 - (lg_sl [Value.ref b]).length) Slot.unset).toArray) [] ⟨[], [], [], hK, fun k q hk => (by cases hk), ⟨fun i j p q hi => (by cases hi), fun k q hk => (by cases hk)⟩, va_S.rf, ⟨rfl, fun k c hk => (by cases hk)⟩, rfl, pm_entry_ok (n := 10) ⟨_, _, rfl, (by show Value.ref b = .ref (V 0); rw [hV]), rfl⟩ (by decide), rfl, rfl, rfl⟩
  have e0 := lg_entry_eq m ([Value.ref b] : List Value) 10
  rw [e0]
  refine pm_room (R' := pm_rm 14 ([], 0) hF) (by show (14 : Nat) ≤ 14; decide) (by show pm_used hF - 0 ≤ 178; omega) (by show pm_slots hF - 0 ≤ 2141; omega) (by show 36 * 14 ≤ (512 : Nat); decide) ?_
  intro T hT X
  obtain ⟨t, a1, o, b1, b2, b3⟩ := hW T hT X
  refine ⟨t, a1, o, b1, b2, ?_⟩
  rcases b3 with ⟨⟨⟨v, ow, ho, hoc, hB⟩, -⟩, Lc, ⟨hv1, hv2, hv3⟩, hfr⟩ | ⟨q, -, E, ce, Lc, ⟨⟨k, hk, -⟩, -⟩, -⟩
  · cases ho
    obtain ⟨ws, tys, ext, -, -, -, -, -, hvs⟩ := hB
    have how : ow = some (.int 1) := by
      cases ow with
      | none => obtain ⟨w, r, e9, -⟩ := hvs; cases e9
      | some w =>
        obtain ⟨w', r, e9, ⟨z, rfl, ez⟩, -⟩ := hvs
        cases e9
        have hz : z = 1 := Int32.toInt_inj.mp (by rw [ez]; rfl)
        rw [hz]
    refine ⟨by rw [hoc, how], hv1, hv2, ?_⟩
    refine hv3.weaken (fun y hy hlt => ?_) (by omega) (by omega)
    rcases hfr y hy with ⟨k, e, hk⟩ | hq
    · cases hk
    · exact absurd hlt (Nat.not_lt.mpr hq)
  · cases hk
