/-! ===== A CHECK OF A PROGRAM'S TABLES THAT A PROGRAM CAN DO ===== -/
def pm_np (M : pM) : Nat := match parseMethodDescriptor M.y.desc with
  | some d => d.parameters.length
  | none => 0
/-- what is to be known of a method that is called -/
def pm_mok (Ts : List Jvm.Cond) (M : pM) : Prop :=
  pm_cal Ts M ∧ pm_plain M.y (pm_np M) ∧ (M.kind = 0 → Cond.static M.y ∈ Ts) ∧ (M.kind ≠ 0 → Cond.instanceMethod M.y ∈ Ts) ∧ (M.kind = 1 → Cond.selects M.y.cls M.y M.y ∈ Ts) ∧ (M.kind = 2 → M.ret = none ∧ M.y.name = "<init>")
/-- a throw: whose it is, the class's number, its entry, the text's number, the text's entry, the constructor's entry -/
abbrev pT : Type := String × Nat × Nat × Nat × Nat × Nat
def pm_names : List String := ["java/lang/RuntimeException", "java/lang/Exception"]
/-- java.util.NoSuchElementException's constructor: its entry, its bytes -/
def pm_nidx : Nat := 13
abbrev pm_nbytes : ByteArray := prog_20_method_4_code
def pm_nat (t : pT) : List Jvm.Cond := px_at t.1 t.2.2.2.2.2 (pm_en t.2.1) "java/lang/RuntimeException" ["java/lang/Exception"] pm_nidx pm_nbytes
def pm_tok (Ts aw : List Jvm.Cond) (sr : List (String × Nat × String × Nat)) (t : pT) : Prop :=
  Bundle.fit (pm_en t.2.1) = true ∧ (∀ n ∈ pm_names, Bundle.fit n = true) ∧ Cond.classLink t.1 t.2.2.1 (pm_en t.2.1) ∈ Ts ∧ Cond.initialized (pm_en t.2.1) ∈ Ts ∧ (∃ tx, (t.1, t.2.2.2.2.1, tx, t.2.2.2.1) ∈ sr)
    ∧ (((∀ w ∈ (vx_atS t.1 t.2.2.2.2.2 (pm_en t.2.1) pm_names).filter goodWord, w ∈ Ts) ∧ (∀ w ∈ (vx_atS t.1 t.2.2.2.2.2 (pm_en t.2.1) pm_names).filter (fun w => !goodWord w), w ∈ aw)
    ∧ (∀ w ∈ Cond.classLink t.1 t.2.2.1 (pm_en t.2.1) :: Cond.initialized (pm_en t.2.1) :: vx_atS t.1 t.2.2.2.2.2 (pm_en t.2.1) pm_names, vx_ot w = true))
    ∨ ((∀ w ∈ (pm_nat t).filter goodWord, w ∈ Ts) ∧ (∀ w ∈ (pm_nat t).filter (fun w => !goodWord w), w ∈ aw)
    ∧ (∀ w ∈ Cond.classLink t.1 t.2.2.1 (pm_en t.2.1) :: Cond.initialized (pm_en t.2.1) :: pm_nat t, vx_ot w = true)))
theorem pm_nb0 : decode pm_nbytes 0 = .ok (.aload_n 0, 1) ∧ decode pm_nbytes 1 = .ok (.aload_n 1, 1) ∧ decode pm_nbytes 2 = .ok (.invokespecial pm_nidx, 3) ∧ decode pm_nbytes 5 = .ok (.return_, 1) := by decide +kernel
def pm_ckb (P : List pM) (G : Nat → Option Jvm.Cond) (aw : List Jvm.Cond) (ao : List String) (sr : List (String × Nat × String × Nat)) (tt : List pT) (M : pM) (q : pE) (j : Nat) : Bool :=
  match q.2.1 with
  | .ldc i => if q.2.2.2.2.2 = 0 then decide (G j = some (.constantFloat M.y.cls i (UInt32.ofNat q.2.2.2.1))) else match sr[j]? with
    | some r => decide (r.1 = M.y.cls) && decide (r.2.1 = i) && decide (r.2.2.2 = q.2.2.2.1)
    | none => false
  | .ldc2_w i => decide (G j = some (.constantLong M.y.cls i (Int64.ofInt ((q.2.2.2.1 : Int) - q.2.2.2.2.1))))
  | .getfield i => decide (G j = some (.fieldLink M.y.cls i (pm_T q.2.2.2.1 q.2.2.2.2.1).1 (pm_T q.2.2.2.1 q.2.2.2.2.1).2.1 (pm_T q.2.2.2.1 q.2.2.2.2.1).2.2.1))
  | .putfield i => decide (G j = some (.fieldLink M.y.cls i (pm_T q.2.2.2.1 q.2.2.2.2.1).1 (pm_T q.2.2.2.1 q.2.2.2.2.1).2.1 (pm_T q.2.2.2.1 q.2.2.2.2.1).2.2.1)) && (decide ((pm_T q.2.2.2.1 q.2.2.2.2.1).2.2.2 = false) || (decide (M.y.name = "<init>") && decide ((pm_T q.2.2.2.1 q.2.2.2.2.1).1 = M.y.cls)))
  | .new i => if q.2.2.2.2.2 = 0 then decide (G j = some (.classLink M.y.cls i (pm_cn q.2.2.2.1))) && decide (q.2.2.2.1 < 7) else match tt[j]? with
    | some t => decide (t.1 = M.y.cls) && decide (t.2.1 = q.2.2.2.1) && decide (t.2.2.1 = i) && decide (decode M.bytes (q.1 + 3) = .ok (.dup, 1)) && decide (decode M.bytes (q.1 + 4) = .ok (.ldc t.2.2.2.2.1, 2)) && decide (decode M.bytes (q.1 + 6) = .ok (.invokespecial t.2.2.2.2.2, 3)) && decide (decode M.bytes (q.1 + 9) = .ok (.athrow, 1))
    | none => false
  | .newarray ty => decide (G j = some (.arrayClass (newarray.typeOf ty)))
  | .anewarray i => decide (G j = some (.classLink M.y.cls i (pm_cn q.2.2.2.1))) && decide (pm_cn q.2.2.2.1 ∈ ao)
  | .invokespecial i => if q.2.2.2.2.2 = 1 then decide (G j = some (.methodLink M.y.cls i Lib.objectInit)) else match P[q.2.2.2.1]? with
    | some M' => decide (M'.hs = []) && decide (M'.kind = 2) && decide (pm_np M' = q.2.2.2.2.1) && (if q.2.2.2.2.2 = 0 then decide (G j = some (.methodLink M.y.cls i M'.y)) else decide (aw[j]? = some (.methodLinkNest M.y.cls i M'.y "TrackGrid")))
    | none => false
  | .invokevirtual i => if q.2.2.2.2.2 = 0 then (match P[q.2.2.2.1]? with
    | some M' => decide (M'.hs = []) && decide (M'.kind = 1) && decide (pm_np M' = q.2.2.2.2.1 % 8) && decide (M'.y.cls = pm_cn (q.2.2.2.2.1 / 8)) && decide (G j = some (.methodLink M.y.cls i M'.y))
    | none => false) else if q.2.2.2.2.2 = 1 then decide (G j = some (.methodLink M.y.cls i yJ0_length_8abf5)) else decide (G j = some (.methodLink M.y.cls i yJ0_charAt_5068e))
  | .invokestatic i => if q.2.2.2.2.2 = 1 then decide (G j = some (.methodLink M.y.cls i Lib.Math.max.name)) else if q.2.2.2.2.2 = 2 ∨ q.2.2.2.2.2 = 3 then decide (G j = some (.methodLink M.y.cls i arraycopyName)) else match P[q.2.2.2.1]? with
    | some M' => decide (M'.kind = 0) && decide (pm_np M' = q.2.2.2.2.1) && (if q.2.2.2.2.2 = 0 then decide (M'.hs = []) && decide (G j = some (.methodLink M.y.cls i M'.y)) else if q.2.2.2.2.2 = 4 then decide (M'.hs = []) && decide (aw[j]? = some (.methodLinkNest M.y.cls i M'.y "TrackGrid")) else decide (q.2.2.2.2.2 = 5) && decide (M'.hs ≠ []) && decide (G j = some (.methodLink M.y.cls i M'.y)))
    | none => false
  | _ => true
/-- the words that many instructions need -/
def pm_com (Ts : List Jvm.Cond) : Prop :=
  Cond.instanceMethod Lib.objectInit ∈ Ts ∧ Cond.code Lib.objectInit ⟨#[0xb1]⟩ 1 none ∈ Ts ∧ (Cond.static Lib.Math.max.name ∈ Ts ∧ Cond.initialized "java/lang/Math" ∈ Ts ∧ Cond.code Lib.Math.max.name Lib.Math.max.code 2 (some .int) ∈ Ts) ∧ (Cond.native arraycopyName ∈ Ts ∧ Cond.static arraycopyName ∈ Ts ∧ Cond.initialized "java/lang/System" ∈ Ts) ∧ ∀ ci, ci < 7 → Cond.instantiable (pm_cn ci) (pm_N ci) ∈ Ts ∧ Cond.initialized (pm_cn ci) ∈ Ts
set_option maxHeartbeats 2000000 in
theorem pm_ckb_ok {P : List pM} {G : Nat → Option Jvm.Cond} {Ts aw : List Jvm.Cond} {ao : List String} {sr : List (String × Nat × String × Nat)} {tt : List pT} {M : pM} {q : pE} {j : Nat} {V adV : Nat → Nat} {N : Nat} {len : List Nat} {byt : List (List Int32)} {args : Array Value} {s : State} {A : Nat → Prop}
    (hGm : ∀ j w, G j = some w → w ∈ Ts) (hm : ∀ M' ∈ P, pm_mok Ts M') (ht : ∀ t ∈ tt, pm_tok Ts aw sr t) (hc : pm_com Ts) (haw : ∀ w ∈ aw, pm_awok w) (hts : ∀ w ∈ Ts, w.before args s = true) (hA : pm_Am V adV N len byt aw ao sr A s s.heap) (h : pm_ckb P G aw ao sr tt M q j = true) : pm_lk P Ts V args s M q.1 q.2.1 q.2.2.2.1 q.2.2.2.2.1 q.2.2.2.2.2 := by
  obtain ⟨pq, ins, ln, qa, qb, qc⟩ := q
  obtain ⟨c1, c2, ⟨c3, c4, c5⟩, ⟨c6, c7, c8⟩, c9⟩ := hc
  obtain ⟨-, -, -, a4, a5, a6, -⟩ := hA
  have mem : ∀ {w : Jvm.Cond}, G j = some w → w ∈ Ts := fun hq => hGm _ _ hq
  cases ins with
  | ldc i =>
    simp only [pm_ckb] at h
    refine ⟨fun hq => ?_, fun hq => ?_⟩
    · rw [if_pos hq] at h
      exact hts _ (mem (of_decide_eq_true h))
    · have hq : qc = 1 := hq
      subst hq
      rw [if_neg (by decide)] at h
      cases hr : sr[j]? with
      | none => rw [hr] at h; cases h
      | some r =>
        rw [hr] at h
        simp only [Bool.and_eq_true, decide_eq_true_eq] at h
        obtain ⟨⟨h1, h2⟩, h3⟩ := h
        have hz := a6 r (List.mem_of_getElem? hr)
        rw [h1, h2, h3] at hz
        exact ⟨_, hz⟩
  | ldc2_w i => exact hts _ (mem (of_decide_eq_true h))
  | getfield i => exact hts _ (mem (of_decide_eq_true h))
  | putfield i =>
    simp only [pm_ckb, Bool.and_eq_true, Bool.or_eq_true, decide_eq_true_eq] at h
    exact ⟨hts _ (mem h.1), h.2⟩
  | new i =>
    simp only [pm_ckb] at h
    refine ⟨fun hq => ?_, fun hq => ?_⟩
    · rw [if_pos hq, Bool.and_eq_true] at h
      obtain ⟨h1, h2⟩ := c9 qa (of_decide_eq_true h.2)
      exact ⟨hts _ (mem (of_decide_eq_true h.1)), hts _ h1, hts _ h2⟩
    · have hq : qc = 1 := hq
      subst hq
      rw [if_neg (by decide)] at h
      cases hr : tt[j]? with
      | none => rw [hr] at h; cases h
      | some t =>
        rw [hr] at h
        simp only [Bool.and_eq_true, decide_eq_true_eq] at h
        obtain ⟨⟨⟨⟨⟨⟨h1, h2⟩, h3⟩, h4⟩, h5⟩, h6⟩, h7⟩ := h
        obtain ⟨g1, g2, g3, g4, ⟨tx, g5⟩, g6⟩ := ht t (List.mem_of_getElem? hr)
        have awb : ∀ w ∈ aw, w.before args s = true := by
          intro w hw
          have hz2 := a4 w hw
          rcases haw w hw with ⟨a, i, x, h, rfl⟩ | ⟨C, T, rfl⟩ | ⟨x, rfl⟩
          · exact va_Nw.use rfl hz2
          · exact va_Nw.use rfl hz2
          · exact va_Nw.use rfl hz2
        rw [h1] at g5
        have hz := a6 _ g5
        rcases g6 with ⟨g6, g7, g8⟩ | ⟨g6, g7, g8⟩
        · left
          rw [h1, h2, h3] at g3 g8
          rw [h2] at g1 g4
          rw [h1, h2] at g6 g7
          exact ⟨tx, pm_names, t.2.2.2.2.1, t.2.2.2.2.2, _, rfl, g1, g2, hts _ g3, hts _ g4, hz, vx_hat (B := aw) (fun w hw => hts w (g6 w hw)) g7 awb, g8, h4, h5, h6, h7⟩
        · right
          unfold pm_nat at g6 g7 g8
          rw [h1, h2, h3] at g3 g8
          rw [h2] at g1 g4
          rw [h1, h2] at g6 g7
          obtain ⟨n0, n1, n2, n5⟩ := pm_nb0
          exact ⟨tx, "java/lang/RuntimeException", ["java/lang/Exception"], t.2.2.2.2.1, t.2.2.2.2.2, pm_nidx, _, pm_nbytes, rfl, g1, g2 _ (by simp [pm_names]), (fun n hn => g2 n (by simp only [pm_names]; exact List.mem_cons_of_mem _ hn)), n0, n1, n2, n5, hts _ g3, hts _ g4, hz, vx_hat (B := aw) (fun w hw => hts w (g6 w hw)) g7 awb, g8, h4, h5, h6, h7⟩
  | newarray ty => exact hts _ (mem (of_decide_eq_true h))
  | anewarray i =>
    simp only [pm_ckb, Bool.and_eq_true, decide_eq_true_eq] at h
    exact ⟨hts _ (mem h.1), a5 _ h.2⟩
  | invokespecial i =>
    simp only [pm_ckb] at h
    refine ⟨fun hq => ?_, fun hq M' hM' => ?_⟩
    · rw [if_pos hq] at h
      exact ⟨hts _ (mem (of_decide_eq_true h)), hts _ c1, hts _ c2⟩
    · rw [if_neg hq, hM'] at h
      simp only [Bool.and_eq_true, decide_eq_true_eq] at h
      obtain ⟨⟨⟨h1, h2⟩, h3⟩, h4⟩ := h
      obtain ⟨m1, m2, m3, m4, m5, m6⟩ := hm M' (List.mem_of_getElem? hM')
      obtain ⟨m7, m8⟩ := m6 h2
      rw [h3] at m2
      refine ⟨m1, h1, m7, m8, m2, m4 (by rw [h2]; decide), ?_⟩
      by_cases h0 : qc = 0
      · rw [if_pos h0] at h4
        exact Or.inl ⟨h0, mem (of_decide_eq_true h4)⟩
      · rw [if_neg h0] at h4
        exact Or.inr ⟨h0, _, a4 _ (List.mem_of_getElem? (of_decide_eq_true h4))⟩
  | invokevirtual i =>
    simp only [pm_ckb] at h
    refine ⟨fun hq M' hM' => ?_, fun hq => ?_, fun hq => ?_⟩
    · rw [if_pos hq, hM'] at h
      simp only [Bool.and_eq_true, decide_eq_true_eq] at h
      obtain ⟨⟨⟨⟨h1, h2⟩, h3⟩, h4⟩, h5⟩ := h
      obtain ⟨m1, m2, m3, m4, m5, m6⟩ := hm M' (List.mem_of_getElem? hM')
      rw [h3] at m2
      have m5 := m5 h2
      rw [h4] at m5
      exact ⟨m1, h1, h4, m2, mem h5, m4 (by rw [h2]; decide), m5⟩
    · have hq : qc = 1 := hq
      subst hq
      exact hts _ (mem (of_decide_eq_true h))
    · have hq : qc = 2 := hq
      subst hq
      exact hts _ (mem (of_decide_eq_true h))
  | invokestatic i =>
    simp only [pm_ckb] at h
    refine ⟨fun hq M' hM' => ?_, fun hq => ?_, fun hq => ?_⟩
    · have hq : qc = 0 ∨ 4 ≤ qc := hq
      rw [if_neg (by omega), if_neg (by omega), hM'] at h
      simp only [Bool.and_eq_true, decide_eq_true_eq] at h
      obtain ⟨⟨h1, h2⟩, h3⟩ := h
      obtain ⟨m1, m2, m3, m4, m5, m6⟩ := hm M' (List.mem_of_getElem? hM')
      rw [h2] at m2
      refine ⟨m1, m2, m3 h1, ?_⟩
      by_cases h0 : qc = 0
      · rw [if_pos h0] at h3
        simp only [Bool.and_eq_true, decide_eq_true_eq] at h3
        exact Or.inl ⟨h0, h3.1, mem h3.2⟩
      · rw [if_neg h0] at h3
        by_cases h4 : qc = 4
        · rw [if_pos h4] at h3
          simp only [Bool.and_eq_true, decide_eq_true_eq] at h3
          exact Or.inr (Or.inl ⟨h4, h3.1, _, a4 _ (List.mem_of_getElem? h3.2)⟩)
        · rw [if_neg h4] at h3
          simp only [Bool.and_eq_true, decide_eq_true_eq] at h3
          exact Or.inr (Or.inr ⟨h3.1.1, h3.1.2, mem h3.2⟩)
    · have hq : qc = 1 := hq
      rw [if_pos hq] at h
      exact ⟨hts _ (mem (of_decide_eq_true h)), hts _ c3, hts _ c4, hts _ c5⟩
    · have hq : qc = 2 ∨ qc = 3 := hq
      rw [if_neg (by omega), if_pos hq] at h
      exact ⟨hts _ (mem (of_decide_eq_true h)), hts _ c6, hts _ c7, hts _ c8⟩
  | _ => exact trivial
