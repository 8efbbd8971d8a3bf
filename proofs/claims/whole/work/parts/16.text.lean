/-! ===== THE PROGRAM'S TEXTS: String.length and String.charAt (written by wip/whole/gen_text.py; the decode rows are the printed ones) ===== -/
theorem dJ0_length_8abf5_0 : decode cJ0_length_8abf5 0 = .ok (.aload_n 0, 1) := by decide +kernel
theorem dJ0_length_8abf5_1 : decode cJ0_length_8abf5 1 = .ok (.getfield 9, 3) := by decide +kernel
theorem dJ0_length_8abf5_4 : decode cJ0_length_8abf5 4 = .ok (.arraylength, 1) := by decide +kernel
theorem dJ0_length_8abf5_5 : decode cJ0_length_8abf5 5 = .ok (.aload_n 0, 1) := by decide +kernel
theorem dJ0_length_8abf5_6 : decode cJ0_length_8abf5 6 = .ok (.invokevirtual 335, 3) := by decide +kernel
theorem dJ0_length_8abf5_9 : decode cJ0_length_8abf5 9 = .ok (.ishr, 1) := by decide +kernel
theorem dJ0_length_8abf5_10 : decode cJ0_length_8abf5 10 = .ok (.ireturn, 1) := by decide +kernel
theorem dJ0_charAt_5068e_0 : decode cJ0_charAt_5068e 0 = .ok (.aload_n 0, 1) := by decide +kernel
theorem dJ0_charAt_5068e_1 : decode cJ0_charAt_5068e 1 = .ok (.invokevirtual 492, 3) := by decide +kernel
theorem dJ0_charAt_5068e_4 : decode cJ0_charAt_5068e 4 = .ok (.ifCond .eq 12, 3) := by decide +kernel
theorem dJ0_charAt_5068e_7 : decode cJ0_charAt_5068e 7 = .ok (.aload_n 0, 1) := by decide +kernel
theorem dJ0_charAt_5068e_8 : decode cJ0_charAt_5068e 8 = .ok (.getfield 9, 3) := by decide +kernel
theorem dJ0_charAt_5068e_11 : decode cJ0_charAt_5068e 11 = .ok (.iload_n 1, 1) := by decide +kernel
theorem dJ0_charAt_5068e_12 : decode cJ0_charAt_5068e 12 = .ok (.invokestatic 495, 3) := by decide +kernel
theorem dJ0_charAt_5068e_15 : decode cJ0_charAt_5068e 15 = .ok (.ireturn, 1) := by decide +kernel
theorem dJ0_charAt_5068e_16 : decode cJ0_charAt_5068e 16 = .ok (.aload_n 0, 1) := by decide +kernel
theorem dJ0_charAt_5068e_17 : decode cJ0_charAt_5068e 17 = .ok (.getfield 9, 3) := by decide +kernel
theorem dJ0_charAt_5068e_20 : decode cJ0_charAt_5068e 20 = .ok (.iload_n 1, 1) := by decide +kernel
theorem dJ0_charAt_5068e_21 : decode cJ0_charAt_5068e 21 = .ok (.invokestatic 498, 3) := by decide +kernel
theorem dJ0_charAt_5068e_24 : decode cJ0_charAt_5068e 24 = .ok (.ireturn, 1) := by decide +kernel
theorem dJ0_coder_7d493_0 : decode cJ0_coder_7d493 0 = .ok (.getstatic 38, 3) := by decide +kernel
theorem dJ0_coder_7d493_3 : decode cJ0_coder_7d493 3 = .ok (.ifCond .eq 10, 3) := by decide +kernel
theorem dJ0_coder_7d493_6 : decode cJ0_coder_7d493 6 = .ok (.aload_n 0, 1) := by decide +kernel
theorem dJ0_coder_7d493_7 : decode cJ0_coder_7d493 7 = .ok (.getfield 15, 3) := by decide +kernel
theorem dJ0_coder_7d493_10 : decode cJ0_coder_7d493 10 = .ok (.goto 4, 3) := by decide +kernel
theorem dJ0_coder_7d493_13 : decode cJ0_coder_7d493 13 = .ok (.iconst 1, 1) := by decide +kernel
theorem dJ0_coder_7d493_14 : decode cJ0_coder_7d493 14 = .ok (.ireturn, 1) := by decide +kernel
theorem dJ0_isLatin1_aae02_0 : decode cJ0_isLatin1_aae02 0 = .ok (.getstatic 38, 3) := by decide +kernel
theorem dJ0_isLatin1_aae02_3 : decode cJ0_isLatin1_aae02 3 = .ok (.ifCond .eq 14, 3) := by decide +kernel
theorem dJ0_isLatin1_aae02_6 : decode cJ0_isLatin1_aae02 6 = .ok (.aload_n 0, 1) := by decide +kernel
theorem dJ0_isLatin1_aae02_7 : decode cJ0_isLatin1_aae02 7 = .ok (.getfield 15, 3) := by decide +kernel
theorem dJ0_isLatin1_aae02_10 : decode cJ0_isLatin1_aae02 10 = .ok (.ifCond .ne 7, 3) := by decide +kernel
theorem dJ0_isLatin1_aae02_13 : decode cJ0_isLatin1_aae02 13 = .ok (.iconst 1, 1) := by decide +kernel
theorem dJ0_isLatin1_aae02_14 : decode cJ0_isLatin1_aae02 14 = .ok (.goto 4, 3) := by decide +kernel
theorem dJ0_isLatin1_aae02_17 : decode cJ0_isLatin1_aae02 17 = .ok (.iconst 0, 1) := by decide +kernel
theorem dJ0_isLatin1_aae02_18 : decode cJ0_isLatin1_aae02 18 = .ok (.ireturn, 1) := by decide +kernel
theorem dJ0_checkIndex_df160_0 : decode cJ0_checkIndex_df160 0 = .ok (.iload_n 0, 1) := by decide +kernel
theorem dJ0_checkIndex_df160_1 : decode cJ0_checkIndex_df160 1 = .ok (.iload_n 1, 1) := by decide +kernel
theorem dJ0_checkIndex_df160_2 : decode cJ0_checkIndex_df160 2 = .ok (.getstatic 1053, 3) := by decide +kernel
theorem dJ0_checkIndex_df160_5 : decode cJ0_checkIndex_df160 5 = .ok (.invokestatic 1059, 3) := by decide +kernel
theorem dJ0_checkIndex_df160_8 : decode cJ0_checkIndex_df160 8 = .ok (.pop, 1) := by decide +kernel
theorem dJ0_checkIndex_df160_9 : decode cJ0_checkIndex_df160 9 = .ok (.return_, 1) := by decide +kernel
theorem dJ1_charAt_3b067_0 : decode cJ1_charAt_3b067 0 = .ok (.iload_n 1, 1) := by decide +kernel
theorem dJ1_charAt_3b067_1 : decode cJ1_charAt_3b067 1 = .ok (.aload_n 0, 1) := by decide +kernel
theorem dJ1_charAt_3b067_2 : decode cJ1_charAt_3b067 2 = .ok (.arraylength, 1) := by decide +kernel
theorem dJ1_charAt_3b067_3 : decode cJ1_charAt_3b067 3 = .ok (.invokestatic 9, 3) := by decide +kernel
theorem dJ1_charAt_3b067_6 : decode cJ1_charAt_3b067 6 = .ok (.aload_n 0, 1) := by decide +kernel
theorem dJ1_charAt_3b067_7 : decode cJ1_charAt_3b067 7 = .ok (.iload_n 1, 1) := by decide +kernel
theorem dJ1_charAt_3b067_8 : decode cJ1_charAt_3b067 8 = .ok (.baload, 1) := by decide +kernel
theorem dJ1_charAt_3b067_9 : decode cJ1_charAt_3b067 9 = .ok (.sipush 255, 3) := by decide +kernel
theorem dJ1_charAt_3b067_12 : decode cJ1_charAt_3b067 12 = .ok (.iand, 1) := by decide +kernel
theorem dJ1_charAt_3b067_13 : decode cJ1_charAt_3b067 13 = .ok (.i2c, 1) := by decide +kernel
theorem dJ1_charAt_3b067_14 : decode cJ1_charAt_3b067 14 = .ok (.ireturn, 1) := by decide +kernel
theorem dJ3_checkIndex_8e157_0 : decode cJ3_checkIndex_8e157 0 = .ok (.iload_n 0, 1) := by decide +kernel
theorem dJ3_checkIndex_8e157_1 : decode cJ3_checkIndex_8e157 1 = .ok (.ifCond .lt 8, 3) := by decide +kernel
theorem dJ3_checkIndex_8e157_4 : decode cJ3_checkIndex_8e157 4 = .ok (.iload_n 0, 1) := by decide +kernel
theorem dJ3_checkIndex_8e157_5 : decode cJ3_checkIndex_8e157 5 = .ok (.iload_n 1, 1) := by decide +kernel
theorem dJ3_checkIndex_8e157_6 : decode cJ3_checkIndex_8e157 6 = .ok (.if_icmp .lt 10, 3) := by decide +kernel
theorem dJ3_checkIndex_8e157_9 : decode cJ3_checkIndex_8e157 9 = .ok (.aload_n 2, 1) := by decide +kernel
theorem dJ3_checkIndex_8e157_10 : decode cJ3_checkIndex_8e157 10 = .ok (.iload_n 0, 1) := by decide +kernel
theorem dJ3_checkIndex_8e157_11 : decode cJ3_checkIndex_8e157 11 = .ok (.iload_n 1, 1) := by decide +kernel
theorem dJ3_checkIndex_8e157_12 : decode cJ3_checkIndex_8e157 12 = .ok (.invokestatic 95, 3) := by decide +kernel
theorem dJ3_checkIndex_8e157_15 : decode cJ3_checkIndex_8e157 15 = .ok (.athrow, 1) := by decide +kernel
theorem dJ3_checkIndex_8e157_16 : decode cJ3_checkIndex_8e157 16 = .ok (.iload_n 0, 1) := by decide +kernel
theorem dJ3_checkIndex_8e157_17 : decode cJ3_checkIndex_8e157 17 = .ok (.ireturn, 1) := by decide +kernel
def sj_ws : List Jvm.Cond := [.code yJ0_coder_7d493 cJ0_coder_7d493 1 (some .byte), .fieldLink RJ0 38 "java/lang/String" "COMPACT_STRINGS" "Z", .fieldLink RJ0 15 "java/lang/String" "coder" "B", .code yJ0_length_8abf5 cJ0_length_8abf5 1 (some .int), .fieldLink RJ0 9 "java/lang/String" "value" "[B", .methodLink RJ0 335 yJ0_coder_7d493, .instanceMethod yJ0_coder_7d493, .selects RJ0 yJ0_coder_7d493 yJ0_coder_7d493, .initialized RJ0,
  .code yJ0_isLatin1_aae02 cJ0_isLatin1_aae02 1 (some .boolean), .code yJ3_checkIndex_8e157 cJ3_checkIndex_8e157 3 (some .int), .code yJ0_checkIndex_df160 cJ0_checkIndex_df160 2 none, .fieldLink RJ0 1053 "jdk/internal/util/Preconditions" "SIOOBE_FORMATTER" "Ljava/util/function/BiFunction;", .methodLink RJ0 1059 yJ3_checkIndex_8e157, .static yJ3_checkIndex_8e157, .initialized RJ3,
  .code yJ1_charAt_3b067 cJ1_charAt_3b067 2 (some .char), .methodLink RJ1 9 yJ0_checkIndex_df160, .static yJ0_checkIndex_df160, .code yJ0_charAt_5068e cJ0_charAt_5068e 2 (some .char), .methodLink RJ0 492 yJ0_isLatin1_aae02, .instanceMethod yJ0_isLatin1_aae02, .selects RJ0 yJ0_isLatin1_aae02 yJ0_isLatin1_aae02, .methodLink RJ0 495 yJ1_charAt_3b067, .static yJ1_charAt_3b067, .initialized RJ1,
  .instanceMethod yJ0_length_8abf5, .selects RJ0 yJ0_length_8abf5 yJ0_length_8abf5, .instanceMethod yJ0_charAt_5068e, .selects RJ0 yJ0_charAt_5068e yJ0_charAt_5068e]
/-- what the methods of String rest on -/
def sj_F (N : Nat) (len : List Nat) (byt : List (List Int32)) (adK adV : Nat → Nat) (A : Nat → Prop) (U : State) (H : Heap) : Prop :=
  vk_S N len byt adK adV A U H ∧ va_Z "java/lang/String" "COMPACT_STRINGS" "Z" (.int 1) A U H ∧ va_Zq "jdk/internal/util/Preconditions" "SIOOBE_FORMATTER" "Ljava/util/function/BiFunction;" A U H
theorem sj_F.to {N : Nat} {len : List Nat} {byt : List (List Int32)} {adK adV : Nat → Nat} {A B : Nat → Prop} {u U : State} {H H1 : Heap} (h : sj_F N len byt adK adV A u H) (hvm : u.vm.Alike U.vm) (hq : ∀ a : Nat, a < H.size → ¬ A a → H1[a]? = H[a]?) (hB : ∀ q, B q → A q) : sj_F N len byt adK adV B U H1 :=
  ⟨((h.1.moved hvm).kept hq).narrow hB, ((h.2.1.moved hvm).kept hq).narrow hB, ((h.2.2.moved hvm).kept hq).narrow hB⟩
def sj_Qv : Array Value → State → Outcome → State → Prop := fun _ st o t => o = .returned none ∧ t.heap = st.heap
section SJ
variable {l : Launch} {Ts : List Jvm.Cond} {N : Nat} {len : List Nat} {byt : List (List Int32)} {adK adV : Nat → Nat}
theorem sj_pay {s : State} {args : Array Value} {w0 : Jvm.Cond} (hts : ∀ w ∈ Ts, w.before args s = true) (hG : pm_good Ts) (hcw : w0 ∈ Ts) : ∀ w ∈ w0 :: Ts, ∀ (a' : Array Value) (U : State), s.WarmedH U.vm → w.before a' U = true := by
  intro w hw a' U hW
  have hw2 : w ∈ Ts := by
    rcases List.mem_cons.mp hw with rfl | h1
    · exact hcw
    · exact h1
  exact word_at hW (hG w hw2) (hts w hw2)
theorem sj_blind {av : List Value} {F : State → Prop} (hF : ∀ U U' : State, U'.vm = U.vm → U'.heap = U.heap → F U → F U') : FrameBlind (va_Pc av F) := by
  intro a U g mk q
  exact ⟨q.1, hF U _ rfl rfl q.2⟩
theorem sj_same {A : Nat → Prop} : ∀ U U' : State, U'.vm = U.vm → U'.heap = U.heap → sj_F N len byt adK adV A U U.heap → sj_F N len byt adK adV A U' U'.heap := by
  intro U U' h1 h2 h
  exact h.to (by rw [h1]; exact Vm.Alike.refl _) (fun a _ _ => by rw [h2]) (fun _ hq => hq)
set_option maxRecDepth 100000 in
theorem sj_coder (hG : pm_good Ts) (hT : ∀ w ∈ sj_ws, w ∈ Ts) (i : Nat) (hi : i < N) : Met l yJ0_coder_7d493 (.code yJ0_coder_7d493 cJ0_coder_7d493 1 (some .byte) :: Ts) { frames := 0, cells := 0, slots := 0, locals := 0 } (va_Pc [.ref (adK i)] (fun U => sj_F N len byt adK adV (fun _ => False) U U.heap)) (QcRead 0) 0 0 (fun _ => False) := by
  refine Met.ofW (cc := cJ0_coder_7d493) (maxL := 1) (ret := (some .byte)) (by decide) rfl ?_
  intro p e s m args below meth c s₁ B hml hv
  obtain ⟨rfl, hF⟩ := hv
  have hx := B.exec
  have hb := B.bytes
  have hr := B.returns
  have hts : ∀ w ∈ Ts, w.before _ s = true := fun w hw => atoms_spec (ws := .code yJ0_coder_7d493 cJ0_coder_7d493 1 (some .byte) :: Ts) B.pre w (List.mem_cons_of_mem _ hw)
  have hown : s.vm.findClass RJ0 = some m.cls := findClass_of_methodNamed B.named
  have hlocks := B.notSynchronized
  have hS : va_S (fun _ => False) s.heap s.heap [] := va_S.rf
  have hl := lv_entry ([.ref (adK i)]) (n := 1) (Nat.le_of_ble_eq_true rfl)
  rw [lg_entry_eq]
  generalize (lg_sl ([.ref (adK i)]) ++ List.replicate (1 - (lg_sl ([.ref (adK i)])).length) Slot.unset).toArray = ls at hl ⊢
  have hl : lv_has ls 1 [(0, .ref (adK i))] := hl
  refine va_gets hx hb hF.2.1 hS hown (hts _ (hT _ (List.mem_of_getElem? (i := 1) rfl))) (fun _ h9 => h9) dJ0_coder_7d493_0 ?_
  refine lv_if_eq (tgt := 13) hx hb dJ0_coder_7d493_3 rfl (fun h9 => absurd h9 (by decide)) (fun _ => ?_)
  refine lv_aload_n hx hb dJ0_coder_7d493_6 rfl (lv_at hl 0 rfl) ?_
  refine vk_getf hx hb (hF.1.1 i hi).2.1 hS hown (hts _ (hT _ (List.mem_of_getElem? (i := 2) rfl))) (fun _ h9 => h9) dJ0_coder_7d493_7 ?_
  refine lv_goto (tgt := 14) hx hb dJ0_coder_7d493_10 rfl ?_
  exact W.zret (v := 0) hx hb hr rfl (fun t ht _ => ⟨rfl, ht⟩) (fun q hq => by cases hq) dJ0_coder_7d493_14 hlocks
set_option maxRecDepth 100000 in
theorem sj_latin (hG : pm_good Ts) (hT : ∀ w ∈ sj_ws, w ∈ Ts) (i : Nat) (hi : i < N) : Met l yJ0_isLatin1_aae02 (.code yJ0_isLatin1_aae02 cJ0_isLatin1_aae02 1 (some .boolean) :: Ts) { frames := 0, cells := 0, slots := 0, locals := 0 } (va_Pc [.ref (adK i)] (fun U => sj_F N len byt adK adV (fun _ => False) U U.heap)) (QcRead 1) 0 0 (fun _ => False) := by
  refine Met.ofW (cc := cJ0_isLatin1_aae02) (maxL := 1) (ret := (some .boolean)) (by decide) rfl ?_
  intro p e s m args below meth c s₁ B hml hv
  obtain ⟨rfl, hF⟩ := hv
  have hx := B.exec
  have hb := B.bytes
  have hr := B.returns
  have hts : ∀ w ∈ Ts, w.before _ s = true := fun w hw => atoms_spec (ws := .code yJ0_isLatin1_aae02 cJ0_isLatin1_aae02 1 (some .boolean) :: Ts) B.pre w (List.mem_cons_of_mem _ hw)
  have hown : s.vm.findClass RJ0 = some m.cls := findClass_of_methodNamed B.named
  have hlocks := B.notSynchronized
  have hS : va_S (fun _ => False) s.heap s.heap [] := va_S.rf
  have hl := lv_entry ([.ref (adK i)]) (n := 1) (Nat.le_of_ble_eq_true rfl)
  rw [lg_entry_eq]
  generalize (lg_sl ([.ref (adK i)]) ++ List.replicate (1 - (lg_sl ([.ref (adK i)])).length) Slot.unset).toArray = ls at hl ⊢
  have hl : lv_has ls 1 [(0, .ref (adK i))] := hl
  refine va_gets hx hb hF.2.1 hS hown (hts _ (hT _ (List.mem_of_getElem? (i := 1) rfl))) (fun _ h9 => h9) dJ0_isLatin1_aae02_0 ?_
  refine lv_if_eq (tgt := 17) hx hb dJ0_isLatin1_aae02_3 rfl (fun h9 => absurd h9 (by decide)) (fun _ => ?_)
  refine lv_aload_n hx hb dJ0_isLatin1_aae02_6 rfl (lv_at hl 0 rfl) ?_
  refine vk_getf hx hb (hF.1.1 i hi).2.1 hS hown (hts _ (hT _ (List.mem_of_getElem? (i := 2) rfl))) (fun _ h9 => h9) dJ0_isLatin1_aae02_7 ?_
  refine lv_if_ne (tgt := 17) hx hb dJ0_isLatin1_aae02_10 rfl (fun h9 => absurd rfl h9) (fun _ => ?_)
  refine lv_iconst (v := 1) hx hb dJ0_isLatin1_aae02_13 rfl ?_
  refine lv_goto (tgt := 18) hx hb dJ0_isLatin1_aae02_14 rfl ?_
  exact W.zret (v := 1) hx hb hr rfl (fun t ht _ => ⟨rfl, ht⟩) (fun q hq => by cases hq) dJ0_isLatin1_aae02_18 hlocks
set_option maxRecDepth 100000 in
theorem sj_check3 (hG : pm_good Ts) (hT : ∀ w ∈ sj_ws, w ∈ Ts) (k n : Int32) (v : Value) (hv0 : v.category = 1) (h0 : ¬ k < 0) (h1 : k < n) : Met l yJ3_checkIndex_8e157 (.code yJ3_checkIndex_8e157 cJ3_checkIndex_8e157 3 (some .int) :: Ts) { frames := 0, cells := 0, slots := 0, locals := 0 } (va_Pc [.int k, .int n, v] (fun U => True)) (QcRead k) 0 0 (fun _ => False) := by
  refine Met.ofW (cc := cJ3_checkIndex_8e157) (maxL := 3) (ret := (some .int)) (by decide) rfl ?_
  intro p e s m args below meth c s₁ B hml hv
  obtain ⟨rfl, -⟩ := hv
  have hx := B.exec
  have hb := B.bytes
  have hr := B.returns
  have hts : ∀ w ∈ Ts, w.before _ s = true := fun w hw => atoms_spec (ws := .code yJ3_checkIndex_8e157 cJ3_checkIndex_8e157 3 (some .int) :: Ts) B.pre w (List.mem_cons_of_mem _ hw)
  have hown : s.vm.findClass RJ3 = some m.cls := findClass_of_methodNamed B.named
  have hlocks := B.notSynchronized
  have hS : va_S (fun _ => False) s.heap s.heap [] := va_S.rf
  have hl := lv_entry ([.int k, .int n, v]) (n := 3) (by cases v <;> first | exact Nat.le_of_ble_eq_true rfl | cases hv0)
  rw [lg_entry_eq]
  generalize (lg_sl ([.int k, .int n, v]) ++ List.replicate (3 - (lg_sl ([.int k, .int n, v])).length) Slot.unset).toArray = ls at hl ⊢
  have hl : lv_has ls 3 [(0, .int k), (1, .int n), (2, v)] := hl
  refine lv_iload_n hx hb dJ3_checkIndex_8e157_0 rfl (lv_at hl 0 rfl) ?_
  refine lv_if_lt (tgt := 9) hx hb dJ3_checkIndex_8e157_1 rfl (fun h9 => absurd h9 h0) (fun _ => ?_)
  refine lv_iload_n hx hb dJ3_checkIndex_8e157_4 rfl (lv_at hl 0 rfl) ?_
  refine lv_iload_n hx hb dJ3_checkIndex_8e157_5 rfl (lv_at hl 1 rfl) ?_
  refine lv_icmp_lt (tgt := 16) hx hb dJ3_checkIndex_8e157_6 rfl (fun _ => ?_) (fun h9 => absurd h1 h9)
  refine lv_iload_n hx hb dJ3_checkIndex_8e157_16 rfl (lv_at hl 0 rfl) ?_
  exact W.zret (v := k) hx hb hr rfl (fun t ht _ => ⟨rfl, ht⟩) (fun q hq => by cases hq) dJ3_checkIndex_8e157_17 hlocks
theorem sj_par {y : MethodName} {n : Nat} (h2 : (parseMethodDescriptor y.desc).map (fun d => d.parameters.length) = some n) : ∀ sig, parseMethodDescriptor y.desc = some sig → n = sig.parameters.length := by
  intro sig h
  rw [h] at h2
  exact (Option.some.inj h2).symm
set_option maxRecDepth 100000 in
theorem sj_check0 (hG : pm_good Ts) (hT : ∀ w ∈ sj_ws, w ∈ Ts) (k n : Int32) (h0 : ¬ k < 0) (h1 : k < n) : Met l yJ0_checkIndex_df160 (.code yJ0_checkIndex_df160 cJ0_checkIndex_df160 2 none :: Ts) { frames := 1, cells := 0, slots := 0, locals := 22 } (va_Pc [.int k, .int n] (fun U => va_Zq "jdk/internal/util/Preconditions" "SIOOBE_FORMATTER" "Ljava/util/function/BiFunction;" (fun _ => False) U U.heap)) (sj_Qv) 0 0 (fun _ => False) := by
  refine Met.ofW (cc := cJ0_checkIndex_df160) (maxL := 2) (ret := none) (by decide) rfl ?_
  intro p e s m args below meth c s₁ B hml hv
  obtain ⟨rfl, hZ⟩ := hv
  have hx := B.exec
  have hb := B.bytes
  have hr := B.returns
  have hts : ∀ w ∈ Ts, w.before _ s = true := fun w hw => atoms_spec (ws := .code yJ0_checkIndex_df160 cJ0_checkIndex_df160 2 none :: Ts) B.pre w (List.mem_cons_of_mem _ hw)
  have hown : s.vm.findClass RJ0 = some m.cls := findClass_of_methodNamed B.named
  have hlocks := B.notSynchronized
  have hS : va_S (fun _ => False) s.heap s.heap [] := va_S.rf
  have hl := lv_entry ([.int k, .int n]) (n := 2) (Nat.le_of_ble_eq_true rfl)
  rw [lg_entry_eq]
  generalize (lg_sl ([.int k, .int n]) ++ List.replicate (2 - (lg_sl ([.int k, .int n])).length) Slot.unset).toArray = ls at hl ⊢
  have hl : lv_has ls 2 [(0, .int k), (1, .int n)] := hl
  refine lv_iload_n hx hb dJ0_checkIndex_df160_0 rfl (lv_at hl 0 rfl) ?_
  refine lv_iload_n hx hb dJ0_checkIndex_df160_1 rfl (lv_at hl 1 rfl) ?_
  obtain ⟨vv, hvc, hZ⟩ : ∃ vv : Value, vv.category = 1 ∧ va_Z "jdk/internal/util/Preconditions" "SIOOBE_FORMATTER" "Ljava/util/function/BiFunction;" vv (fun _ => False) s s.heap := by
    rcases hZ with hZ | ⟨t9, hZ⟩
    · exact ⟨_, rfl, hZ⟩
    · exact ⟨_, rfl, hZ⟩
  refine va_gets hx hb hZ hS hown (hts _ (hT _ (List.mem_of_getElem? (i := 12) rfl))) (fun _ h9 => h9) dJ0_checkIndex_df160_2 ?_
  refine W.callX (W.runS (bytes := cJ3_checkIndex_8e157) (As := [.int k, .int n, vv]) (rest := []) (n := 3) ⟨hx, hb, hml, hown, hts⟩ (sj_check3 hG hT k n vv hvc h0 h1) ⟨⟨rfl, rfl, Nat.le_of_ble_eq_true rfl, Nat.le_of_ble_eq_true rfl, sj_pay hts hG (hT _ (List.mem_of_getElem? (i := 10) rfl)), List.mem_cons_self, (hts _ (hT _ (List.mem_of_getElem? (i := 10) rfl))), (hts _ (hT _ (List.mem_of_getElem? (i := 15) rfl))), ⟨by decide, by decide⟩, sj_par (by decide +kernel), (hts _ (hT _ (List.mem_of_getElem? (i := 13) rfl)))⟩, (hts _ (hT _ (List.mem_of_getElem? (i := 14) rfl)))⟩ ⟨sj_blind (fun _ _ _ _ q => q), fun U _ _ => ⟨rfl, trivial⟩⟩ rfl rfl hl.1 rfl (Nat.le_of_ble_eq_true rfl) dJ0_checkIndex_df160_5 ⟨Nat.le_refl _, Nat.le_refl _⟩) (fun x hq => hq.elim) (fun v st₀ t h00 hq => ?_)
  obtain ⟨hv, hh⟩ := hq
  cases hv
  rw [h00] at hh
  rw [hh]
  refine lv_pop hx hb dJ0_checkIndex_df160_8 rfl ?_
  exact W.vret hx hb hr (fun t2 ht _ => ⟨rfl, ht⟩) (fun q hq => by cases hq) dJ0_checkIndex_df160_9 hlocks
set_option maxRecDepth 100000 in
theorem sj_charAt1 (hG : pm_good Ts) (hT : ∀ w ∈ sj_ws, w ∈ Ts) (i : Nat) (hi : i < N) (k : Int32) (ch : Int32) (h0 : ¬ k < 0) (h1 : k < Int32.ofNat (len.getD i 0)) (hin : vp_in k (len.getD i 0)) (hch : ((((byt.getD i []).getD k.toNatClampNeg 0) &&& 255).toUInt32 % 65536).toInt32 = ch) (hnar : narrow .char (.int ch) = .int ch) : Met l yJ1_charAt_3b067 (.code yJ1_charAt_3b067 cJ1_charAt_3b067 2 (some .char) :: Ts) { frames := 2, cells := 0, slots := 0, locals := 43 } (va_Pc [.ref (adV i), .int k] (fun U => sj_F N len byt adK adV (fun _ => False) U U.heap)) (QcRead ch) 0 0 (fun _ => False) := by
  refine Met.ofW (cc := cJ1_charAt_3b067) (maxL := 2) (ret := (some .char)) (by decide) rfl ?_
  intro p e s m args below meth c s₁ B hml hv
  obtain ⟨rfl, hF⟩ := hv
  have hx := B.exec
  have hb := B.bytes
  have hr := B.returns
  have hts : ∀ w ∈ Ts, w.before _ s = true := fun w hw => atoms_spec (ws := .code yJ1_charAt_3b067 cJ1_charAt_3b067 2 (some .char) :: Ts) B.pre w (List.mem_cons_of_mem _ hw)
  have hown : s.vm.findClass RJ1 = some m.cls := findClass_of_methodNamed B.named
  have hlocks := B.notSynchronized
  have hS : va_S (fun _ => False) s.heap s.heap [] := va_S.rf
  have hl := lv_entry ([.ref (adV i), .int k]) (n := 2) (Nat.le_of_ble_eq_true rfl)
  rw [lg_entry_eq]
  generalize (lg_sl ([.ref (adV i), .int k]) ++ List.replicate (2 - (lg_sl ([.ref (adV i), .int k])).length) Slot.unset).toArray = ls at hl ⊢
  have hl : lv_has ls 2 [(0, .ref (adV i)), (1, .int k)] := hl
  refine lv_iload_n hx hb dJ1_charAt_3b067_0 rfl (lv_at hl 1 rfl) ?_
  refine lv_aload_n hx hb dJ1_charAt_3b067_1 rfl (lv_at hl 0 rfl) ?_
  refine va_tlen hx hb (hF.1.1 i hi).2.2.2 hS rfl dJ1_charAt_3b067_2 ?_
  refine W.callX (W.runS (bytes := cJ0_checkIndex_df160) (As := [.int k, .int (Int32.ofNat (len.getD i 0))]) (rest := []) (n := 2) ⟨hx, hb, hml, hown, hts⟩ (sj_check0 hG hT k (Int32.ofNat (len.getD i 0)) h0 h1) ⟨⟨rfl, rfl, Nat.le_of_ble_eq_true rfl, Nat.le_of_ble_eq_true rfl, sj_pay hts hG (hT _ (List.mem_of_getElem? (i := 11) rfl)), List.mem_cons_self, (hts _ (hT _ (List.mem_of_getElem? (i := 11) rfl))), (hts _ (hT _ (List.mem_of_getElem? (i := 8) rfl))), ⟨by decide, by decide⟩, sj_par (by decide +kernel), (hts _ (hT _ (List.mem_of_getElem? (i := 17) rfl)))⟩, (hts _ (hT _ (List.mem_of_getElem? (i := 18) rfl)))⟩ ⟨sj_blind (fun U U2 e1 e2 q => ((q.moved (by rw [e1]; exact Vm.Alike.refl _)).kept (fun a _ _ => by rw [e2]))), fun U hU hW => ⟨rfl, by show va_Zq _ _ _ _ U U.heap; rw [hU]; exact hF.2.2.moved hW.alike⟩⟩ rfl rfl hl.1 rfl (Nat.le_of_ble_eq_true rfl) dJ1_charAt_3b067_3 ⟨Nat.le_refl _, Nat.le_refl _⟩) (fun x hq => hq.elim) (fun v st₀ t h00 hq => ?_)
  obtain ⟨hv, hh⟩ := hq
  cases hv
  rw [h00] at hh
  rw [hh]
  refine lv_aload_n hx hb dJ1_charAt_3b067_6 rfl (lv_at hl 0 rfl) ?_
  refine lv_iload_n hx hb dJ1_charAt_3b067_7 rfl (lv_at hl 1 rfl) ?_
  refine va_tb hx hb (hF.1.1 i hi).2.2.2 hS hin rfl dJ1_charAt_3b067_8 ?_
  refine lv_sipush (v := 255) hx hb dJ1_charAt_3b067_9 (by decide) ?_
  refine lv_iand hx hb dJ1_charAt_3b067_12 ?_
  refine lv_i2c hx hb dJ1_charAt_3b067_13 hch ?_
  exact W.zret (v := ch) hx hb hr hnar (fun t ht _ => ⟨rfl, ht⟩) (fun q hq => by cases hq) dJ1_charAt_3b067_14 hlocks
set_option maxRecDepth 100000 in
theorem sj_charAt (hG : pm_good Ts) (hT : ∀ w ∈ sj_ws, w ∈ Ts) (i : Nat) (hi : i < N) (k : Int32) (ch : Int32) (h0 : ¬ k < 0) (h1 : k < Int32.ofNat (len.getD i 0)) (hin : vp_in k (len.getD i 0)) (hch : ((((byt.getD i []).getD k.toNatClampNeg 0) &&& 255).toUInt32 % 65536).toInt32 = ch) (hnar : narrow .char (.int ch) = .int ch) : Met l yJ0_charAt_5068e (.code yJ0_charAt_5068e cJ0_charAt_5068e 2 (some .char) :: Ts) { frames := 3, cells := 0, slots := 0, locals := 64 } (va_Pc [.ref (adK i), .int k] (fun U => sj_F N len byt adK adV (fun _ => False) U U.heap)) (QcRead ch) 0 0 (fun _ => False) := by
  refine Met.ofW (cc := cJ0_charAt_5068e) (maxL := 2) (ret := (some .char)) (by decide) rfl ?_
  intro p e s m args below meth c s₁ B hml hv
  obtain ⟨rfl, hF⟩ := hv
  have hx := B.exec
  have hb := B.bytes
  have hr := B.returns
  have hts : ∀ w ∈ Ts, w.before _ s = true := fun w hw => atoms_spec (ws := .code yJ0_charAt_5068e cJ0_charAt_5068e 2 (some .char) :: Ts) B.pre w (List.mem_cons_of_mem _ hw)
  have hown : s.vm.findClass RJ0 = some m.cls := findClass_of_methodNamed B.named
  have hlocks := B.notSynchronized
  have hS : va_S (fun _ => False) s.heap s.heap [] := va_S.rf
  have hl := lv_entry ([.ref (adK i), .int k]) (n := 2) (Nat.le_of_ble_eq_true rfl)
  rw [lg_entry_eq]
  generalize (lg_sl ([.ref (adK i), .int k]) ++ List.replicate (2 - (lg_sl ([.ref (adK i), .int k])).length) Slot.unset).toArray = ls at hl ⊢
  have hl : lv_has ls 2 [(0, .ref (adK i)), (1, .int k)] := hl
  refine lv_aload_n hx hb dJ0_charAt_5068e_0 rfl (lv_at hl 0 rfl) ?_
  refine W.callX (W.runV (bytes := cJ0_isLatin1_aae02) (As := []) (rest := []) (b := adK i) (C := RJ0) (n := 0) ⟨hx, hb, hml, hown, hts⟩ (sj_latin (len := len) (byt := byt) (adK := adK) (adV := adV) hG hT i hi) ⟨⟨rfl, rfl, Nat.le_of_ble_eq_true rfl, Nat.le_of_ble_eq_true rfl, sj_pay hts hG (hT _ (List.mem_of_getElem? (i := 9) rfl)), List.mem_cons_self, (hts _ (hT _ (List.mem_of_getElem? (i := 9) rfl))), (hts _ (hT _ (List.mem_of_getElem? (i := 8) rfl))), ⟨by decide, by decide⟩, sj_par (by decide +kernel), (hts _ (hT _ (List.mem_of_getElem? (i := 20) rfl)))⟩, (hts _ (hT _ (List.mem_of_getElem? (i := 21) rfl))), (hts _ (hT _ (List.mem_of_getElem? (i := 22) rfl)))⟩ ⟨sj_blind (sj_same (N := N) (len := len) (byt := byt) (adK := adK) (adV := adV)), vk_recv hF.1 hi hS, fun U hU hW => ⟨rfl, by show sj_F N len byt adK adV (fun _ => False) U U.heap; rw [hU]; exact hF.to hW.alike (fun _ _ _ => rfl) (fun _ hq => hq)⟩⟩ rfl rfl hl.1 rfl (Nat.le_of_ble_eq_true rfl) dJ0_charAt_5068e_1 ⟨Nat.le_refl _, Nat.le_refl _⟩) (fun x hq => hq.elim) (fun v st₀ t h00 hq => ?_)
  obtain ⟨hv, hh⟩ := hq
  cases hv
  rw [h00] at hh
  rw [hh]
  refine lv_if_eq (tgt := 16) hx hb dJ0_charAt_5068e_4 rfl (fun h9 => absurd h9 (by decide)) (fun _ => ?_)
  refine lv_aload_n hx hb dJ0_charAt_5068e_7 rfl (lv_at hl 0 rfl) ?_
  refine vk_getf hx hb (hF.1.1 i hi).2.2.1 hS hown (hts _ (hT _ (List.mem_of_getElem? (i := 4) rfl))) (fun _ h9 => h9) dJ0_charAt_5068e_8 ?_
  refine lv_iload_n hx hb dJ0_charAt_5068e_11 rfl (lv_at hl 1 rfl) ?_
  refine W.callX (W.runS (bytes := cJ1_charAt_3b067) (As := [.ref (adV i), .int k]) (rest := []) (n := 2) ⟨hx, hb, hml, hown, hts⟩ (sj_charAt1 (len := len) (byt := byt) (adK := adK) (adV := adV) hG hT i hi k ch h0 h1 hin hch hnar) ⟨⟨rfl, rfl, Nat.le_of_ble_eq_true rfl, Nat.le_of_ble_eq_true rfl, sj_pay hts hG (hT _ (List.mem_of_getElem? (i := 16) rfl)), List.mem_cons_self, (hts _ (hT _ (List.mem_of_getElem? (i := 16) rfl))), (hts _ (hT _ (List.mem_of_getElem? (i := 25) rfl))), ⟨by decide, by decide⟩, sj_par (by decide +kernel), (hts _ (hT _ (List.mem_of_getElem? (i := 23) rfl)))⟩, (hts _ (hT _ (List.mem_of_getElem? (i := 24) rfl)))⟩ ⟨sj_blind (sj_same (N := N) (len := len) (byt := byt) (adK := adK) (adV := adV)), fun U hU hW => ⟨rfl, by show sj_F N len byt adK adV (fun _ => False) U U.heap; rw [hU]; exact hF.to hW.alike (fun _ _ _ => rfl) (fun _ hq => hq)⟩⟩ rfl rfl hl.1 rfl (Nat.le_of_ble_eq_true rfl) dJ0_charAt_5068e_12 ⟨Nat.le_refl _, Nat.le_refl _⟩) (fun x hq => hq.elim) (fun v st₀ t h00 hq => ?_)
  obtain ⟨hv, hh⟩ := hq
  cases hv
  rw [h00] at hh
  rw [hh]
  exact W.zret (v := ch) hx hb hr hnar (fun t ht _ => ⟨rfl, ht⟩) (fun q hq => by cases hq) dJ0_charAt_5068e_15 hlocks
set_option maxRecDepth 100000 in
theorem sj_length (hG : pm_good Ts) (hT : ∀ w ∈ sj_ws, w ∈ Ts) (i : Nat) (hi : i < N) (n : Int32) (hn : Int32.ofNat (len.getD i 0) >>> ((0 : Int32) &&& 31) = n) : Met l yJ0_length_8abf5 (.code yJ0_length_8abf5 cJ0_length_8abf5 1 (some .int) :: Ts) { frames := 1, cells := 0, slots := 0, locals := 20 } (va_Pc [.ref (adK i)] (fun U => sj_F N len byt adK adV (fun _ => False) U U.heap)) (QcRead n) 0 0 (fun _ => False) := by
  refine Met.ofW (cc := cJ0_length_8abf5) (maxL := 1) (ret := (some .int)) (by decide) rfl ?_
  intro p e s m args below meth c s₁ B hml hv
  obtain ⟨rfl, hF⟩ := hv
  have hx := B.exec
  have hb := B.bytes
  have hr := B.returns
  have hts : ∀ w ∈ Ts, w.before _ s = true := fun w hw => atoms_spec (ws := .code yJ0_length_8abf5 cJ0_length_8abf5 1 (some .int) :: Ts) B.pre w (List.mem_cons_of_mem _ hw)
  have hown : s.vm.findClass RJ0 = some m.cls := findClass_of_methodNamed B.named
  have hlocks := B.notSynchronized
  have hS : va_S (fun _ => False) s.heap s.heap [] := va_S.rf
  have hl := lv_entry ([.ref (adK i)]) (n := 1) (Nat.le_of_ble_eq_true rfl)
  rw [lg_entry_eq]
  generalize (lg_sl ([.ref (adK i)]) ++ List.replicate (1 - (lg_sl ([.ref (adK i)])).length) Slot.unset).toArray = ls at hl ⊢
  have hl : lv_has ls 1 [(0, .ref (adK i))] := hl
  refine lv_aload_n hx hb dJ0_length_8abf5_0 rfl (lv_at hl 0 rfl) ?_
  refine vk_getf hx hb (hF.1.1 i hi).2.2.1 hS hown (hts _ (hT _ (List.mem_of_getElem? (i := 4) rfl))) (fun _ h9 => h9) dJ0_length_8abf5_1 ?_
  refine va_tlen hx hb (hF.1.1 i hi).2.2.2 hS rfl dJ0_length_8abf5_4 ?_
  refine lv_aload_n hx hb dJ0_length_8abf5_5 rfl (lv_at hl 0 rfl) ?_
  refine W.callX (W.runV (bytes := cJ0_coder_7d493) (As := []) (rest := [.int (Int32.ofNat (len.getD i 0))]) (b := adK i) (C := RJ0) (n := 0) ⟨hx, hb, hml, hown, hts⟩ (sj_coder (len := len) (byt := byt) (adK := adK) (adV := adV) hG hT i hi) ⟨⟨rfl, rfl, Nat.le_of_ble_eq_true rfl, Nat.le_of_ble_eq_true rfl, sj_pay hts hG (hT _ (List.mem_of_getElem? (i := 0) rfl)), List.mem_cons_self, (hts _ (hT _ (List.mem_of_getElem? (i := 0) rfl))), (hts _ (hT _ (List.mem_of_getElem? (i := 8) rfl))), ⟨by decide, by decide⟩, sj_par (by decide +kernel), (hts _ (hT _ (List.mem_of_getElem? (i := 5) rfl)))⟩, (hts _ (hT _ (List.mem_of_getElem? (i := 6) rfl))), (hts _ (hT _ (List.mem_of_getElem? (i := 7) rfl)))⟩ ⟨sj_blind (sj_same (N := N) (len := len) (byt := byt) (adK := adK) (adV := adV)), vk_recv hF.1 hi hS, fun U hU hW => ⟨rfl, by show sj_F N len byt adK adV (fun _ => False) U U.heap; rw [hU]; exact hF.to hW.alike (fun _ _ _ => rfl) (fun _ hq => hq)⟩⟩ rfl rfl hl.1 rfl (Nat.le_of_ble_eq_true rfl) dJ0_length_8abf5_6 ⟨Nat.le_refl _, Nat.le_refl _⟩) (fun x hq => hq.elim) (fun v st₀ t h00 hq => ?_)
  obtain ⟨hv, hh⟩ := hq
  cases hv
  rw [h00] at hh
  rw [hh]
  refine lv_ishr hx hb dJ0_length_8abf5_9 ?_
  refine lv_topi (fun n2 e2 => ?_)
  have e3 : n2 = n := e2.trans hn
  subst e3
  exact W.zret (v := n2) hx hb hr rfl (fun t ht _ => ⟨rfl, ht⟩) (fun q hq => by cases hq) dJ0_length_8abf5_10 hlocks
end SJ
