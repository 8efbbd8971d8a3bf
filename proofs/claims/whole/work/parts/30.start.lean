/-! ===== THE LAW'S ENTRY: what the surroundings give there (written by wip/whole/gen_start.py) ===== -/
def pm_tm (i : Nat) : Term := match pm_sr[i]? with
  | some q => .string q.1 q.2.1
  | none => .string "" 0
def pm_fl : List Jvm.Cond := flatC (Jvm.Cond.and given_1 narrow_1)
set_option maxRecDepth 100000 in
theorem st_ex : ∀ i, i < 13 → Cond.exactly (pm_tm i) "java/lang/String" ∈ pm_fl := by decide +kernel
set_option maxRecDepth 100000 in
theorem st_co : ∀ i, i < 13 → Cond.eq (.field (pm_tm i) "java/lang/String" "coder" "B") (.int 0) ∈ pm_fl := by decide +kernel
set_option maxRecDepth 100000 in
theorem st_ar : ∀ i, i < 13 → Cond.arrayOf (.field (pm_tm i) "java/lang/String" "value" "[B") .byte ∈ pm_fl := by decide +kernel
set_option maxRecDepth 100000 in
theorem st_le : ∀ i, i < 13 → Cond.eq (.length (.field (pm_tm i) "java/lang/String" "value" "[B")) (.int (Int32.ofNat (pm_len13.getD i 0))) ∈ pm_fl := by decide +kernel
set_option maxRecDepth 100000 in
theorem st_el : ∀ i, i < 13 → ∀ j, j < pm_len13.getD i 0 → Cond.eq (.elem (.field (pm_tm i) "java/lang/String" "value" "[B") (.int (Int32.ofNat j))) (.int ((pm_byt13.getD i []).getD j 0)) ∈ pm_fl := by decide +kernel
set_option maxRecDepth 100000 in
theorem st_ne : ∀ i, i < 13 → ∀ j, j < 13 → i ≠ j → Cond.not (Cond.eq (pm_tm i) (pm_tm j)) ∈ pm_fl ∨ Cond.not (Cond.eq (pm_tm j) (pm_tm i)) ∈ pm_fl := by decide +kernel
set_option maxRecDepth 100000 in
theorem st_nc : ∀ k, k < 3 → ∀ k', k' < 3 → k ≠ k' → Cond.not (.castable (pm_en k) (pm_en k')) ∈ pm_fl := by decide +kernel
set_option maxRecDepth 100000 in
theorem st_u : Cond.isRef (.static Bundle.tN "UNASSIGNED_STACK" Bundle.steD) ∈ pm_fl ∧ Cond.isRef (.static Bundle.tN "SUPPRESSED_SENTINEL" Bundle.listD) ∈ pm_fl ∧ Cond.eq (.static "java/lang/String" "COMPACT_STRINGS" "Z") (.int 1) ∈ pm_fl ∧ Cond.isRef (.static "jdk/internal/util/Preconditions" "SIOOBE_FORMATTER" "Ljava/util/function/BiFunction;") ∈ pm_fl := by decide +kernel
set_option maxRecDepth 100000 in
theorem st_aw : ∀ w ∈ pm_aw, w ∈ lw_tbl := by
  intro w hw
  simp only [pm_aw, List.mem_cons, List.not_mem_nil, or_false] at hw
  rcases hw with rfl | rfl | rfl | rfl | rfl | rfl | rfl | rfl | rfl | rfl | rfl | rfl | rfl
  · exact (pm_tb_in 1 _ (List.mem_of_getElem? (i := 31) rfl))
  · exact (pm_tb_in 1 _ (List.mem_of_getElem? (i := 111) rfl))
  · exact (pm_tb_in 2 _ (List.mem_of_getElem? (i := 155) rfl))
  · exact (pm_tb_in 2 _ (List.mem_of_getElem? (i := 170) rfl))
  · exact (pm_tb_in 3 _ (List.mem_of_getElem? (i := 63) rfl))
  · exact (pm_tb_in 4 _ (List.mem_of_getElem? (i := 39) rfl))
  · exact (pm_tb_in 4 _ (List.mem_of_getElem? (i := 71) rfl))
  · exact (pm_tb_in 3 _ (List.mem_of_getElem? (i := 64) rfl))
  · exact (pm_tb_in 3 _ (List.mem_of_getElem? (i := 65) rfl))
  · exact (pm_tb_in 3 _ (List.mem_of_getElem? (i := 66) rfl))
  · exact (pm_tb_in 3 _ (List.mem_of_getElem? (i := 67) rfl))
  · exact (pm_tb_in 3 _ (List.mem_of_getElem? (i := 68) rfl))
  · exact (pm_tb_in 3 _ (List.mem_of_getElem? (i := 69) rfl))
set_option maxRecDepth 100000 in
theorem st_ao : ∀ C ∈ pm_ao, Cond.arrayOver (.object C) ∈ lw_tbl := by
  intro w hw
  simp only [pm_ao, List.mem_cons, List.not_mem_nil, or_false] at hw
  rcases hw with rfl | rfl
  · exact (pm_tb_in 1 _ (List.mem_of_getElem? (i := 109) rfl))
  · exact (pm_tb_in 1 _ (List.mem_of_getElem? (i := 188) rfl))
set_option maxRecDepth 100000 in
theorem st_sr : ∀ q ∈ pm_sr, Cond.stringRef q.1 q.2.1 q.2.2.1 ∈ lw_tbl := by
  intro q hq
  simp only [pm_sr, List.mem_cons, List.not_mem_nil, or_false] at hq
  rcases hq with rfl | rfl | rfl | rfl | rfl | rfl | rfl | rfl | rfl | rfl | rfl | rfl | rfl
  · exact (pm_tb_in 3 _ (List.mem_of_getElem? (i := 102) rfl))
  · exact (pm_tb_in 4 _ (List.mem_of_getElem? (i := 17) rfl))
  · exact (pm_tb_in 4 _ (List.mem_of_getElem? (i := 36) rfl))
  · exact (pm_tb_in 4 _ (List.mem_of_getElem? (i := 46) rfl))
  · exact (pm_tb_in 4 _ (List.mem_of_getElem? (i := 78) rfl))
  · exact (pm_tb_in 4 _ (List.mem_of_getElem? (i := 100) rfl))
  · exact (pm_tb_in 3 _ (List.mem_of_getElem? (i := 146) rfl))
  · exact (pm_tb_in 3 _ (List.mem_of_getElem? (i := 211) rfl))
  · exact (pm_tb_in 3 _ (List.mem_of_getElem? (i := 238) rfl))
  · exact (pm_tb_in 4 _ (List.mem_of_getElem? (i := 3) rfl))
  · exact (pm_tb_in 3 _ (List.mem_of_getElem? (i := 231) rfl))
  · exact (pm_tb_in 3 _ (List.mem_of_getElem? (i := 232) rfl))
  · exact (pm_tb_in 3 _ (List.mem_of_getElem? (i := 233) rfl))
set_option maxRecDepth 100000 in
theorem pm_amb0 {s : State} {b : Nat} (hts : ∀ w ∈ lw_tbl, w.before #[Value.ref b] s = true) (hn : (Jvm.Cond.and given_1 narrow_1).before #[Value.ref b] s = true) :
    ∃ V adV : Nat → Nat, V 0 = b ∧ pm_Am V adV 13 pm_len13 pm_byt13 pm_aw pm_ao pm_sr (va_A [] s.heap.size) s s.heap := by
  have hs : ∀ w ∈ pm_fl, w.before #[Value.ref b] s = true := flat_of_before _ hn
  have hA : ∀ a : Nat, a < s.heap.size → ¬ va_A [] s.heap.size a := by
    intro a ha hq
    rcases hq with ⟨k, e, hk⟩ | hq
    · cases hk
    · omega
  obtain ⟨u1, u2, u3, u4⟩ := st_u
  obtain ⟨adK, adV, hS, hev⟩ := vk_Sof (args := #[Value.ref b]) (s := s) (N := 13) (tm := pm_tm) (len := pm_len13) (byt := pm_byt13) (A := va_A [] s.heap.size) (fun i hi => by have := (pm_tx_len i hi).2; omega) (fun i hi => hs _ (st_ex i hi)) (fun i hi => hs _ (st_co i hi)) (fun i hi => hs _ (st_ar i hi)) (fun i hi => hs _ (st_le i hi)) (fun i hi j hj => hs _ (st_el i hi j hj))
    (fun i j hi hj hij => by rcases st_ne i hi j hj hij with h | h; exact Or.inl (hs _ h); exact Or.inr (hs _ h)) hA
  refine ⟨fun j => match j with | 0 => b | j + 1 => adK j, adV, rfl, vx_Zqof (hts _ (pm_tb_in 3 _ (List.mem_of_getElem? (i := 88) rfl))) (hts _ (pm_tb_in 1 _ (List.mem_of_getElem? (i := 9) rfl))) (hs _ u1) hA, vx_Zqof (hts _ (pm_tb_in 3 _ (List.mem_of_getElem? (i := 90) rfl))) (hts _ (pm_tb_in 1 _ (List.mem_of_getElem? (i := 9) rfl))) (hs _ u2) hA, ⟨hS, va_Zof (hts _ (pm_tb_in 3 _ (List.mem_of_getElem? (i := 160) rfl))) (hts _ (pm_tb_in 1 _ (List.mem_of_getElem? (i := 13) rfl))) (va_eqi (hs _ u3)) hA, (vx_Zqof (hts _ (pm_tb_in 3 _ (List.mem_of_getElem? (i := 176) rfl))) (hts _ (pm_tb_in 1 _ (List.mem_of_getElem? (i := 15) rfl))) (hs _ u4) hA).1⟩, fun w hw => ?_, fun C hC => va_AO.of (hts _ (st_ao C hC)), fun q hq => ?_, fun k k' h1 h2 h3 => va_Nc.of (hs _ (st_nc k h1 k' h2 h3))⟩
  · have h1 := hts w (st_aw w hw)
    rcases pm_aw_ok w hw with ⟨a, i, x, h, rfl⟩ | ⟨C, T, rfl⟩ | ⟨x, rfl⟩
    · exact va_Nw.of rfl h1
    · exact va_Nw.of rfl h1
    · exact va_Nw.of rfl h1
  · have h1 := hts _ (st_sr q hq)
    simp only [pm_sr, List.mem_cons, List.not_mem_nil, or_false] at hq
    rcases hq with rfl | rfl | rfl | rfl | rfl | rfl | rfl | rfl | rfl | rfl | rfl | rfl | rfl
    · exact vk_R.of (A := #[Value.ref b]) h1 (hev 0 (by decide))
    · exact vk_R.of (A := #[Value.ref b]) h1 (hev 1 (by decide))
    · exact vk_R.of (A := #[Value.ref b]) h1 (hev 2 (by decide))
    · exact vk_R.of (A := #[Value.ref b]) h1 (hev 3 (by decide))
    · exact vk_R.of (A := #[Value.ref b]) h1 (hev 4 (by decide))
    · exact vk_R.of (A := #[Value.ref b]) h1 (hev 5 (by decide))
    · exact vk_R.of (A := #[Value.ref b]) h1 (hev 6 (by decide))
    · exact vk_R.of (A := #[Value.ref b]) h1 (hev 7 (by decide))
    · exact vk_R.of (A := #[Value.ref b]) h1 (hev 8 (by decide))
    · exact vk_R.of (A := #[Value.ref b]) h1 (hev 9 (by decide))
    · exact vk_R.of (A := #[Value.ref b]) h1 (hev 10 (by decide))
    · exact vk_R.of (A := #[Value.ref b]) h1 (hev 11 (by decide))
    · exact vk_R.of (A := #[Value.ref b]) h1 (hev 12 (by decide))
