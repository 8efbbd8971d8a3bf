/-! ===== THE LAW'S ENTRY: what the surroundings give there (written by wip/whole/gen_start.py) ===== -/
def pm_tm (i : Nat) : Term := match pm_sr[i]? with
  | some q => .string q.1 q.2.1
  | none => .string "" 0
def pm_fl : List Jvm.Cond := flatC (Jvm.Cond.and given_1 narrow_1)
set_option maxRecDepth 100000 in
theorem st_ex : ∀ i, i < 13 → Cond.exactly (pm_tm i) "java/lang/String" ∈ pm_fl := by decide +kernel
set_option maxRecDepth 100000 in
theorem st_co : ∀ i, i < 13 → Cond.eq (.field (pm_tm i) "java/lang/String" "coder" "B") (.int 0) ∈ pm_fl := by decide +kernel
set_option maxRecDepth 100000 in
theorem st_ar : ∀ i, i < 13 → Cond.arrayOf (.field (pm_tm i) "java/lang/String" "value" "[B") .byte ∈ pm_fl := by decide +kernel
set_option maxRecDepth 100000 in
theorem st_le : ∀ i, i < 13 → Cond.eq (.length (.field (pm_tm i) "java/lang/String" "value" "[B")) (.int (Int32.ofNat (pm_len13.getD i 0))) ∈ pm_fl := by decide +kernel
set_option maxRecDepth 100000 in
theorem st_el : ∀ i, i < 13 → ∀ j, j < pm_len13.getD i 0 → Cond.eq (.elem (.field (pm_tm i) "java/lang/String" "value" "[B") (.int (Int32.ofNat j))) (.int ((pm_byt13.getD i []).getD j 0)) ∈ pm_fl := by decide +kernel
set_option maxRecDepth 100000 in
theorem ne_0_1 : pm_fl[150]? = some (Cond.not (Cond.eq (pm_tm 0) (pm_tm 1))) := by decide +kernel
set_option maxRecDepth 100000 in
theorem ne_0_2 : pm_fl[183]? = some (Cond.not (Cond.eq (pm_tm 0) (pm_tm 2))) := by decide +kernel
set_option maxRecDepth 100000 in
theorem ne_0_3 : pm_fl[209]? = some (Cond.not (Cond.eq (pm_tm 0) (pm_tm 3))) := by decide +kernel
set_option maxRecDepth 100000 in
theorem ne_0_4 : pm_fl[236]? = some (Cond.not (Cond.eq (pm_tm 0) (pm_tm 4))) := by decide +kernel
set_option maxRecDepth 100000 in
theorem ne_0_5 : pm_fl[270]? = some (Cond.not (Cond.eq (pm_tm 0) (pm_tm 5))) := by decide +kernel
set_option maxRecDepth 100000 in
theorem ne_0_6 : pm_fl[65]? = some (Cond.not (Cond.eq (pm_tm 0) (pm_tm 6))) := by decide +kernel
set_option maxRecDepth 100000 in
theorem ne_0_7 : pm_fl[74]? = some (Cond.not (Cond.eq (pm_tm 0) (pm_tm 7))) := by decide +kernel
set_option maxRecDepth 100000 in
theorem ne_0_8 : pm_fl[116]? = some (Cond.not (Cond.eq (pm_tm 0) (pm_tm 8))) := by decide +kernel
set_option maxRecDepth 100000 in
theorem ne_0_9 : pm_fl[128]? = some (Cond.not (Cond.eq (pm_tm 0) (pm_tm 9))) := by decide +kernel
set_option maxRecDepth 100000 in
theorem ne_0_10 : pm_fl[84]? = some (Cond.not (Cond.eq (pm_tm 0) (pm_tm 10))) := by decide +kernel
set_option maxRecDepth 100000 in
theorem ne_0_11 : pm_fl[93]? = some (Cond.not (Cond.eq (pm_tm 0) (pm_tm 11))) := by decide +kernel
set_option maxRecDepth 100000 in
theorem ne_0_12 : pm_fl[103]? = some (Cond.not (Cond.eq (pm_tm 0) (pm_tm 12))) := by decide +kernel
set_option maxRecDepth 100000 in
theorem ne_1_2 : pm_fl[191]? = some (Cond.not (Cond.eq (pm_tm 1) (pm_tm 2))) := by decide +kernel
set_option maxRecDepth 100000 in
theorem ne_1_3 : pm_fl[217]? = some (Cond.not (Cond.eq (pm_tm 1) (pm_tm 3))) := by decide +kernel
set_option maxRecDepth 100000 in
theorem ne_1_4 : pm_fl[244]? = some (Cond.not (Cond.eq (pm_tm 1) (pm_tm 4))) := by decide +kernel
set_option maxRecDepth 100000 in
theorem ne_1_5 : pm_fl[278]? = some (Cond.not (Cond.eq (pm_tm 1) (pm_tm 5))) := by decide +kernel
set_option maxRecDepth 100000 in
theorem ne_2_3 : pm_fl[218]? = some (Cond.not (Cond.eq (pm_tm 2) (pm_tm 3))) := by decide +kernel
set_option maxRecDepth 100000 in
theorem ne_2_4 : pm_fl[245]? = some (Cond.not (Cond.eq (pm_tm 2) (pm_tm 4))) := by decide +kernel
set_option maxRecDepth 100000 in
theorem ne_2_5 : pm_fl[279]? = some (Cond.not (Cond.eq (pm_tm 2) (pm_tm 5))) := by decide +kernel
set_option maxRecDepth 100000 in
theorem ne_3_4 : pm_fl[246]? = some (Cond.not (Cond.eq (pm_tm 3) (pm_tm 4))) := by decide +kernel
set_option maxRecDepth 100000 in
theorem ne_3_5 : pm_fl[280]? = some (Cond.not (Cond.eq (pm_tm 3) (pm_tm 5))) := by decide +kernel
set_option maxRecDepth 100000 in
theorem ne_4_5 : pm_fl[281]? = some (Cond.not (Cond.eq (pm_tm 4) (pm_tm 5))) := by decide +kernel
set_option maxRecDepth 100000 in
theorem ne_6_1 : pm_fl[151]? = some (Cond.not (Cond.eq (pm_tm 6) (pm_tm 1))) := by decide +kernel
set_option maxRecDepth 100000 in
theorem ne_6_2 : pm_fl[184]? = some (Cond.not (Cond.eq (pm_tm 6) (pm_tm 2))) := by decide +kernel
set_option maxRecDepth 100000 in
theorem ne_6_3 : pm_fl[210]? = some (Cond.not (Cond.eq (pm_tm 6) (pm_tm 3))) := by decide +kernel
set_option maxRecDepth 100000 in
theorem ne_6_4 : pm_fl[237]? = some (Cond.not (Cond.eq (pm_tm 6) (pm_tm 4))) := by decide +kernel
set_option maxRecDepth 100000 in
theorem ne_6_5 : pm_fl[271]? = some (Cond.not (Cond.eq (pm_tm 6) (pm_tm 5))) := by decide +kernel
set_option maxRecDepth 100000 in
theorem ne_6_7 : pm_fl[75]? = some (Cond.not (Cond.eq (pm_tm 6) (pm_tm 7))) := by decide +kernel
set_option maxRecDepth 100000 in
theorem ne_6_8 : pm_fl[117]? = some (Cond.not (Cond.eq (pm_tm 6) (pm_tm 8))) := by decide +kernel
set_option maxRecDepth 100000 in
theorem ne_6_9 : pm_fl[129]? = some (Cond.not (Cond.eq (pm_tm 6) (pm_tm 9))) := by decide +kernel
set_option maxRecDepth 100000 in
theorem ne_6_10 : pm_fl[85]? = some (Cond.not (Cond.eq (pm_tm 6) (pm_tm 10))) := by decide +kernel
set_option maxRecDepth 100000 in
theorem ne_6_11 : pm_fl[94]? = some (Cond.not (Cond.eq (pm_tm 6) (pm_tm 11))) := by decide +kernel
set_option maxRecDepth 100000 in
theorem ne_6_12 : pm_fl[104]? = some (Cond.not (Cond.eq (pm_tm 6) (pm_tm 12))) := by decide +kernel
set_option maxRecDepth 100000 in
theorem ne_7_1 : pm_fl[152]? = some (Cond.not (Cond.eq (pm_tm 7) (pm_tm 1))) := by decide +kernel
set_option maxRecDepth 100000 in
theorem ne_7_2 : pm_fl[185]? = some (Cond.not (Cond.eq (pm_tm 7) (pm_tm 2))) := by decide +kernel
set_option maxRecDepth 100000 in
theorem ne_7_3 : pm_fl[211]? = some (Cond.not (Cond.eq (pm_tm 7) (pm_tm 3))) := by decide +kernel
set_option maxRecDepth 100000 in
theorem ne_7_4 : pm_fl[238]? = some (Cond.not (Cond.eq (pm_tm 7) (pm_tm 4))) := by decide +kernel
set_option maxRecDepth 100000 in
theorem ne_7_5 : pm_fl[272]? = some (Cond.not (Cond.eq (pm_tm 7) (pm_tm 5))) := by decide +kernel
set_option maxRecDepth 100000 in
theorem ne_7_8 : pm_fl[118]? = some (Cond.not (Cond.eq (pm_tm 7) (pm_tm 8))) := by decide +kernel
set_option maxRecDepth 100000 in
theorem ne_7_9 : pm_fl[130]? = some (Cond.not (Cond.eq (pm_tm 7) (pm_tm 9))) := by decide +kernel
set_option maxRecDepth 100000 in
theorem ne_7_10 : pm_fl[86]? = some (Cond.not (Cond.eq (pm_tm 7) (pm_tm 10))) := by decide +kernel
set_option maxRecDepth 100000 in
theorem ne_7_11 : pm_fl[95]? = some (Cond.not (Cond.eq (pm_tm 7) (pm_tm 11))) := by decide +kernel
set_option maxRecDepth 100000 in
theorem ne_7_12 : pm_fl[105]? = some (Cond.not (Cond.eq (pm_tm 7) (pm_tm 12))) := by decide +kernel
set_option maxRecDepth 100000 in
theorem ne_8_1 : pm_fl[156]? = some (Cond.not (Cond.eq (pm_tm 8) (pm_tm 1))) := by decide +kernel
set_option maxRecDepth 100000 in
theorem ne_8_2 : pm_fl[189]? = some (Cond.not (Cond.eq (pm_tm 8) (pm_tm 2))) := by decide +kernel
set_option maxRecDepth 100000 in
theorem ne_8_3 : pm_fl[215]? = some (Cond.not (Cond.eq (pm_tm 8) (pm_tm 3))) := by decide +kernel
set_option maxRecDepth 100000 in
theorem ne_8_4 : pm_fl[242]? = some (Cond.not (Cond.eq (pm_tm 8) (pm_tm 4))) := by decide +kernel
set_option maxRecDepth 100000 in
theorem ne_8_5 : pm_fl[276]? = some (Cond.not (Cond.eq (pm_tm 8) (pm_tm 5))) := by decide +kernel
set_option maxRecDepth 100000 in
theorem ne_8_9 : pm_fl[134]? = some (Cond.not (Cond.eq (pm_tm 8) (pm_tm 9))) := by decide +kernel
set_option maxRecDepth 100000 in
theorem ne_9_1 : pm_fl[157]? = some (Cond.not (Cond.eq (pm_tm 9) (pm_tm 1))) := by decide +kernel
set_option maxRecDepth 100000 in
theorem ne_9_2 : pm_fl[190]? = some (Cond.not (Cond.eq (pm_tm 9) (pm_tm 2))) := by decide +kernel
set_option maxRecDepth 100000 in
theorem ne_9_3 : pm_fl[216]? = some (Cond.not (Cond.eq (pm_tm 9) (pm_tm 3))) := by decide +kernel
set_option maxRecDepth 100000 in
theorem ne_9_4 : pm_fl[243]? = some (Cond.not (Cond.eq (pm_tm 9) (pm_tm 4))) := by decide +kernel
set_option maxRecDepth 100000 in
theorem ne_9_5 : pm_fl[277]? = some (Cond.not (Cond.eq (pm_tm 9) (pm_tm 5))) := by decide +kernel
set_option maxRecDepth 100000 in
theorem ne_10_1 : pm_fl[153]? = some (Cond.not (Cond.eq (pm_tm 10) (pm_tm 1))) := by decide +kernel
set_option maxRecDepth 100000 in
theorem ne_10_2 : pm_fl[186]? = some (Cond.not (Cond.eq (pm_tm 10) (pm_tm 2))) := by decide +kernel
set_option maxRecDepth 100000 in
theorem ne_10_3 : pm_fl[212]? = some (Cond.not (Cond.eq (pm_tm 10) (pm_tm 3))) := by decide +kernel
set_option maxRecDepth 100000 in
theorem ne_10_4 : pm_fl[239]? = some (Cond.not (Cond.eq (pm_tm 10) (pm_tm 4))) := by decide +kernel
set_option maxRecDepth 100000 in
theorem ne_10_5 : pm_fl[273]? = some (Cond.not (Cond.eq (pm_tm 10) (pm_tm 5))) := by decide +kernel
set_option maxRecDepth 100000 in
theorem ne_10_8 : pm_fl[119]? = some (Cond.not (Cond.eq (pm_tm 10) (pm_tm 8))) := by decide +kernel
set_option maxRecDepth 100000 in
theorem ne_10_9 : pm_fl[131]? = some (Cond.not (Cond.eq (pm_tm 10) (pm_tm 9))) := by decide +kernel
set_option maxRecDepth 100000 in
theorem ne_10_11 : pm_fl[96]? = some (Cond.not (Cond.eq (pm_tm 10) (pm_tm 11))) := by decide +kernel
set_option maxRecDepth 100000 in
theorem ne_10_12 : pm_fl[106]? = some (Cond.not (Cond.eq (pm_tm 10) (pm_tm 12))) := by decide +kernel
set_option maxRecDepth 100000 in
theorem ne_11_1 : pm_fl[154]? = some (Cond.not (Cond.eq (pm_tm 11) (pm_tm 1))) := by decide +kernel
set_option maxRecDepth 100000 in
theorem ne_11_2 : pm_fl[187]? = some (Cond.not (Cond.eq (pm_tm 11) (pm_tm 2))) := by decide +kernel
set_option maxRecDepth 100000 in
theorem ne_11_3 : pm_fl[213]? = some (Cond.not (Cond.eq (pm_tm 11) (pm_tm 3))) := by decide +kernel
set_option maxRecDepth 100000 in
theorem ne_11_4 : pm_fl[240]? = some (Cond.not (Cond.eq (pm_tm 11) (pm_tm 4))) := by decide +kernel
set_option maxRecDepth 100000 in
theorem ne_11_5 : pm_fl[274]? = some (Cond.not (Cond.eq (pm_tm 11) (pm_tm 5))) := by decide +kernel
set_option maxRecDepth 100000 in
theorem ne_11_8 : pm_fl[120]? = some (Cond.not (Cond.eq (pm_tm 11) (pm_tm 8))) := by decide +kernel
set_option maxRecDepth 100000 in
theorem ne_11_9 : pm_fl[132]? = some (Cond.not (Cond.eq (pm_tm 11) (pm_tm 9))) := by decide +kernel
set_option maxRecDepth 100000 in
theorem ne_11_12 : pm_fl[107]? = some (Cond.not (Cond.eq (pm_tm 11) (pm_tm 12))) := by decide +kernel
set_option maxRecDepth 100000 in
theorem ne_12_1 : pm_fl[155]? = some (Cond.not (Cond.eq (pm_tm 12) (pm_tm 1))) := by decide +kernel
set_option maxRecDepth 100000 in
theorem ne_12_2 : pm_fl[188]? = some (Cond.not (Cond.eq (pm_tm 12) (pm_tm 2))) := by decide +kernel
set_option maxRecDepth 100000 in
theorem ne_12_3 : pm_fl[214]? = some (Cond.not (Cond.eq (pm_tm 12) (pm_tm 3))) := by decide +kernel
set_option maxRecDepth 100000 in
theorem ne_12_4 : pm_fl[241]? = some (Cond.not (Cond.eq (pm_tm 12) (pm_tm 4))) := by decide +kernel
set_option maxRecDepth 100000 in
theorem ne_12_5 : pm_fl[275]? = some (Cond.not (Cond.eq (pm_tm 12) (pm_tm 5))) := by decide +kernel
set_option maxRecDepth 100000 in
theorem ne_12_8 : pm_fl[121]? = some (Cond.not (Cond.eq (pm_tm 12) (pm_tm 8))) := by decide +kernel
set_option maxRecDepth 100000 in
theorem ne_12_9 : pm_fl[133]? = some (Cond.not (Cond.eq (pm_tm 12) (pm_tm 9))) := by decide +kernel
theorem st_ne : ∀ i, i < 13 → ∀ j, j < 13 → i ≠ j → Cond.not (Cond.eq (pm_tm i) (pm_tm j)) ∈ pm_fl ∨ Cond.not (Cond.eq (pm_tm j) (pm_tm i)) ∈ pm_fl := by
  intro i hi j hj hij
  match i, hi with
  | 0, _ => match j, hj, hij with
    | 0, _, h => exact absurd rfl h
    | 1, _, _ => exact Or.inl (List.mem_of_getElem? ne_0_1)
    | 2, _, _ => exact Or.inl (List.mem_of_getElem? ne_0_2)
    | 3, _, _ => exact Or.inl (List.mem_of_getElem? ne_0_3)
    | 4, _, _ => exact Or.inl (List.mem_of_getElem? ne_0_4)
    | 5, _, _ => exact Or.inl (List.mem_of_getElem? ne_0_5)
    | 6, _, _ => exact Or.inl (List.mem_of_getElem? ne_0_6)
    | 7, _, _ => exact Or.inl (List.mem_of_getElem? ne_0_7)
    | 8, _, _ => exact Or.inl (List.mem_of_getElem? ne_0_8)
    | 9, _, _ => exact Or.inl (List.mem_of_getElem? ne_0_9)
    | 10, _, _ => exact Or.inl (List.mem_of_getElem? ne_0_10)
    | 11, _, _ => exact Or.inl (List.mem_of_getElem? ne_0_11)
    | 12, _, _ => exact Or.inl (List.mem_of_getElem? ne_0_12)
  | 1, _ => match j, hj, hij with
    | 0, _, _ => exact Or.inr (List.mem_of_getElem? ne_0_1)
    | 1, _, h => exact absurd rfl h
    | 2, _, _ => exact Or.inl (List.mem_of_getElem? ne_1_2)
    | 3, _, _ => exact Or.inl (List.mem_of_getElem? ne_1_3)
    | 4, _, _ => exact Or.inl (List.mem_of_getElem? ne_1_4)
    | 5, _, _ => exact Or.inl (List.mem_of_getElem? ne_1_5)
    | 6, _, _ => exact Or.inr (List.mem_of_getElem? ne_6_1)
    | 7, _, _ => exact Or.inr (List.mem_of_getElem? ne_7_1)
    | 8, _, _ => exact Or.inr (List.mem_of_getElem? ne_8_1)
    | 9, _, _ => exact Or.inr (List.mem_of_getElem? ne_9_1)
    | 10, _, _ => exact Or.inr (List.mem_of_getElem? ne_10_1)
    | 11, _, _ => exact Or.inr (List.mem_of_getElem? ne_11_1)
    | 12, _, _ => exact Or.inr (List.mem_of_getElem? ne_12_1)
  | 2, _ => match j, hj, hij with
    | 0, _, _ => exact Or.inr (List.mem_of_getElem? ne_0_2)
    | 1, _, _ => exact Or.inr (List.mem_of_getElem? ne_1_2)
    | 2, _, h => exact absurd rfl h
    | 3, _, _ => exact Or.inl (List.mem_of_getElem? ne_2_3)
    | 4, _, _ => exact Or.inl (List.mem_of_getElem? ne_2_4)
    | 5, _, _ => exact Or.inl (List.mem_of_getElem? ne_2_5)
    | 6, _, _ => exact Or.inr (List.mem_of_getElem? ne_6_2)
    | 7, _, _ => exact Or.inr (List.mem_of_getElem? ne_7_2)
    | 8, _, _ => exact Or.inr (List.mem_of_getElem? ne_8_2)
    | 9, _, _ => exact Or.inr (List.mem_of_getElem? ne_9_2)
    | 10, _, _ => exact Or.inr (List.mem_of_getElem? ne_10_2)
    | 11, _, _ => exact Or.inr (List.mem_of_getElem? ne_11_2)
    | 12, _, _ => exact Or.inr (List.mem_of_getElem? ne_12_2)
  | 3, _ => match j, hj, hij with
    | 0, _, _ => exact Or.inr (List.mem_of_getElem? ne_0_3)
    | 1, _, _ => exact Or.inr (List.mem_of_getElem? ne_1_3)
    | 2, _, _ => exact Or.inr (List.mem_of_getElem? ne_2_3)
    | 3, _, h => exact absurd rfl h
    | 4, _, _ => exact Or.inl (List.mem_of_getElem? ne_3_4)
    | 5, _, _ => exact Or.inl (List.mem_of_getElem? ne_3_5)
    | 6, _, _ => exact Or.inr (List.mem_of_getElem? ne_6_3)
    | 7, _, _ => exact Or.inr (List.mem_of_getElem? ne_7_3)
    | 8, _, _ => exact Or.inr (List.mem_of_getElem? ne_8_3)
    | 9, _, _ => exact Or.inr (List.mem_of_getElem? ne_9_3)
    | 10, _, _ => exact Or.inr (List.mem_of_getElem? ne_10_3)
    | 11, _, _ => exact Or.inr (List.mem_of_getElem? ne_11_3)
    | 12, _, _ => exact Or.inr (List.mem_of_getElem? ne_12_3)
  | 4, _ => match j, hj, hij with
    | 0, _, _ => exact Or.inr (List.mem_of_getElem? ne_0_4)
    | 1, _, _ => exact Or.inr (List.mem_of_getElem? ne_1_4)
    | 2, _, _ => exact Or.inr (List.mem_of_getElem? ne_2_4)
    | 3, _, _ => exact Or.inr (List.mem_of_getElem? ne_3_4)
    | 4, _, h => exact absurd rfl h
    | 5, _, _ => exact Or.inl (List.mem_of_getElem? ne_4_5)
    | 6, _, _ => exact Or.inr (List.mem_of_getElem? ne_6_4)
    | 7, _, _ => exact Or.inr (List.mem_of_getElem? ne_7_4)
    | 8, _, _ => exact Or.inr (List.mem_of_getElem? ne_8_4)
    | 9, _, _ => exact Or.inr (List.mem_of_getElem? ne_9_4)
    | 10, _, _ => exact Or.inr (List.mem_of_getElem? ne_10_4)
    | 11, _, _ => exact Or.inr (List.mem_of_getElem? ne_11_4)
    | 12, _, _ => exact Or.inr (List.mem_of_getElem? ne_12_4)
  | 5, _ => match j, hj, hij with
    | 0, _, _ => exact Or.inr (List.mem_of_getElem? ne_0_5)
    | 1, _, _ => exact Or.inr (List.mem_of_getElem? ne_1_5)
    | 2, _, _ => exact Or.inr (List.mem_of_getElem? ne_2_5)
    | 3, _, _ => exact Or.inr (List.mem_of_getElem? ne_3_5)
    | 4, _, _ => exact Or.inr (List.mem_of_getElem? ne_4_5)
    | 5, _, h => exact absurd rfl h
    | 6, _, _ => exact Or.inr (List.mem_of_getElem? ne_6_5)
    | 7, _, _ => exact Or.inr (List.mem_of_getElem? ne_7_5)
    | 8, _, _ => exact Or.inr (List.mem_of_getElem? ne_8_5)
    | 9, _, _ => exact Or.inr (List.mem_of_getElem? ne_9_5)
    | 10, _, _ => exact Or.inr (List.mem_of_getElem? ne_10_5)
    | 11, _, _ => exact Or.inr (List.mem_of_getElem? ne_11_5)
    | 12, _, _ => exact Or.inr (List.mem_of_getElem? ne_12_5)
  | 6, _ => match j, hj, hij with
    | 0, _, _ => exact Or.inr (List.mem_of_getElem? ne_0_6)
    | 1, _, _ => exact Or.inl (List.mem_of_getElem? ne_6_1)
    | 2, _, _ => exact Or.inl (List.mem_of_getElem? ne_6_2)
    | 3, _, _ => exact Or.inl (List.mem_of_getElem? ne_6_3)
    | 4, _, _ => exact Or.inl (List.mem_of_getElem? ne_6_4)
    | 5, _, _ => exact Or.inl (List.mem_of_getElem? ne_6_5)
    | 6, _, h => exact absurd rfl h
    | 7, _, _ => exact Or.inl (List.mem_of_getElem? ne_6_7)
    | 8, _, _ => exact Or.inl (List.mem_of_getElem? ne_6_8)
    | 9, _, _ => exact Or.inl (List.mem_of_getElem? ne_6_9)
    | 10, _, _ => exact Or.inl (List.mem_of_getElem? ne_6_10)
    | 11, _, _ => exact Or.inl (List.mem_of_getElem? ne_6_11)
    | 12, _, _ => exact Or.inl (List.mem_of_getElem? ne_6_12)
  | 7, _ => match j, hj, hij with
    | 0, _, _ => exact Or.inr (List.mem_of_getElem? ne_0_7)
    | 1, _, _ => exact Or.inl (List.mem_of_getElem? ne_7_1)
    | 2, _, _ => exact Or.inl (List.mem_of_getElem? ne_7_2)
    | 3, _, _ => exact Or.inl (List.mem_of_getElem? ne_7_3)
    | 4, _, _ => exact Or.inl (List.mem_of_getElem? ne_7_4)
    | 5, _, _ => exact Or.inl (List.mem_of_getElem? ne_7_5)
    | 6, _, _ => exact Or.inr (List.mem_of_getElem? ne_6_7)
    | 7, _, h => exact absurd rfl h
    | 8, _, _ => exact Or.inl (List.mem_of_getElem? ne_7_8)
    | 9, _, _ => exact Or.inl (List.mem_of_getElem? ne_7_9)
    | 10, _, _ => exact Or.inl (List.mem_of_getElem? ne_7_10)
    | 11, _, _ => exact Or.inl (List.mem_of_getElem? ne_7_11)
    | 12, _, _ => exact Or.inl (List.mem_of_getElem? ne_7_12)
  | 8, _ => match j, hj, hij with
    | 0, _, _ => exact Or.inr (List.mem_of_getElem? ne_0_8)
    | 1, _, _ => exact Or.inl (List.mem_of_getElem? ne_8_1)
    | 2, _, _ => exact Or.inl (List.mem_of_getElem? ne_8_2)
    | 3, _, _ => exact Or.inl (List.mem_of_getElem? ne_8_3)
    | 4, _, _ => exact Or.inl (List.mem_of_getElem? ne_8_4)
    | 5, _, _ => exact Or.inl (List.mem_of_getElem? ne_8_5)
    | 6, _, _ => exact Or.inr (List.mem_of_getElem? ne_6_8)
    | 7, _, _ => exact Or.inr (List.mem_of_getElem? ne_7_8)
    | 8, _, h => exact absurd rfl h
    | 9, _, _ => exact Or.inl (List.mem_of_getElem? ne_8_9)
    | 10, _, _ => exact Or.inr (List.mem_of_getElem? ne_10_8)
    | 11, _, _ => exact Or.inr (List.mem_of_getElem? ne_11_8)
    | 12, _, _ => exact Or.inr (List.mem_of_getElem? ne_12_8)
  | 9, _ => match j, hj, hij with
    | 0, _, _ => exact Or.inr (List.mem_of_getElem? ne_0_9)
    | 1, _, _ => exact Or.inl (List.mem_of_getElem? ne_9_1)
    | 2, _, _ => exact Or.inl (List.mem_of_getElem? ne_9_2)
    | 3, _, _ => exact Or.inl (List.mem_of_getElem? ne_9_3)
    | 4, _, _ => exact Or.inl (List.mem_of_getElem? ne_9_4)
    | 5, _, _ => exact Or.inl (List.mem_of_getElem? ne_9_5)
    | 6, _, _ => exact Or.inr (List.mem_of_getElem? ne_6_9)
    | 7, _, _ => exact Or.inr (List.mem_of_getElem? ne_7_9)
    | 8, _, _ => exact Or.inr (List.mem_of_getElem? ne_8_9)
    | 9, _, h => exact absurd rfl h
    | 10, _, _ => exact Or.inr (List.mem_of_getElem? ne_10_9)
    | 11, _, _ => exact Or.inr (List.mem_of_getElem? ne_11_9)
    | 12, _, _ => exact Or.inr (List.mem_of_getElem? ne_12_9)
  | 10, _ => match j, hj, hij with
    | 0, _, _ => exact Or.inr (List.mem_of_getElem? ne_0_10)
    | 1, _, _ => exact Or.inl (List.mem_of_getElem? ne_10_1)
    | 2, _, _ => exact Or.inl (List.mem_of_getElem? ne_10_2)
    | 3, _, _ => exact Or.inl (List.mem_of_getElem? ne_10_3)
    | 4, _, _ => exact Or.inl (List.mem_of_getElem? ne_10_4)
    | 5, _, _ => exact Or.inl (List.mem_of_getElem? ne_10_5)
    | 6, _, _ => exact Or.inr (List.mem_of_getElem? ne_6_10)
    | 7, _, _ => exact Or.inr (List.mem_of_getElem? ne_7_10)
    | 8, _, _ => exact Or.inl (List.mem_of_getElem? ne_10_8)
    | 9, _, _ => exact Or.inl (List.mem_of_getElem? ne_10_9)
    | 10, _, h => exact absurd rfl h
    | 11, _, _ => exact Or.inl (List.mem_of_getElem? ne_10_11)
    | 12, _, _ => exact Or.inl (List.mem_of_getElem? ne_10_12)
  | 11, _ => match j, hj, hij with
    | 0, _, _ => exact Or.inr (List.mem_of_getElem? ne_0_11)
    | 1, _, _ => exact Or.inl (List.mem_of_getElem? ne_11_1)
    | 2, _, _ => exact Or.inl (List.mem_of_getElem? ne_11_2)
    | 3, _, _ => exact Or.inl (List.mem_of_getElem? ne_11_3)
    | 4, _, _ => exact Or.inl (List.mem_of_getElem? ne_11_4)
    | 5, _, _ => exact Or.inl (List.mem_of_getElem? ne_11_5)
    | 6, _, _ => exact Or.inr (List.mem_of_getElem? ne_6_11)
    | 7, _, _ => exact Or.inr (List.mem_of_getElem? ne_7_11)
    | 8, _, _ => exact Or.inl (List.mem_of_getElem? ne_11_8)
    | 9, _, _ => exact Or.inl (List.mem_of_getElem? ne_11_9)
    | 10, _, _ => exact Or.inr (List.mem_of_getElem? ne_10_11)
    | 11, _, h => exact absurd rfl h
    | 12, _, _ => exact Or.inl (List.mem_of_getElem? ne_11_12)
  | 12, _ => match j, hj, hij with
    | 0, _, _ => exact Or.inr (List.mem_of_getElem? ne_0_12)
    | 1, _, _ => exact Or.inl (List.mem_of_getElem? ne_12_1)
    | 2, _, _ => exact Or.inl (List.mem_of_getElem? ne_12_2)
    | 3, _, _ => exact Or.inl (List.mem_of_getElem? ne_12_3)
    | 4, _, _ => exact Or.inl (List.mem_of_getElem? ne_12_4)
    | 5, _, _ => exact Or.inl (List.mem_of_getElem? ne_12_5)
    | 6, _, _ => exact Or.inr (List.mem_of_getElem? ne_6_12)
    | 7, _, _ => exact Or.inr (List.mem_of_getElem? ne_7_12)
    | 8, _, _ => exact Or.inl (List.mem_of_getElem? ne_12_8)
    | 9, _, _ => exact Or.inl (List.mem_of_getElem? ne_12_9)
    | 10, _, _ => exact Or.inr (List.mem_of_getElem? ne_10_12)
    | 11, _, _ => exact Or.inr (List.mem_of_getElem? ne_11_12)
    | 12, _, h => exact absurd rfl h
set_option maxRecDepth 100000 in
theorem st_nc : ∀ k, k < 3 → ∀ k', k' < 3 → k ≠ k' → Cond.not (.castable (pm_en k) (pm_en k')) ∈ pm_fl := by decide +kernel
set_option maxRecDepth 100000 in
theorem st_u : Cond.isRef (.static Bundle.tN "UNASSIGNED_STACK" Bundle.steD) ∈ pm_fl ∧ Cond.isRef (.static Bundle.tN "SUPPRESSED_SENTINEL" Bundle.listD) ∈ pm_fl ∧ Cond.eq (.static "java/lang/String" "COMPACT_STRINGS" "Z") (.int 1) ∈ pm_fl ∧ Cond.isRef (.static "jdk/internal/util/Preconditions" "SIOOBE_FORMATTER" "Ljava/util/function/BiFunction;") ∈ pm_fl := by decide +kernel
set_option maxRecDepth 100000 in
theorem st_aw : ∀ w ∈ pm_aw, w ∈ lw_tbl := by
  intro w hw
  simp only [pm_aw, List.mem_cons, List.not_mem_nil, or_false] at hw
  rcases hw with rfl | rfl | rfl | rfl | rfl | rfl | rfl | rfl | rfl | rfl | rfl | rfl | rfl
  · exact (pm_tb_in 1 _ (List.mem_of_getElem? (i := 31) rfl))
  · exact (pm_tb_in 1 _ (List.mem_of_getElem? (i := 111) rfl))
  · exact (pm_tb_in 2 _ (List.mem_of_getElem? (i := 155) rfl))
  · exact (pm_tb_in 2 _ (List.mem_of_getElem? (i := 170) rfl))
  · exact (pm_tb_in 3 _ (List.mem_of_getElem? (i := 63) rfl))
  · exact (pm_tb_in 4 _ (List.mem_of_getElem? (i := 39) rfl))
  · exact (pm_tb_in 4 _ (List.mem_of_getElem? (i := 71) rfl))
  · exact (pm_tb_in 3 _ (List.mem_of_getElem? (i := 64) rfl))
  · exact (pm_tb_in 3 _ (List.mem_of_getElem? (i := 65) rfl))
  · exact (pm_tb_in 3 _ (List.mem_of_getElem? (i := 66) rfl))
  · exact (pm_tb_in 3 _ (List.mem_of_getElem? (i := 67) rfl))
  · exact (pm_tb_in 3 _ (List.mem_of_getElem? (i := 68) rfl))
  · exact (pm_tb_in 3 _ (List.mem_of_getElem? (i := 69) rfl))
set_option maxRecDepth 100000 in
theorem st_ao : ∀ C ∈ pm_ao, Cond.arrayOver (.object C) ∈ lw_tbl := by
  intro w hw
  simp only [pm_ao, List.mem_cons, List.not_mem_nil, or_false] at hw
  rcases hw with rfl | rfl
  · exact (pm_tb_in 1 _ (List.mem_of_getElem? (i := 109) rfl))
  · exact (pm_tb_in 1 _ (List.mem_of_getElem? (i := 188) rfl))
set_option maxRecDepth 100000 in
theorem st_sr : ∀ q ∈ pm_sr, Cond.stringRef q.1 q.2.1 q.2.2.1 ∈ lw_tbl := by
  intro q hq
  simp only [pm_sr, List.mem_cons, List.not_mem_nil, or_false] at hq
  rcases hq with rfl | rfl | rfl | rfl | rfl | rfl | rfl | rfl | rfl | rfl | rfl | rfl | rfl
  · exact (pm_tb_in 3 _ (List.mem_of_getElem? (i := 102) rfl))
  · exact (pm_tb_in 4 _ (List.mem_of_getElem? (i := 17) rfl))
  · exact (pm_tb_in 4 _ (List.mem_of_getElem? (i := 36) rfl))
  · exact (pm_tb_in 4 _ (List.mem_of_getElem? (i := 46) rfl))
  · exact (pm_tb_in 4 _ (List.mem_of_getElem? (i := 78) rfl))
  · exact (pm_tb_in 4 _ (List.mem_of_getElem? (i := 100) rfl))
  · exact (pm_tb_in 3 _ (List.mem_of_getElem? (i := 146) rfl))
  · exact (pm_tb_in 3 _ (List.mem_of_getElem? (i := 211) rfl))
  · exact (pm_tb_in 3 _ (List.mem_of_getElem? (i := 238) rfl))
  · exact (pm_tb_in 4 _ (List.mem_of_getElem? (i := 3) rfl))
  · exact (pm_tb_in 3 _ (List.mem_of_getElem? (i := 231) rfl))
  · exact (pm_tb_in 3 _ (List.mem_of_getElem? (i := 232) rfl))
  · exact (pm_tb_in 3 _ (List.mem_of_getElem? (i := 233) rfl))
set_option maxRecDepth 100000 in
theorem pm_amb0 {s : State} {b : Nat} (hts : ∀ w ∈ lw_tbl, w.before #[Value.ref b] s = true) (hn : (Jvm.Cond.and given_1 narrow_1).before #[Value.ref b] s = true) :
    ∃ V adV : Nat → Nat, V 0 = b ∧ pm_Am V adV 13 pm_len13 pm_byt13 pm_aw pm_ao pm_sr (va_A [] s.heap.size) s s.heap := by
  have hs : ∀ w ∈ pm_fl, w.before #[Value.ref b] s = true := flat_of_before _ hn
  have hA : ∀ a : Nat, a < s.heap.size → ¬ va_A [] s.heap.size a := by
    intro a ha hq
    rcases hq with ⟨k, e, hk⟩ | hq
    · cases hk
    · omega
  obtain ⟨u1, u2, u3, u4⟩ := st_u
  obtain ⟨adK, adV, hS, hev⟩ := vk_Sof (args := #[Value.ref b]) (s := s) (N := 13) (tm := pm_tm) (len := pm_len13) (byt := pm_byt13) (A := va_A [] s.heap.size) (fun i hi => by have := (pm_tx_len i hi).2; omega) (fun i hi => hs _ (st_ex i hi)) (fun i hi => hs _ (st_co i hi)) (fun i hi => hs _ (st_ar i hi)) (fun i hi => hs _ (st_le i hi)) (fun i hi j hj => hs _ (st_el i hi j hj))
    (fun i j hi hj hij => by rcases st_ne i hi j hj hij with h | h; exact Or.inl (hs _ h); exact Or.inr (hs _ h)) hA
  refine ⟨fun j => match j with | 0 => b | j + 1 => adK j, adV, rfl, vx_Zqof (hts _ (pm_tb_in 3 _ (List.mem_of_getElem? (i := 88) rfl))) (hts _ (pm_tb_in 1 _ (List.mem_of_getElem? (i := 9) rfl))) (hs _ u1) hA, vx_Zqof (hts _ (pm_tb_in 3 _ (List.mem_of_getElem? (i := 90) rfl))) (hts _ (pm_tb_in 1 _ (List.mem_of_getElem? (i := 9) rfl))) (hs _ u2) hA, ⟨hS, va_Zof (hts _ (pm_tb_in 3 _ (List.mem_of_getElem? (i := 160) rfl))) (hts _ (pm_tb_in 1 _ (List.mem_of_getElem? (i := 13) rfl))) (va_eqi (hs _ u3)) hA, (vx_Zqof (hts _ (pm_tb_in 3 _ (List.mem_of_getElem? (i := 176) rfl))) (hts _ (pm_tb_in 1 _ (List.mem_of_getElem? (i := 15) rfl))) (hs _ u4) hA).1⟩, fun w hw => ?_, fun C hC => va_AO.of (hts _ (st_ao C hC)), fun q hq => ?_, fun k k' h1 h2 h3 => va_Nc.of (hs _ (st_nc k h1 k' h2 h3))⟩
  · have h1 := hts w (st_aw w hw)
    rcases pm_aw_ok w hw with ⟨a, i, x, h, rfl⟩ | ⟨C, T, rfl⟩ | ⟨x, rfl⟩
    · exact va_Nw.of rfl h1
    · exact va_Nw.of rfl h1
    · exact va_Nw.of rfl h1
  · have h1 := hts _ (st_sr q hq)
    simp only [pm_sr, List.mem_cons, List.not_mem_nil, or_false] at hq
    rcases hq with rfl | rfl | rfl | rfl | rfl | rfl | rfl | rfl | rfl | rfl | rfl | rfl | rfl
    · exact vk_R.of (A := #[Value.ref b]) h1 (hev 0 (by decide))
    · exact vk_R.of (A := #[Value.ref b]) h1 (hev 1 (by decide))
    · exact vk_R.of (A := #[Value.ref b]) h1 (hev 2 (by decide))
    · exact vk_R.of (A := #[Value.ref b]) h1 (hev 3 (by decide))
    · exact vk_R.of (A := #[Value.ref b]) h1 (hev 4 (by decide))
    · exact vk_R.of (A := #[Value.ref b]) h1 (hev 5 (by decide))
    · exact vk_R.of (A := #[Value.ref b]) h1 (hev 6 (by decide))
    · exact vk_R.of (A := #[Value.ref b]) h1 (hev 7 (by decide))
    · exact vk_R.of (A := #[Value.ref b]) h1 (hev 8 (by decide))
    · exact vk_R.of (A := #[Value.ref b]) h1 (hev 9 (by decide))
    · exact vk_R.of (A := #[Value.ref b]) h1 (hev 10 (by decide))
    · exact vk_R.of (A := #[Value.ref b]) h1 (hev 11 (by decide))
    · exact vk_R.of (A := #[Value.ref b]) h1 (hev 12 (by decide))
