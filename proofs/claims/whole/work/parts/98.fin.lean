/-! ===== THE START: the state at the law's first round, and the law ===== -/
theorem ar_two (x y : Nat) (c : Nat) (h0 : cc c 0 = x) (h1 : cc c 1 = y) : ar [vR x, vR y] = rg c := by
  funext j
  match j with
  | 0 => show some x = rg c 0; unfold rg; rw [if_pos (by omega), h0]
  | 1 => show some y = rg c 1; unfold rg; rw [if_pos (by omega), h1]
  | j + 2 => show none = rg c (j + 2); unfold rg; rw [if_neg (by omega)]
theorem s00_A {f : Nat} (h : ¬ (f = 300 ∨ f = 302)) (i : Nat) : sA s00 f i = fun _ => 0 := by
  show (if f = 300 ∨ f = 302 then af L3 else fun _ => 0) = _
  rw [if_neg h]
theorem s00_L {f : Nat} (h : f = 300 ∨ f = 302) (i : Nat) : sA s00 f i = af L3 := by
  show (if f = 300 ∨ f = 302 then af L3 else fun _ => 0) = _
  rw [if_pos h]
theorem s00_B (f i : Nat) : sB s00 f i = fun _ => 0 := rfl
theorem s00_D : sD s00 = fun _ => 0 := rfl
theorem w1_arr (f i : Nat) (h : ¬ (f = 300 ∨ f = 302)) : ab1 (2, (aty f).1, [vI ((aty f).2 : Int)]) = arr f i s00 := by
  unfold arr
  rw [s00_A h, s00_B, s00_D]
  generalize aty f = t
  obtain ⟨t, n⟩ := t
  match t with
  | 0 => rfl
  | 1 => rfl
  | 2 => rfl
  | 3 => rfl
  | 4 => rfl
  | t + 5 => rfl
theorem w1_cel : ∀ q : Nat × Nat × Nat, ab1 (w1 q) = cel1 s00 q := by
  rintro ⟨k, f, i⟩
  match k with
  | 0 => rfl
  | 1 =>
    show ab1 (if f = 300 ∨ f = 302 then (1, 0, L3) else (2, (aty f).1, [vI ((aty f).2 : Int)])) = arr f i s00
    by_cases h : f = 300 ∨ f = 302
    · rw [if_pos h]
      unfold arr
      rw [s00_L h]
      rcases h with rfl | rfl <;> rfl
    · rw [if_neg h]
      exact w1_arr f i h
  | k + 2 =>
    show ab1 (if f = 501 then (3, 0, [vR 9, vR 23]) else (3, 2, [vR 38, vR 41])) = rarr f
    unfold rarr
    by_cases h : f = 501
    · rw [if_pos h, if_pos h, ← ar_two 9 23 0 rfl rfl]
      rfl
    · rw [if_neg h, if_neg h, ← ar_two 38 41 2 rfl rfl]
      rfl
theorem boot_w : ab (shpL.map w1) = pW s00 := by
  unfold ab pW
  rw [List.map_map]
  refine Prod.ext ?_ rfl
  exact List.map_congr_left (fun q _ => w1_cel q)
theorem L3_at : ∀ t : Nat, t < 12 → af L3 t = 3 := by decide +kernel
theorem fb_z0 (m : Nat) : fb m (0 : UInt32) := fb0 m
theorem nn_z0 : nn (0 : UInt32) := nn0
theorem inv_P (a : Nat) : gPs s00 a := by
  show gP a 0 (af L3) (fun _ => 0) (af L3) (fun _ => 0) (fun _ => 0) (fun _ => 0) (fun _ => 0) (fun _ => 0) (fun _ => 0)
  refine ⟨rfl, by omega, by omega, fun t ht => ⟨fun h => absurd h (by omega), fun _ => ⟨L3_at t ht, L3_at t ht⟩, fun _ => rfl, ?_, ?_, ?_, ?_, nn_z0, fb_z0 14, nn_z0, fb_z0 14⟩⟩ <;> rw [L3_at t ht] <;> omega
theorem inv_I (a : Nat) : gIs s00 a := by
  show gI a 0 (fun _ => 0) (fun _ => 0) (fun _ => 0) (fun _ => 0) (fun _ => 0) (fun _ => 0) (fun _ => 0) (fun _ => 0)
  exact fun j hj => ⟨fun h => absurd h (by omega), fun _ => ⟨rfl, rfl⟩, nn_z0, fb_z0 12, nn_z0, fb_z0 12⟩
theorem inv_S (a : Nat) : gSs s00 a := by
  show gS a 0 0 0 (fun _ => 0) (fun _ => 0) (fun _ => 0)
  exact ⟨rfl, rfl, rfl, by omega, by omega, nn_z0, fb_z0 12, nn_z0, fb_z0 12⟩
theorem inv_L (a : Nat) : gLs s00 a := by
  show gL a 0 0 0 (-1) (fun _ => 0) (fun _ => 0) (fun _ => 0) (fun _ => 0) 0 (fun _ => 0) (fun _ => 0) (fun _ => 0) (fun _ => 0) (fun _ => 0) (fun _ => 0)
  exact ⟨Or.inl ⟨rfl, rfl, rfl, rfl⟩, fb_z0 120, by omega, by omega, fun j hj => ⟨fun h => absurd h (by omega), fun _ => rfl⟩⟩
theorem inv_s00 : Inv s00 := by
  refine ⟨?_, rfl, inv_P 0, inv_P 1, ?_, inv_I 0, inv_I 1, ?_, inv_S 0, inv_S 1, inv_L 0, inv_L 1, fun j hj => Iff.rfl⟩
  · show gT 0 0 (fun _ => 0) (fun _ => 0)
    exact ⟨rfl, by omega, by omega, fun j h => absurd h (by omega)⟩
  · show gC 0 0
    exact ⟨rfl, by omega, by omega⟩
  · show gF 0 0 1 0
    exact ⟨Or.inl ⟨rfl, rfl⟩, rfl, Or.inl rfl⟩
/-! how much room the world takes -/
def szc (q : Nat × Nat × Nat) : Nat := match q.1 with
  | 0 => pm_N q.2.1
  | 1 => (aty q.2.1).2
  | _ => 2
theorem size_arr (f i : Nat) (s : pS) : pm_size (arr f i s) = (aty f).2 := by
  unfold arr
  generalize aty f = t
  obtain ⟨t, n⟩ := t
  match t with
  | 0 => rfl
  | 1 => rfl
  | 2 => rfl
  | 3 => rfl
  | 4 => rfl
  | t + 5 => rfl
theorem size_cel (s : pS) : ∀ q : Nat × Nat × Nat, pm_size (cel1 s q) = szc q := by
  rintro ⟨k, f, i⟩
  match k with
  | 0 => rfl
  | 1 => exact size_arr f i s
  | k + 2 =>
    show pm_size (rarr f) = 2
    unfold rarr
    by_cases h : f = 501
    · rw [if_pos h]; rfl
    · rw [if_neg h]; rfl
theorem used_pW (s : pS) : pm_used (pW s) = 75 + sN s := by
  show (shpL.map (cel1 s)).length + sN s = _
  rw [List.length_map]
  rfl
theorem slots_pW (s : pS) : pm_slots (pW s) ≤ 1853 + 6 * sN s := by
  show ((shpL.map (cel1 s)).map pm_size).sum + 6 * sN s ≤ _
  have e : (shpL.map (cel1 s)).map pm_size = shpL.map szc := by
    rw [List.map_map]
    exact List.map_congr_left (fun q _ => size_cel s q)
  rw [e]
  have h : (shpL.map szc).sum ≤ 1853 := by decide +kernel
  omega
set_option maxRecDepth 10000 in
set_option maxHeartbeats 4000000 in
theorem pm_law_all (L : Nat) (xs : Nat → Int32) (hL : L ≤ 240) : pm_law L xs := by
  obtain ⟨q, hq, h1, h2⟩ := law_run L (fun j => (xs j).toInt) hL (fun _ => none) (fun _ => none) (fun _ => none) (fun _ _ _ => none) 48 400 0 s00 (by omega) (by omega) (by omega) (by omega) inv_s00 (by show 0 + 48 ≤ 48; omega)
  have e : eI q = fun o h => o = .inl (some (vI 1)) ∧ h = pW q.2 := by unfold eI; rw [h1]
  refine ⟨pW q.2, ?_, ?_, ?_⟩
  · intro X hX
    have hX2 : pm_clo L (fun j => (xs j).toInt) (pCall pm_tx 1001 (fun j => (xs j).toInt) pm_P 14) 14 mL_law (eI q) X := by rw [e]; exact hX
    refine xpre_ok (K := xcall 14) (xcall_ok 14) hX2 ?_ 16 _ _ _ [] boot_ev
    rw [boot_w]
    refine t_L_law_28 (by omega) q X hX2 (fun _ => none) (fun _ => none) (fun _ => none) (fun _ _ _ => none) (fun s => some (1, s)) (fun _ _ _ _ _ _ _ _ _ _ _ h => by cases h) (fun _ _ _ _ _ _ _ _ _ _ _ h => by cases h) (fun _ _ _ _ _ _ _ _ _ _ _ h => by cases h) (fun _ _ _ _ _ _ _ _ _ h => by cases h) (fun d0 d1 d2 d3 d4 d5 d6 d7 d8 d9 s h => ?_) 400 0 none none none none s00 hq
    refine r_iconst hX2 (p2 := 1018) rfl rfl rfl ?_
    exact r_iretZ hX2 rfl rfl (Or.inr rfl) (eI_ok h)
  · rw [used_pW]
    omega
  · have := slots_pW q.2
    omega
