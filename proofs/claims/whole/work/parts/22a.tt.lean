/-! ===== THE THROWS OF THE PROGRAM ===== -/
set_option maxRecDepth 100000 in
theorem pm_x0 : ∀ w ∈ (vx_atS "TrackGrid" 57 (pm_en 0) pm_names).filter goodWord, w ∈ lw_tbl := by decide +kernel
set_option maxRecDepth 100000 in
theorem pm_x1 : ∀ w ∈ (vx_atS "TrackGrid" 101 (pm_en 1) pm_names).filter goodWord, w ∈ lw_tbl := by decide +kernel
set_option maxRecDepth 100000 in
theorem pm_x2 : ∀ w ∈ (px_at "TrackGrid" 157 (pm_en 2) "java/lang/RuntimeException" ["java/lang/Exception"] pm_nidx pm_nbytes).filter goodWord, w ∈ lw_tbl := by decide +kernel
theorem pm_xg (L : List Jvm.Cond) (h : ∀ w ∈ L.filter goodWord, w ∈ lw_tbl) : ∀ w ∈ L.filter goodWord, w ∈ pm_Ts := fun w hw => List.mem_filter.mpr ⟨h w hw, (List.mem_filter.mp hw).2⟩
set_option maxRecDepth 100000 in
theorem pm_tt_ok : ∀ t ∈ pm_tt, pm_tok pm_Ts pm_aw pm_sr t := by
  intro t ht
  simp only [pm_tt, List.mem_cons, List.not_mem_nil, or_false] at ht
  rcases ht with rfl | rfl | rfl | rfl | rfl | rfl
  · exact ⟨by decide +kernel, by decide +kernel, pm_G_in 3061 _ rfl, pm_G_in 1012 _ rfl, ⟨"no such axis", by decide +kernel⟩, Or.inl ⟨pm_xg _ pm_x0, by decide +kernel, by decide +kernel⟩⟩
  · exact ⟨by decide +kernel, by decide +kernel, pm_G_in 3061 _ rfl, pm_G_in 1012 _ rfl, ⟨"no template", by decide +kernel⟩, Or.inl ⟨pm_xg _ pm_x0, by decide +kernel, by decide +kernel⟩⟩
  · exact ⟨by decide +kernel, by decide +kernel, pm_G_in 3061 _ rfl, pm_G_in 1012 _ rfl, ⟨"no such start or span", by decide +kernel⟩, Or.inl ⟨pm_xg _ pm_x0, by decide +kernel, by decide +kernel⟩⟩
  · exact ⟨by decide +kernel, by decide +kernel, pm_G_in 4037 _ rfl, pm_G_in 1018 _ rfl, ⟨"no more items", by decide +kernel⟩, Or.inl ⟨pm_xg _ pm_x1, by decide +kernel, by decide +kernel⟩⟩
  · exact ⟨by decide +kernel, by decide +kernel, pm_G_in 4069 _ rfl, pm_G_in 1020 _ rfl, ⟨"no such track", by decide +kernel⟩, Or.inr ⟨pm_xg _ pm_x2, by decide +kernel, by decide +kernel⟩⟩
  · exact ⟨by decide +kernel, by decide +kernel, pm_G_in 4069 _ rfl, pm_G_in 1020 _ rfl, ⟨"no such item placed", by decide +kernel⟩, Or.inr ⟨pm_xg _ pm_x2, by decide +kernel, by decide +kernel⟩⟩
