/-! ===== WORLDS ONLY GROW (written by wip/whole/gen_bound.py) ===== -/
def pm_le (h h' : pH) : Prop := pm_used h ≤ pm_used h' ∧ pm_slots h ≤ pm_slots h'
theorem pm_le.setO {h h' : pH} {k ci : Nat} {fs fs' : List pV} (hk : pm_get h k = some (.inr (ci, fs))) (hb : pm_le (pm_set h k (.inr (ci, fs'))) h') : pm_le h h' := by
  unfold pm_le at hb ⊢
  rw [pm_used_set, pm_slots_setO hk] at hb
  exact hb
theorem pm_le.setA {h h' : pH} {k n : Nat} {ty ty' : FieldType} {z z' : pA} (hk : pm_get h k = some (.inl (ty, n, z))) (hb : pm_le (pm_set h k (.inl (ty', n, z'))) h') : pm_le h h' := by
  unfold pm_le at hb ⊢
  rw [pm_used_set, pm_slots_setA hk] at hb
  exact hb
theorem pm_le.push {h h' : pH} {c : pC} (hb : pm_le (pm_push h c) h') : pm_le h h' := by
  unfold pm_le at hb ⊢
  rw [pm_used_push, pm_slots_push] at hb
  exact ⟨by omega, by omega⟩
theorem pm_le.thr (h : pH) : pm_le h (h.1, h.2 + 1) := by
  refine ⟨?_, ?_⟩
  · show h.1.length + h.2 ≤ h.1.length + (h.2 + 1); omega
  · show (h.1.map pm_size).sum + 6 * h.2 ≤ (h.1.map pm_size).sum + 6 * (h.2 + 1); omega
theorem pm_le.tr {a b c : pH} (h1 : pm_le a b) (h2 : pm_le b c) : pm_le a c := ⟨Nat.le_trans h1.1 h2.1, Nat.le_trans h1.2 h2.2⟩
theorem pm_le.rf (a : pH) : pm_le a a := ⟨Nat.le_refl _, Nat.le_refl _⟩
set_option maxHeartbeats 4000000 in
theorem pm_bound {txt : Nat → List Int} {L : Nat} {xs : Nat → Int} {C : Nat → List pV → pH → pO → pH → Prop} {d : Nat} {M : pM} {a b c : Nat} {ls : List (Option pV)} {st : List pV} {pc : Nat} {h hF : pH} {oF : pO} {ins : Instr}
    (hC : ∀ μ as h o h', C μ as h o h' → pm_le h h') (hi : pm_i txt L xs C d M a b c ls st pc h (fun _ _ _ h2 => pm_le h2 hF) (fun o h2 => o = oF ∧ h2 = hF) ins) : pm_le h hF := by
  cases ins with
  | iconst n =>
    exact hi.2
  | bipush n =>
    exact hi.2
  | sipush n =>
    exact hi.2
  | lconst n =>
    exact hi
  | fconst n =>
    match n, hi with
    | 0, hi => exact hi.1 rfl
    | 1, hi => exact hi.2.1 rfl
    | 2, hi => exact hi.2.2 rfl
  | ldc i =>
    obtain ⟨h0, h1, h2⟩ := hi
    match c, h0, h1, h2 with
    | 0, h0, _, _ => exact (h0 rfl).2
    | 1, _, h1, _ => exact h1 rfl
  | ldc2_w i =>
    exact hi.2
  | iload i =>
    obtain ⟨_, _, hK⟩ := hi
    exact hK
  | iload_n i =>
    obtain ⟨_, _, hK⟩ := hi
    exact hK
  | fload i =>
    obtain ⟨_, _, hK⟩ := hi
    exact hK
  | fload_n i =>
    obtain ⟨_, _, hK⟩ := hi
    exact hK
  | lload i =>
    obtain ⟨_, _, hK⟩ := hi
    exact hK
  | lload_n i =>
    obtain ⟨_, _, hK⟩ := hi
    exact hK
  | dload i =>
    obtain ⟨_, _, hK⟩ := hi
    exact hK
  | dload_n i =>
    obtain ⟨_, _, hK⟩ := hi
    exact hK
  | aload i =>
    obtain ⟨_, _, _, hK⟩ := hi
    exact hK
  | aload_n i =>
    obtain ⟨_, _, _, hK⟩ := hi
    exact hK
  | istore i =>
    obtain ⟨_, _, _, _, hK⟩ := hi
    exact hK
  | istore_n i =>
    obtain ⟨_, _, _, _, hK⟩ := hi
    exact hK
  | fstore i =>
    obtain ⟨_, _, _, _, hK⟩ := hi
    exact hK
  | fstore_n i =>
    obtain ⟨_, _, _, _, hK⟩ := hi
    exact hK
  | lstore i =>
    obtain ⟨_, _, _, _, hK⟩ := hi
    exact hK
  | lstore_n i =>
    obtain ⟨_, _, _, _, hK⟩ := hi
    exact hK
  | dstore i =>
    obtain ⟨_, _, _, _, hK⟩ := hi
    exact hK
  | dstore_n i =>
    obtain ⟨_, _, _, _, hK⟩ := hi
    exact hK
  | astore i =>
    obtain ⟨_, _, _, _, _, hK⟩ := hi
    exact hK
  | astore_n i =>
    obtain ⟨_, _, _, _, _, hK⟩ := hi
    exact hK
  | iinc i n =>
    obtain ⟨_, _, _, _, hK⟩ := hi
    exact hK
  | dup =>
    obtain ⟨_, _, _, _, hK⟩ := hi
    exact hK
  | iadd =>
    obtain ⟨_, _, _, _, _, hK⟩ := hi
    exact hK
  | isub =>
    obtain ⟨_, _, _, _, _, hK⟩ := hi
    exact hK
  | imul =>
    obtain ⟨_, _, _, _, _, hK⟩ := hi
    exact hK
  | ladd =>
    obtain ⟨_, _, _, _, _, hK⟩ := hi
    exact hK
  | lsub =>
    obtain ⟨_, _, _, _, _, hK⟩ := hi
    exact hK
  | lmul =>
    obtain ⟨_, _, _, _, _, hK⟩ := hi
    exact hK
  | fadd =>
    obtain ⟨_, _, _, _, _, hK⟩ := hi
    exact hK
  | fsub =>
    obtain ⟨_, _, _, _, _, hK⟩ := hi
    exact hK
  | fmul =>
    obtain ⟨_, _, _, _, _, hK⟩ := hi
    exact hK
  | fdiv =>
    obtain ⟨_, _, _, _, _, hK⟩ := hi
    exact hK
  | iand =>
    obtain ⟨_, _, _, hK⟩ := hi
    exact hK
  | ldiv =>
    obtain ⟨_, _, _, _, _, _, hK⟩ := hi
    exact hK
  | lcmp =>
    obtain ⟨_, _, _, _, hK⟩ := hi
    exact hK
  | i2l =>
    obtain ⟨_, _, _, hK⟩ := hi
    exact hK
  | i2c =>
    obtain ⟨_, _, _, hK⟩ := hi
    exact hK
  | i2f =>
    obtain ⟨_, _, _, hK⟩ := hi
    exact hK
  | f2d =>
    obtain ⟨_, _, _, _, hK⟩ := hi
    exact hK
  | fcmp op =>
    obtain ⟨_, _, _, _, hK⟩ := hi
    exact hK
  | dcmp op =>
    obtain ⟨_, _, _, _, hK⟩ := hi
    exact hK
  | goto off =>
    obtain ⟨_, _, hK⟩ := hi
    exact hK
  | ifCond q off =>
    obtain ⟨_, _, _, _, _, h1, h2⟩ := hi
    exact Classical.byCases h1 h2
  | if_icmp q off =>
    obtain ⟨_, _, _, _, _, _, h1, h2⟩ := hi
    exact Classical.byCases h1 h2
  | tableswitch df lo hi2 offs =>
    obtain ⟨_, _, _, _, _, _, _, _, _, hK⟩ := hi
    exact hK
  | getfield i =>
    obtain ⟨_, _, _, _, _, _, _, _, _, hK⟩ := hi
    exact hK
  | putfield i =>
    obtain ⟨_, _, _, _, _, hk, _, _, _, _, hK⟩ := hi
    exact pm_le.setO hk hK
  | new i =>
    obtain ⟨h0, h1, h2⟩ := hi
    match c, h0, h1, h2 with
    | 0, h0, _, _ => exact pm_le.push (h0 rfl).2
    | 1, _, h1, _ =>
      obtain ⟨_, _, _, _, e⟩ := h1 rfl
      rw [← e]
      exact pm_le.thr h
  | newarray ty =>
    obtain ⟨_, _, _, _, _, _, _, hK⟩ := hi
    exact pm_le.push hK
  | anewarray i =>
    obtain ⟨_, _, _, _, _, _, hK⟩ := hi
    exact pm_le.push hK
  | arraylength =>
    obtain ⟨_, _, _, ⟨_, _, _, _, _, _, _, hK⟩ | ⟨_, _, hK⟩⟩ := hi
    · exact hK
    · exact hK
  | iaload =>
    obtain ⟨_, _, _, _, ⟨_, _, _, _, _, _, _, _, hK⟩ | ⟨_, _, _, _, hK⟩⟩ := hi
    · exact hK
    · exact hK
  | baload =>
    obtain ⟨_, _, _, _, _, _, _, _, _, _, hK⟩ := hi
    exact hK
  | caload =>
    obtain ⟨_, _, _, _, _, _, _, _, _, _, hK⟩ := hi
    exact hK
  | laload =>
    obtain ⟨_, _, _, _, _, _, _, _, _, _, hK⟩ := hi
    exact hK
  | faload =>
    obtain ⟨_, _, _, _, _, _, _, _, _, _, hK⟩ := hi
    exact hK
  | daload =>
    obtain ⟨_, _, _, _, _, _, _, _, _, _, hK⟩ := hi
    exact hK
  | aaload =>
    obtain ⟨_, _, _, _, _, _, _, _, _, _, _, _, _, hK⟩ := hi
    exact hK
  | iastore =>
    obtain ⟨_, _, _, _, _, _, _, hk, _, _, _, hK⟩ := hi
    exact pm_le.setA hk hK
  | lastore =>
    obtain ⟨_, _, _, _, _, _, _, hk, _, _, _, hK⟩ := hi
    exact pm_le.setA hk hK
  | fastore =>
    obtain ⟨_, _, _, _, _, _, _, hk, _, _, _, hK⟩ := hi
    exact pm_le.setA hk hK
  | dastore =>
    obtain ⟨_, _, _, _, _, _, _, hk, _, _, _, hK⟩ := hi
    exact pm_le.setA hk hK
  | bastore =>
    obtain ⟨_, _, _, _, _, _, _, hk, _, _, _, _, hK⟩ := hi
    exact pm_le.setA hk hK
  | castore =>
    obtain ⟨_, _, _, _, _, _, _, hk, _, _, _, _, _, hK⟩ := hi
    exact pm_le.setA hk hK
  | aastore =>
    obtain ⟨_, _, _, _, _, _, _, _, _, hk, _, _, _, _, hK⟩ := hi
    exact pm_le.setA hk hK
  | ireturn =>
    obtain ⟨_, _, _, _, _, _, e⟩ := hi
    rw [e]
    exact pm_le.rf _
  | freturn =>
    obtain ⟨_, _, _, _, _, _, e⟩ := hi
    rw [e]
    exact pm_le.rf _
  | lreturn =>
    obtain ⟨_, _, _, _, _, _, e⟩ := hi
    rw [e]
    exact pm_le.rf _
  | return_ =>
    obtain ⟨_, _, _, e⟩ := hi
    rw [e]
    exact pm_le.rf _
  | invokespecial i =>
    obtain ⟨h1, h0, h2⟩ := hi
    by_cases hq : c = 1
    · obtain ⟨_, _, _, _, _, hK⟩ := h1 hq
      exact hK
    · obtain ⟨_, _, _, _, _, _, _, hc, hK⟩ := h0 hq
      exact (hC _ _ _ _ _ hc).tr hK
  | invokevirtual i =>
    obtain ⟨h0, h1, h2, h3⟩ := hi
    match c, h0, h1, h2, h3 with
    | 0, h0, _, _, _ =>
      obtain ⟨_, _, _, _, _, _, _, _, _, o, _, hc, hbk⟩ := h0 rfl
      rcases o with v | ex
      · exact (hC _ _ _ _ _ hc).tr hbk
      · obtain ⟨_, _, hK⟩ := hbk
        exact (hC _ _ _ _ _ hc).tr hK
    | 1, _, h1, _, _ =>
      obtain ⟨_, _, _, _, _, _, hK⟩ := h1 rfl
      exact hK
    | 2, _, _, h2, _ =>
      obtain ⟨_, _, _, _, _, _, _, _, _, _, hK⟩ := h2 rfl
      exact hK
  | invokestatic i =>
    obtain ⟨h0, h1, h2, h3, h4⟩ := hi
    by_cases hq : c = 0 ∨ 4 ≤ c
    · obtain ⟨_, _, _, _, _, _, _, hc, hK⟩ := h0 hq
      exact (hC _ _ _ _ _ hc).tr hK
    · match c, hq, h1, h2, h3 with
      | 1, _, h1, _, _ =>
        obtain ⟨_, _, _, _, _, _, hK⟩ := h1 rfl
        exact hK
      | 2, _, _, h2, _ =>
        obtain ⟨_, _, _, _, _, _, _, _, _, _, hk, _, _, hK⟩ := h2 rfl
        exact pm_le.setA hk hK
      | 3, _, _, _, h3 =>
        obtain ⟨_, _, _, _, _, _, _, _, _, _, hk, _, _, hK⟩ := h3 rfl
        exact pm_le.setA hk hK
      | 0, hq, _, _, _ => exact absurd (Or.inl rfl) hq
      | q + 4, hq, _, _, _ => exact absurd (Or.inr (by omega)) hq
  | _ => exact absurd hi id
theorem pR_bound {txt : Nat → List Int} {L : Nat} {xs : Nat → Int} {C : Nat → List pV → pH → pO → pH → Prop} {d : Nat} {M : pM} {ls : List (Option pV)} {st : List pV} {pc : Nat} {h hF : pH} {oF : pO}
    (hC : ∀ μ as h o h', C μ as h o h' → pm_le h h') (hR : pR txt L xs C d M (fun o h2 => o = oF ∧ h2 = hF) ls st pc h) : pm_le h hF :=
  hR (fun _ _ _ h2 => pm_le h2 hF) (fun ls st pc h hs => by
    obtain ⟨q, -, hi⟩ := hs
    exact pm_bound hC hi)
theorem pCall_bound {txt : Nat → List Int} {L : Nat} {xs : Nat → Int} {P : List pM} : ∀ (d μ : Nat) (as : List pV) (h : pH) (o : pO) (h' : pH), pCall txt L xs P d μ as h o h' → pm_le h h' := by
  intro d
  induction d with
  | zero => intro μ as h o h' hq; exact absurd hq id
  | succ d ih =>
    intro μ as h o h' hq
    obtain ⟨M, -, -, hR⟩ := hq
    exact pR_bound ih hR
