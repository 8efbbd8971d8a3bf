/-! ===== THE REFERENCE'S READER: sides and tracks ===== -/
theorem Pb_congr {α β : Type} {m m' : PR α} {f : α → PR β} {p p' : Int} (h : m p = m' p') : Pb m f p = Pb m' f p' := by
  unfold Pb; rw [h]
theorem Pb_assoc {α β γ : Type} (m : PR α) (f : α → PR β) (g : β → PR γ) (p : Int) : Pb (Pb m f) g p = Pb m (fun a => Pb (f a) g) p := by
  cases h : (m p).1 with
  | none =>
    rw [Pb_none h]
    exact Pb_none' (Pb_none h)
  | some a =>
    rw [Pb_some h]
    exact Pb_congr (Pb_some h)
theorem Pnum_let {T : Nat → Int} {n p : Int} (h : ¬ (p < n ∧ 48 ≤ T p.toNat ∧ T p.toNat ≤ 57)) : Pnum T n p = (none, p) := by
  unfold Pnum
  have e : Pd T n 4 0 0 p = (some (0, 0), p) := if_neg h
  rw [Pb_some' e]
  rfl
abbrev pre3 (ws : List Int) : Prop := ws <+: wAu ∨ ws <+: wMi ∨ ws <+: wMa
theorem plain_run {T : Nat → Int} {n p : Int} {ws : List Int} (hR : Run T n ws p) (h0 : ws ≠ []) (hn : p + ws.length ≤ n) :
    (ws = wAu ∧ Pplain T n p = (some (3, FP.fconst0), p + ws.length)) ∨ (ws = wMi ∧ Pplain T n p = (some (1, FP.fconst0), p + ws.length)) ∨ (ws = wMa ∧ Pplain T n p = (some (2, FP.fconst0), p + ws.length)) ∨
    (ws ≠ wAu ∧ ws ≠ wMi ∧ ws ≠ wMa ∧ ((∃ q, Pplain T n p = (none, q) ∧ (q = n ↔ p + ws.length = n ∧ pre3 ws) ∧ (ws <+: wMm → pre3 ws)) ∨ (∃ k q y ys, Pplain T n p = (some (k, FP.fconst0), q) ∧ (k = 1 ∨ k = 2 ∨ k = 3) ∧ Run T n (y :: ys) q ∧ ¬ pre3 ws ∧ ((k ≠ 1 ∧ ¬ ws <+: wMm) ∨ (k = 1 ∧ ws = wMi ++ y :: ys ∧ q = p + 3))))) := by
  cases ws with
  | nil => exact absurd rfl h0
  | cons x xs =>
  obtain ⟨a1, a2, a3, a4, a5⟩ := id hR
  unfold Pplain
  by_cases h97 : x = 97
  · subst h97
    rw [Pi_y ⟨a1, a2⟩]
    rcases Pw_word wAu (97 :: xs) p l_Au hR hn with ⟨g1, g2⟩ | ⟨y, ys, g1, g2, g3⟩ | ⟨g1, q, g2, g3⟩
    · refine Or.inl ⟨g1, ?_⟩
      rw [Pb_some' g2, g1]
      rfl
    · refine Or.inr (Or.inr (Or.inr ?_))
      rw [g1]
      refine ⟨by simp, by simp, by simp, Or.inr ⟨3, _, y, ys, ?_, by decide, g3, by simp [pre3, List.cons_prefix_cons], Or.inl ⟨by decide, by simp [List.cons_prefix_cons]⟩⟩⟩
      rw [Pb_some' g2]
      rfl
    · refine Or.inr (Or.inr (Or.inr ⟨fun e => g1 [] (by rw [List.append_nil]; exact e), by simp, by simp, Or.inl ⟨q, Pb_none' g2, ?_, by simp [List.cons_prefix_cons]⟩⟩))
      rw [g3]
      simp [pre3, List.cons_prefix_cons]
  · rw [Pi_n (fun q => h97 (by rw [← a2]; exact q.2))]
    by_cases h109 : x = 109
    · subst h109
      rw [Pc_y ⟨a1, a2⟩]
      have hn' : p + 1 + (xs.length : Int) ≤ n := by rw [List.length_cons] at hn; omega
      have el : p + (((109 :: xs).length : Nat) : Int) = p + 1 + (xs.length : Int) := by rw [List.length_cons]; omega
      rw [el]
      by_cases hx : xs.head? = some 97
      · have hx2 : p + 1 < n ∧ T (p + 1).toNat = 97 := by
          cases xs with
          | nil => cases hx
          | cons z zs =>
            have : z = 97 := Option.some.inj hx
            exact ⟨a5.1, by rw [a5.2.1]; exact this⟩
        rw [Pi_y hx2]
        rcases Pw_word [97, 120] xs (p + 1) (by unfold lts; decide) a5 hn' with ⟨g1, g2⟩ | ⟨y, ys, g1, g2, g3⟩ | ⟨g1, q, g2, g3⟩
        · refine Or.inr (Or.inr (Or.inl ⟨by rw [g1], ?_⟩))
          rw [Pb_some' g2, g1]
          rfl
        · refine Or.inr (Or.inr (Or.inr ?_))
          rw [g1]
          refine ⟨by simp, by simp, by simp, Or.inr ⟨2, _, y, ys, ?_, by decide, g3, by simp [pre3, List.cons_prefix_cons], Or.inl ⟨by decide, by simp [List.cons_prefix_cons]⟩⟩⟩
          rw [Pb_some' g2]
          rfl
        · refine Or.inr (Or.inr (Or.inr ⟨by simp, fun e => ?_, fun e => ?_, Or.inl ⟨q, Pb_none' g2, ?_, ?_⟩⟩))
          · have e : xs = [105, 110] := (List.cons.inj e).2
            rw [e] at hx
            simp at hx
          · exact g1 [] (by rw [List.append_nil]; exact (List.cons.inj e).2)
          · rw [g3]
            cases xs with
            | nil => cases hx
            | cons z zs =>
              have : z = 97 := Option.some.inj hx
              subst this
              simp [pre3, List.cons_prefix_cons]
          · cases xs with
            | nil => cases hx
            | cons z zs =>
              have : z = 97 := Option.some.inj hx
              subst this
              simp [List.cons_prefix_cons]
      · have hx2 : ¬ (p + 1 < n ∧ T (p + 1).toNat = 97) := by
          intro q
          cases xs with
          | nil => exact a5 ⟨q.1, by omega, by omega⟩
          | cons z zs =>
            refine hx ?_
            show some z = some 97
            rw [← a5.2.1, q.2]
        rw [Pi_n hx2]
        rcases Pw_word [105, 110] xs (p + 1) (by unfold lts; decide) a5 hn' with ⟨g1, g2⟩ | ⟨y, ys, g1, g2, g3⟩ | ⟨g1, q, g2, g3⟩
        · refine Or.inr (Or.inl ⟨by rw [g1], ?_⟩)
          rw [Pb_some' g2, g1]
          rfl
        · refine Or.inr (Or.inr (Or.inr ?_))
          rw [g1]
          refine ⟨by simp, by simp, by simp, Or.inr ⟨1, _, y, ys, ?_, by decide, g3, by simp [pre3, List.cons_prefix_cons], Or.inr ⟨rfl, rfl, by simp only [List.length_cons, List.length_nil]; omega⟩⟩⟩
          rw [Pb_some' g2]
          rfl
        · refine Or.inr (Or.inr (Or.inr ⟨by simp, fun e => ?_, fun e => ?_, Or.inl ⟨q, Pb_none' g2, ?_, ?_⟩⟩))
          · exact g1 [] (by rw [List.append_nil]; exact (List.cons.inj e).2)
          · have e : xs = [97, 120] := (List.cons.inj e).2
            rw [e] at hx
            exact hx rfl
          · rw [g3]
            cases xs with
            | nil => simp [pre3, List.cons_prefix_cons]
            | cons z zs =>
              have : z ≠ 97 := fun e => hx (by rw [e]; rfl)
              simp [pre3, List.cons_prefix_cons, this]
          · intro hz1
            have hz2 := (List.cons_prefix_cons.mp hz1).2
            cases xs with
            | nil => exact Or.inr (Or.inl (by simp [List.cons_prefix_cons]))
            | cons z zs =>
              have hz3 := List.cons_prefix_cons.mp hz2
              cases zs with
              | nil => exact Or.inr (Or.inl (by simp [List.cons_prefix_cons, hz3.1]))
              | cons w vs =>
                have hz4 := List.cons_prefix_cons.mp hz3.2
                exact absurd (by rw [hz3.1, hz4.1]; rfl) (g1 vs)
    · rw [Pc_n (fun q => h109 (by rw [← a2]; exact q.2))]
      refine Or.inr (Or.inr (Or.inr ⟨by simp [h97], by simp [h109], by simp [h109], Or.inl ⟨p, Pb_none' (Pnum_let (fun q => by omega)), ?_, by simp [List.cons_prefix_cons, h109]⟩⟩))
      have : p ≠ n := by omega
      simp [pre3, List.cons_prefix_cons, h97, h109, this]
theorem k6_bsimple {ws : List Int} (hw : lts ws) (h0 : ws ≠ []) (s : pS) : f_X6_beginsSimple (wcd ws.reverse) s = some (@ite _ (pre3 ws) (Classical.propDecidable _) 1 0, s) := by
  refine of_ok ?_
  unfold f_X6_beginsSimple f_X6_beginsSimple_30 f_X6_beginsSimple_35
  refine ok_eq (k6_begins hw h0 l_Au (by decide) c_Au s) ?_
  by_cases h1 : ws <+: wAu
  · rw [if_pos h1, if_pos (show pre3 ws from Or.inl h1)]
    exact ok_pos (show (1 : Int) ≠ 0 by decide) (ok_ck (Or.inr rfl) (ok_some rfl))
  · rw [if_neg h1]
    refine ok_neg (show ¬ (0 : Int) ≠ 0 by decide) (ok_eq (k6_begins hw h0 l_Mi (by decide) c_Mi s) ?_)
    by_cases h2 : ws <+: wMi
    · rw [if_pos h2, if_pos (show pre3 ws from Or.inr (Or.inl h2))]
      exact ok_pos (show (1 : Int) ≠ 0 by decide) (ok_ck (Or.inr rfl) (ok_some rfl))
    · rw [if_neg h2]
      refine ok_neg (show ¬ (0 : Int) ≠ 0 by decide) (ok_eq (k6_begins hw h0 l_Ma (by decide) c_Ma s) ?_)
      by_cases h3 : ws <+: wMa
      · rw [if_pos h3, if_pos (show pre3 ws from Or.inr (Or.inr h3))]
        exact ok_neg (show ¬ (1 : Int) = 0 by decide) (ok_ck (Or.inr rfl) (ok_some rfl))
      · rw [if_neg h3, if_neg (show ¬ pre3 ws from fun q => by rcases q with q | q | q <;> contradiction)]
        exact ok_pos (show (0 : Int) = 0 from rfl) (ok_ck (Or.inl rfl) (ok_some rfl))
theorem smp_no {ws : List Int} (hw : lts ws) (h1 : ws ≠ wAu) (h2 : ws ≠ wMi) (h3 : ws ≠ wMa) : smp (wcd ws.reverse) = -1 := by
  unfold smp
  rw [if_neg (fun q => h1 ((w_eq hw l_Au (by decide) c_Au).mp q)), if_neg (fun q => h2 ((w_eq hw l_Mi (by decide) c_Mi).mp q)), if_neg (fun q => h3 ((w_eq hw l_Ma (by decide) c_Ma).mp q))]
theorem smp_Au : smp (wcd wAu.reverse) = 3 := by decide
theorem smp_Mi : smp (wcd wMi.reverse) = 1 := by decide
theorem smp_Ma : smp (wcd wMa.reverse) = 2 := by decide
/-- the pure reading of a side -/
noncomputable def Psd (T : Nat → Int) (n a : Int) : PR (Int × UInt32) := Pb (Pplain T n) (fun x => if a = 0 then Pp x else Pshare T n x.1 x.2)
/-- read, refused with the right word, or read with a letter behind it that nothing goes past -/
def tri {α : Type} (T : Nat → Int) (n : Int) (r : Option α × Int) (q1 st : Int) (V : α → Prop) : Prop := (q1 = 1 ∧ ∃ a, r.1 = some a ∧ V a) ∨ (q1 = 0 ∧ r.1 = none ∧ st = fz n r.2) ∨ (q1 = 0 ∧ (∃ a, r.1 = some a) ∧ st = 0 ∧ r.2 < n ∧ 97 ≤ T r.2.toNat ∧ T r.2.toNat ≤ 122)
theorem sd_pure {T : Nat → Int} {n a k q : Int} (hk : k ≠ 0) : (if a = 0 then Pp (k, FP.fconst0) else Pshare T n ((k, FP.fconst0) : Int × UInt32).1 ((k, FP.fconst0) : Int × UInt32).2) q = (some (k, FP.fconst0), q) := by
  by_cases ha : a = 0
  · rw [if_pos ha]; rfl
  · rw [if_neg ha]
    unfold Pshare
    rw [if_pos hk]
    rfl
section
variable {b : pS} {T : Nat → Int} {n p st rd kd lk hk : Int} {nu lu hu : UInt32} {D : Dr}
theorem k6_side (h : RB b T n) (hp : 0 ≤ p) (hpn : p ≤ n) (a : Int) : ok (f_X6_readSide a (rS b p n st rd kd lk hk nu lu hu D)) (fun q => ∃ p' st' kd' nu', q.2 = rS b p' n st' rd kd' lk hk nu' lu hu D ∧ tri T n (Psd T n a p) q.1 st' (fun x => p' = (Psd T n a p).2 ∧ kd' = x.1 ∧ (x.1 = 0 ∨ x.1 = 4 → nu' = x.2))) := by
  have h40 := h.2.2.1
  unfold f_X6_readSide
  refine k6_let h hp (fun hl => ?_) (fun hl => ?_)
  · refine ok_neg (show ¬ (1 : Int) = 0 by decide) ?_
    obtain ⟨ws, hR, hn⟩ := Run_ex T n (n - p).toNat p (by omega)
    have h0 : ws ≠ [] := fun e => by subst e; exact hR hl
    have hw := Run_lts hR
    refine ok_eq (k6_word h hR hp hn) (ok_eq (k6_simple _ _) (ok_bs ?_))
    dsimp only
    rw [rS_I613w, rS_I613, rS_I609, rS_I610]
    unfold Psd
    rcases plain_run hR h0 hn with ⟨g1, g2⟩ | ⟨g1, g2⟩ | ⟨g1, g2⟩ | ⟨g1, g2, g3, g4⟩
    · rw [Pb_some' g2, sd_pure (show (3 : Int) ≠ 0 by decide), g1, smp_Au]
      exact ok_neg (show ¬ (3 : Int) < 0 by decide) (ok_some ⟨_, _, _, _, rfl, Or.inl ⟨rfl, (3, FP.fconst0), rfl, rfl, rfl, fun q => absurd q (show ¬ ((3 : Int) = 0 ∨ (3 : Int) = 4) by decide)⟩⟩)
    · rw [Pb_some' g2, sd_pure (show (1 : Int) ≠ 0 by decide), g1, smp_Mi]
      exact ok_neg (show ¬ (1 : Int) < 0 by decide) (ok_some ⟨_, _, _, _, rfl, Or.inl ⟨rfl, (1, FP.fconst0), rfl, rfl, rfl, fun q => absurd q (show ¬ ((1 : Int) = 0 ∨ (1 : Int) = 4) by decide)⟩⟩)
    · rw [Pb_some' g2, sd_pure (show (2 : Int) ≠ 0 by decide), g1, smp_Ma]
      exact ok_neg (show ¬ (2 : Int) < 0 by decide) (ok_some ⟨_, _, _, _, rfl, Or.inl ⟨rfl, (2, FP.fconst0), rfl, rfl, rfl, fun q => absurd q (show ¬ ((2 : Int) = 0 ∨ (2 : Int) = 4) by decide)⟩⟩)
    · rw [smp_no hw g1 g2 g3]
      refine ok_pos (by decide) ?_
      -- the word that it leaves
      have fin : ok ((if p + (ws.length : Int) ≠ n then f_X6_readSide_55 (wcd ws.reverse) (rS b (p + ws.length) n st rd (-1) lk hk nu lu hu D) else (f_X6_beginsSimple (wcd ws.reverse) (rS b (p + ws.length) n st rd (-1) lk hk nu lu hu D)).bind (fun q17 => (if q17.1 = 0 then f_X6_readSide_55 (wcd ws.reverse) q17.2 else f_X6_readSide_56 (wcd ws.reverse) 1 q17.2)))) (fun q => q = (0, rS b (p + ws.length) n (@ite _ (p + (ws.length : Int) = n ∧ pre3 ws) (Classical.propDecidable _) 1 0) rd (-1) lk hk nu lu hu D)) := by
        unfold f_X6_readSide_55 f_X6_readSide_56
        refine ok_if (fun c1 => ok_bs ?_) (fun c1 => ok_eq (k6_bsimple hw h0 _) ?_)
        · rw [rS_I611w, if_neg (show ¬ (p + (ws.length : Int) = n ∧ pre3 ws) from fun q => c1 q.1)]
          exact ok_some rfl
        · by_cases c2 : pre3 ws
          · rw [if_pos c2, if_pos (show p + (ws.length : Int) = n ∧ pre3 ws from ⟨Classical.byContradiction c1, c2⟩)]
            refine ok_neg (show ¬ (1 : Int) = 0 by decide) (ok_bs ?_)
            rw [rS_I611w]
            exact ok_some rfl
          · rw [if_neg c2, if_neg (show ¬ (p + (ws.length : Int) = n ∧ pre3 ws) from fun q => c2 q.2)]
            refine ok_pos rfl (ok_bs ?_)
            rw [rS_I611w]
            exact ok_some rfl
      refine ok_mono fin (fun q hq => ?_)
      subst hq
      refine ⟨_, _, _, _, rfl, ?_⟩
      rcases g4 with ⟨q, e1, e2, -⟩ | ⟨k, q, y, ys, e1, e2, e3, e4, -⟩
      · rw [Pb_none' e1]
        refine Or.inr (Or.inl ⟨rfl, rfl, ?_⟩)
        show _ = fz n q
        unfold fz
        by_cases hq : q = n
        · rw [if_pos hq, if_pos (e2.mp hq)]
        · rw [if_neg hq, if_neg (show ¬ (p + (ws.length : Int) = n ∧ pre3 ws) from fun z => hq (e2.mpr z))]
      · rw [Pb_some' e1, sd_pure (show k ≠ 0 by omega), if_neg (show ¬ (p + (ws.length : Int) = n ∧ pre3 ws) from fun z => e4 z.2)]
        exact Or.inr (Or.inr ⟨rfl, ⟨_, rfl⟩, rfl, e3.1, by show 97 ≤ T q.toNat; rw [e3.2.1]; exact e3.2.2.1, by show T q.toNat ≤ 122; rw [e3.2.1]; exact e3.2.2.2.1⟩)
  · refine ok_pos rfl ?_
    have e0 : Pplain T n p = Pb (Pnum T n) (fun u => Pp (0, u)) p := by
      unfold Pplain
      rw [Pi_n (fun q => hl ⟨q.1, by omega, by omega⟩), Pc_n (fun q => hl ⟨q.1, by omega, by omega⟩)]
    have m1 := Pnum_mono T n p
    have m2 : (Pnum T n p).2 ≤ n := ((Loc_num (Int.le_refl n)).1 p).2 hpn
    refine ok_seq (k6_num h hp) (fun q hq => ?_)
    obtain ⟨b1, st', kd', nu', b2, b3, b4⟩ := hq
    rw [b1, b2]
    unfold Psd
    cases e1 : (Pnum T n p).1 with
    | none =>
      have e2 : Pplain T n p = (none, (Pnum T n p).2) := by rw [e0, Pb_none e1]
      rw [Pb_none' e2]
      exact ok_neg (rbn (α := Unit)) (ok_some ⟨_, _, _, _, rfl, Or.inr (Or.inl ⟨rfl, rfl, b4 e1⟩)⟩)
    | some x =>
      have e2 : Pplain T n p = (some (0, x), (Pnum T n p).2) := by rw [e0, Pb_some e1]; rfl
      rw [Pb_some' e2]
      have b5 := b3 x e1
      generalize (Pnum T n p).2 = p1 at m1 m2
      refine ok_pos (rbs ()) (ok_bs ?_)
      rw [rS_I613w]
      unfold f_X6_readSide_110
      refine ok_if (fun ha => ?_) (fun ha => ?_)
      · rw [if_pos ha]
        exact ok_some ⟨_, _, _, _, rfl, Or.inl ⟨rfl, _, rfl, rfl, rfl, fun _ => b5⟩⟩
      · rw [if_neg ha]
        refine ok_eq (k6_now h (by omega)) ?_
        unfold Pshare
        rw [if_neg (show ¬ ((0, x) : Int × UInt32).1 ≠ 0 from fun q => q rfl)]
        by_cases hf : p1 < n ∧ T p1.toNat = 102
        · rw [Pi_y hf]
          refine ok_neg (fun q => q ((nwc_eq (by decide)).mpr hf)) ?_
          rw [rS_I609]
          refine ok_ck (inR_of (by omega)) (ok_bs ?_)
          rw [rS_I609w]
          refine ok_bs ?_
          rw [rS_I613w]
          refine ok_eq (k6_takes h (by omega) (by omega) 114) (ok_ck (rb_01 _) (ok_some ?_))
          have ew : Pw T n [102, 114] p1 = Pb (Pt T n 114) (fun _ => Pp ()) (p1 + 1) := Pb_some' (Pt_y hf)
          by_cases hr : p1 + 1 < n ∧ T (p1 + 1).toNat = 114
          · rw [Pb_some' (show Pw T n [102, 114] p1 = (some (), p1 + 1 + 1) by rw [ew, Pb_some' (Pt_y hr)]; rfl), Pt_y hr]
            exact ⟨_, _, _, _, rfl, Or.inl ⟨rfl, _, rfl, rfl, rfl, fun _ => b5⟩⟩
          · rw [Pb_none' (show Pw T n [102, 114] p1 = (none, p1 + 1) by rw [ew, Pb_none' (Pt_n hr)]), Pt_n hr]
            exact ⟨_, _, _, _, rfl, Or.inr (Or.inl ⟨rfl, rfl, rfl⟩)⟩
        · rw [Pi_n hf]
          refine ok_pos (fun q => hf ((nwc_eq (by decide)).mp q)) (ok_some ?_)
          exact ⟨_, _, _, _, rfl, Or.inl ⟨rfl, _, rfl, rfl, rfl, fun _ => b5⟩⟩
end
