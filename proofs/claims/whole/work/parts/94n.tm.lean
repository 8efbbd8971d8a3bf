/-! ===== TEMPLATES: what is read, and where it is put ===== -/
/-! only the text counts -/
def Eqv {α : Type} (A B : PR α) : Prop := ∀ p, 0 ≤ p → B p = A p ∧ p ≤ (A p).2
theorem Eqv_pp {α : Type} (a : α) : Eqv (Pp a) (Pp a) := fun p _ => ⟨rfl, Int.le_refl _⟩
theorem Eqv_pz {α : Type} : Eqv (Pz (α := α)) Pz := fun p _ => ⟨rfl, Int.le_refl _⟩
theorem Eqv_b {α β : Type} {A B : PR α} {F G : α → PR β} (h : Eqv A B) (hf : ∀ a, Eqv (F a) (G a)) : Eqv (Pb A F) (Pb B G) := by
  intro p hp
  obtain ⟨h1, h2⟩ := h p hp
  cases e : (A p).1 with
  | none =>
    rw [Pb_none e, Pb_none (by rw [h1]; exact e), h1]
    exact ⟨rfl, h2⟩
  | some a =>
    rw [Pb_some e, Pb_some (m := B) (by rw [h1]; exact e), h1]
    obtain ⟨g1, g2⟩ := hf a (A p).2 (by omega)
    exact ⟨g1, by omega⟩
theorem Eqv_if {α : Type} {c : Prop} {dc : Decidable c} {A1 A2 B1 B2 : PR α} (h1 : Eqv A1 B1) (h2 : Eqv A2 B2) : Eqv (@ite _ c dc A1 A2) (@ite _ c dc B1 B2) := by
  by_cases h : c
  · rw [if_pos h, if_pos h]; exact h1
  · rw [if_neg h, if_neg h]; exact h2
section
variable {T T' : Nat → Int} {n : Int}
theorem Eqv_c {α : Type} (hT : ∀ p : Int, 0 ≤ p → p < n → T' p.toNat = T p.toNat) {c : Int} {A1 A2 B1 B2 : PR α} (h1 : Eqv A1 B1) (h2 : Eqv A2 B2) : Eqv (Pc T n c A1 A2) (Pc T' n c B1 B2) := by
  intro p hp
  by_cases h : p < n ∧ T p.toNat = c
  · rw [Pc_y h, Pc_y ⟨h.1, by rw [hT p hp h.1]; exact h.2⟩]
    obtain ⟨g1, g2⟩ := h1 (p + 1) (by omega)
    exact ⟨g1, by omega⟩
  · rw [Pc_n h, Pc_n (fun q => h ⟨q.1, by rw [← hT p hp q.1]; exact q.2⟩)]
    exact h2 p hp
theorem Eqv_i {α : Type} (hT : ∀ p : Int, 0 ≤ p → p < n → T' p.toNat = T p.toNat) {c : Int} {A1 A2 B1 B2 : PR α} (h1 : Eqv A1 B1) (h2 : Eqv A2 B2) : Eqv (Pi T n c A1 A2) (Pi T' n c B1 B2) := by
  intro p hp
  by_cases h : p < n ∧ T p.toNat = c
  · rw [Pi_y h, Pi_y ⟨h.1, by rw [hT p hp h.1]; exact h.2⟩]
    exact h1 p hp
  · rw [Pi_n h, Pi_n (fun q => h ⟨q.1, by rw [← hT p hp q.1]; exact q.2⟩)]
    exact h2 p hp
theorem Eqv_t (hT : ∀ p : Int, 0 ≤ p → p < n → T' p.toNat = T p.toNat) {c : Int} : Eqv (Pt T n c) (Pt T' n c) := Eqv_c hT (Eqv_pp _) Eqv_pz
theorem Eqv_w (hT : ∀ p : Int, 0 ≤ p → p < n → T' p.toNat = T p.toNat) : ∀ cs : List Int, Eqv (Pw T n cs) (Pw T' n cs)
  | [] => Eqv_pp _
  | _ :: cs => Eqv_b (Eqv_t hT) (fun _ => Eqv_w hT cs)
theorem Eqv_d (hT : ∀ p : Int, 0 ≤ p → p < n → T' p.toNat = T p.toNat) : ∀ (k : Nat) (v c : Int), Eqv (Pd T n k v c) (Pd T' n k v c)
  | 0, v, c => Eqv_pp _
  | k + 1, v, c => by
    intro p hp
    show (if p < n ∧ 48 ≤ T' p.toNat ∧ T' p.toNat ≤ 57 then Pd T' n k (v * 10 + (T' p.toNat - 48)) (c + 1) (p + 1) else (some (v, c), p)) = (if p < n ∧ 48 ≤ T p.toNat ∧ T p.toNat ≤ 57 then Pd T n k (v * 10 + (T p.toNat - 48)) (c + 1) (p + 1) else (some (v, c), p)) ∧ p ≤ (if p < n ∧ 48 ≤ T p.toNat ∧ T p.toNat ≤ 57 then Pd T n k (v * 10 + (T p.toNat - 48)) (c + 1) (p + 1) else (some (v, c), p)).2
    by_cases h : p < n
    · rw [hT p hp h]
      split
      · obtain ⟨g1, g2⟩ := Eqv_d hT k (v * 10 + (T p.toNat - 48)) (c + 1) (p + 1) (by omega)
        exact ⟨g1, by omega⟩
      · exact ⟨rfl, Int.le_refl _⟩
    · rw [if_neg (fun q => h q.1), if_neg (fun q => h q.1)]
      exact ⟨rfl, Int.le_refl _⟩
theorem Eqv_num (hT : ∀ p : Int, 0 ≤ p → p < n → T' p.toNat = T p.toNat) : Eqv (Pnum T n) (Pnum T' n) :=
  Eqv_b (Eqv_d hT _ _ _) (fun _ => Eqv_if Eqv_pz (Eqv_c hT (Eqv_b (Eqv_d hT _ _ _) (fun _ => Eqv_if Eqv_pz (Eqv_pp _))) (Eqv_pp _)))
theorem Eqv_plain (hT : ∀ p : Int, 0 ≤ p → p < n → T' p.toNat = T p.toNat) : Eqv (Pplain T n) (Pplain T' n) :=
  Eqv_i hT (Eqv_b (Eqv_w hT _) (fun _ => Eqv_pp _)) (Eqv_c hT (Eqv_i hT (Eqv_b (Eqv_w hT _) (fun _ => Eqv_pp _)) (Eqv_b (Eqv_w hT _) (fun _ => Eqv_pp _))) (Eqv_b (Eqv_num hT) (fun _ => Eqv_pp _)))
theorem Eqv_share (hT : ∀ p : Int, 0 ≤ p → p < n → T' p.toNat = T p.toNat) {k : Int} {u : UInt32} : Eqv (Pshare T n k u) (Pshare T' n k u) :=
  Eqv_if (Eqv_pp _) (Eqv_i hT (Eqv_b (Eqv_w hT _) (fun _ => Eqv_pp _)) (Eqv_pp _))
theorem Eqv_end (hT : ∀ p : Int, 0 ≤ p → p < n → T' p.toNat = T p.toNat) {k : Int} {u : UInt32} : Eqv (Pend T n k u) (Pend T' n k u) :=
  Eqv_b (Eqv_share hT) (fun _ => Eqv_if (Eqv_pp _) (Eqv_pp _))
theorem Eqv_mm (hT : ∀ p : Int, 0 ≤ p → p < n → T' p.toNat = T p.toNat) : Eqv (Pmm T n) (Pmm T' n) :=
  Eqv_b (Eqv_w hT _) (fun _ => Eqv_b (Eqv_plain hT) (fun _ => Eqv_b (Eqv_t hT) (fun _ => Eqv_b (Eqv_plain hT) (fun _ => Eqv_b (Eqv_share hT) (fun _ => Eqv_b (Eqv_t hT) (fun _ => Eqv_pp _))))))
theorem Eqv_fit (hT : ∀ p : Int, 0 ≤ p → p < n → T' p.toNat = T p.toNat) : Eqv (Pfit T n) (Pfit T' n) :=
  Eqv_b (Eqv_w hT _) (fun _ => Eqv_b (Eqv_num hT) (fun _ => Eqv_b (Eqv_t hT) (fun _ => Eqv_pp _)))
theorem Eqv_track (hT : ∀ p : Int, 0 ≤ p → p < n → T' p.toNat = T p.toNat) : Eqv (Ptrack T n) (Ptrack T' n) :=
  Eqv_i hT (Eqv_fit hT) (Eqv_b (Eqv_plain hT) (fun _ => Eqv_if (Eqv_end hT) (Eqv_i hT (Eqv_mm hT) (Eqv_end hT))))
theorem Eqv_dig (hT : ∀ p : Int, 0 ≤ p → p < n → T' p.toNat = T p.toNat) {c : Int} : Eqv (Pdig T n c) (Pdig T' n c) := by
  intro p hp
  unfold Pdig
  by_cases h : p < n
  · rw [hT p hp h]
    split
    · exact ⟨rfl, by show p ≤ p + 1; omega⟩
    · exact ⟨rfl, Int.le_refl _⟩
  · rw [if_neg (fun q => h q.1), if_neg (fun q => h q.1)]
    exact ⟨rfl, Int.le_refl _⟩
theorem Eqv_ent (hT : ∀ p : Int, 0 ≤ p → p < n → T' p.toNat = T p.toNat) {c : Int} : Eqv (Pent T n c) (Pent T' n c) :=
  Eqv_b (Eqv_w hT _) (fun _ => Eqv_b (Eqv_dig hT) (fun _ => Eqv_b (Eqv_t hT) (fun _ => Eqv_pp _)))
theorem Eqv_head (hT : ∀ p : Int, 0 ≤ p → p < n → T' p.toNat = T p.toNat) {ir fi ti c : Int} : Eqv (Phead T n ir fi ti c) (Phead T' n ir fi ti c) :=
  Eqv_if (Eqv_pp _) (Eqv_i hT (Eqv_b (Eqv_ent hT) (fun _ => Eqv_pp _)) (Eqv_pp _))
theorem Eqv_tail (hT : ∀ p : Int, 0 ≤ p → p < n → T' p.toNat = T p.toNat) {go gn : Int → Int → Int → Int → Dr → PR (Int × Dr)} (hg : ∀ a b c d D, Eqv (go a b c d D) (gn a b c d D)) {ir fi ti c : Int} {D : Dr} : Eqv (Ptail T n go ir fi ti c D) (Ptail T' n gn ir fi ti c D) := by
  intro p hp
  unfold Ptail
  split
  · split <;> exact ⟨rfl, Int.le_refl _⟩
  · split
    · exact ⟨rfl, Int.le_refl _⟩
    · exact Eqv_b (Eqv_t hT) (fun _ => hg _ _ _ _ _) p hp
theorem Eqv_loop (hT : ∀ p : Int, 0 ≤ p → p < n → T' p.toNat = T p.toNat) : ∀ (m : Nat) (ir fi ti c : Int) (D : Dr), Eqv (Ploop T n m ir fi ti c D) (Ploop T' n m ir fi ti c D)
  | 0, _, _, _, _, _ => Eqv_pz
  | m + 1, ir, fi, ti, c, D => Eqv_b (Eqv_head hT) (fun _ => Eqv_b (Eqv_track hT) (fun _ => Eqv_if (Eqv_c hT (Eqv_tail hT (Eqv_loop hT m)) (Eqv_tail hT (Eqv_loop hT m))) (Eqv_tail hT (Eqv_loop hT m))))
theorem text_eqv (hT : ∀ p : Int, 0 ≤ p → p < n → T' p.toNat = T p.toNat) (D : Dr) : Ptext T' n D = Ptext T n D := by
  unfold Ptext
  split
  · rfl
  · exact (Eqv_loop hT 12 0 0 1 0 D 0 (Int.le_refl _)).1
end
/-! what a read track is -/
def tq (t : Tk) : Prop := 0 ≤ t.1 ∧ t.1 ≤ 3 ∧ (t.1 ≠ 0 → t.2.1 = FP.fconst0) ∧ 0 ≤ t.2.2.1 ∧ t.2.2.1 ≤ 5 ∧ nn t.2.1 ∧ fb 14 t.2.1 ∧ nn t.2.2.2 ∧ fb 14 t.2.2.2
theorem Pb_inv {α β : Type} {m : PR α} {f : α → PR β} {p : Int} {y : β} (h : (Pb m f p).1 = some y) : ∃ a, (m p).1 = some a ∧ (f a (m p).2).1 = some y := by
  cases e : (m p).1 with
  | none => rw [Pb_none e] at h; cases h
  | some a => rw [Pb_some e] at h; exact ⟨a, rfl, h⟩
theorem Pp_inv {α : Type} {a y : α} {p : Int} (h : (Pp a p).1 = some y) : a = y := Option.some.inj h
section
variable {T : Nat → Int} {n : Int}
theorem Pend_q {k p : Int} {u : UInt32} {t : Tk} (hk : 0 ≤ k ∧ k ≤ 3) (hz : k ≠ 0 → u = FP.fconst0) (hu : nn u ∧ fb 14 u) (h : (Pend T n k u p).1 = some t) : tq t := by
  obtain ⟨x, h1, h2⟩ := Pb_inv h
  obtain ⟨a1, a2⟩ := Pshare_q T n k u p x h1
  by_cases h4 : x.1 ≠ 4
  · rw [if_pos h4] at h2
    have h2 := Pp_inv h2
    rw [← h2, a1]
    have e : x.1 = k := a2.resolve_right h4
    rw [e]
    exact ⟨hk.1, hk.2, hz, hk.1, by show k ≤ 5; omega, hu.1, hu.2, hu.1, hu.2⟩
  · rw [if_neg h4] at h2
    have h2 := Pp_inv h2
    rw [← h2, a1]
    exact ⟨by show (0 : Int) ≤ 3; decide, by show (3 : Int) ≤ 3; decide, fun _ => rfl, by show (0 : Int) ≤ 4; decide, by show (4 : Int) ≤ 5; decide, nn0, fb0 14, hu.1, hu.2⟩
theorem Ptrack_q {p : Int} {t : Tk} (h : (Ptrack T n p).1 = some t) : tq t := by
  unfold Ptrack at h
  by_cases h1 : p < n ∧ T p.toNat = 102
  · rw [Pi_y h1] at h
    obtain ⟨_, -, h⟩ := Pb_inv h
    obtain ⟨u, g1, h⟩ := Pb_inv h
    obtain ⟨_, -, h⟩ := Pb_inv h
    have h := Pp_inv h
    have hq := Pnum_q T n _ u g1
    rw [← h]
    exact ⟨by show (0 : Int) ≤ 3; decide, by show (3 : Int) ≤ 3; decide, fun _ => rfl, by show (0 : Int) ≤ 5; decide, by show (5 : Int) ≤ 5; decide, nn0, fb0 14, hq.1, hq.2⟩
  · rw [Pi_n h1] at h
    obtain ⟨a, g1, h⟩ := Pb_inv h
    obtain ⟨q1, q2, q3, q4, q5⟩ := Pplain_q T n _ a g1
    have hend : ∀ p, (Pend T n a.1 a.2 p).1 = some t → tq t := fun p h => Pend_q ⟨q1, q2⟩ q3 ⟨q4, q5⟩ h
    by_cases hk : a.1 ≠ 1
    · rw [if_pos hk] at h
      exact hend _ h
    · rw [if_neg hk] at h
      by_cases hm : (Pplain T n p).2 < n ∧ T (Pplain T n p).2.toNat = 109
      · rw [Pi_y hm] at h
        obtain ⟨_, -, h⟩ := Pb_inv h
        obtain ⟨x, k1, h⟩ := Pb_inv h
        obtain ⟨_, -, h⟩ := Pb_inv h
        obtain ⟨y, k2, h⟩ := Pb_inv h
        obtain ⟨d, k3, h⟩ := Pb_inv h
        obtain ⟨_, -, h⟩ := Pb_inv h
        have h := Pp_inv h
        obtain ⟨x1, x2, x3, x4, x5⟩ := Pplain_q T n _ x k1
        obtain ⟨y1, y2, y3, y4, y5⟩ := Pplain_q T n _ y k2
        obtain ⟨d1, d2⟩ := Pshare_q T n _ _ _ d k3
        rw [← h]
        exact ⟨x1, x2, x3, by show 0 ≤ d.1; omega, by show d.1 ≤ 5; omega, x4, x5, by show nn d.2; rw [d1]; exact y4, by show fb 14 d.2; rw [d1]; exact y5⟩
      · rw [Pi_n hm] at h
        exact hend _ h
def DI (c : Int) (D : Dr) : Prop := ∀ j : Nat, j < 12 → tq (D.1 j, D.2.1 j, D.2.2.1 j, D.2.2.2 j) ∧ (c ≤ (j : Int) → D.1 j = 3 ∧ D.2.2.1 j = 3)
theorem DI_up {c : Int} {D : Dr} {t : Tk} (hc : 0 ≤ c) (h : DI c D) (ht : tq t) : DI (c + 1) (upD D c t) := by
  intro j hj
  obtain ⟨h1, h2⟩ := h j hj
  unfold upD
  dsimp only
  by_cases e : j = c.toNat
  · subst e
    rw [up_eq, up_eq, up_eq, up_eq]
    exact ⟨ht, fun q => by omega⟩
  · rw [up_ne _ _ e, up_ne _ _ e, up_ne _ _ e, up_ne _ _ e]
    exact ⟨h1, fun q => h2 (by omega)⟩
theorem DI_rep (len : Int) (h1 : 1 ≤ len) : ∀ (r : Nat) (c : Int) (D : Dr), len ≤ c → c + r ≤ 12 → DI c D → DI (c + r) (repD len r c D)
  | 0, c, D, hl, h12, h => by
    rw [show c + ((0 : Nat) : Int) = c by omega]
    exact h
  | r + 1, c, D, hl, h12, h => by
    have ih := DI_rep len h1 r (c + 1) (upD D c (atD D (c - len))) (by omega) (by omega) (DI_up (by omega) h (h (c - len).toNat (by omega)).1)
    rw [show c + 1 + (r : Int) = c + ((r + 1 : Nat) : Int) by omega] at ih
    exact ih
theorem Phead_q {ir fi ti c p : Int} {e : Int × Int × Int} (hJ : Jx ir fi ti c) (h : (Phead T n ir fi ti c p).1 = some e) : Jx e.1 e.2.1 e.2.2 c := by
  have hc := Jx_c hJ
  unfold Phead at h
  by_cases hi : ir ≠ 0
  · rw [if_pos hi] at h
    rw [← Pp_inv h]
    exact hJ
  · rw [if_neg hi] at h
    by_cases h1 : p < n ∧ T p.toNat = 114
    · rw [Pi_y h1] at h
      obtain ⟨t, g1, h⟩ := Pb_inv h
      rw [← Pp_inv h]
      obtain ⟨_, -, g1⟩ := Pb_inv g1
      obtain ⟨x, g2, g1⟩ := Pb_inv g1
      obtain ⟨_, -, g1⟩ := Pb_inv g1
      have g1 := Pp_inv g1
      unfold Pdig at g2
      split at g2
      · rename_i hd
        have g2 := Option.some.inj g2
        refine ⟨Or.inr rfl, hc.1, Int.le_refl _, by show 1 ≤ t; omega, by show t ≤ 9; omega, ?_⟩
        show c + t * (c - c + 1) ≤ 12
        rw [Int.sub_self, Int.zero_add, Int.mul_one]
        omega
      · cases g2
    · rw [Pi_n h1] at h
      rw [← Pp_inv h]
      exact hJ
def DQ (v : Int × Dr) : Prop := 0 ≤ v.1 ∧ v.1 ≤ 12 ∧ DI v.1 v.2
theorem Ptail_q {go : Int → Int → Int → Int → Dr → PR (Int × Dr)} {ir fi ti c p : Int} {D : Dr} {v : Int × Dr} (hJ : (ir = 0 ∨ ir = 1) ∧ 0 ≤ fi ∧ fi ≤ c ∧ 1 ≤ ti ∧ ti ≤ 9) (hc : c ≤ 12) (hD : DI c D) (hgo : Jx ir fi ti c → ∀ p, (go ir fi ti c D p).1 = some v → DQ v) (h : (Ptail T n go ir fi ti c D p).1 = some v) : DQ v := by
  unfold Ptail at h
  split at h
  · split at h
    · cases h
    · rw [← Option.some.inj h]
      exact ⟨by show 0 ≤ c; omega, hc, hD⟩
  · split at h
    · cases h
    · rename_i h12
      obtain ⟨_, -, h⟩ := Pb_inv h
      exact hgo ⟨hJ.1, hJ.2.1, hJ.2.2.1, hJ.2.2.2.1, hJ.2.2.2.2, by omega⟩ _ h
theorem Ploop_q : ∀ (m : Nat) (ir fi ti c : Int) (D : Dr) (p : Int) (v : Int × Dr), Jx ir fi ti c → DI c D → (Ploop T n m ir fi ti c D p).1 = some v → DQ v
  | 0, ir, fi, ti, c, D, p, v, hJ, hD, h => by cases h
  | m + 1, ir, fi, ti, c, D, p, v, hJ, hD, h => by
    have h : (Pb (Phead T n ir fi ti c) (Pstep T n (Ploop T n m) c D) p).1 = some v := h
    obtain ⟨e, g1, h⟩ := Pb_inv h
    have hJ' := Phead_q hJ g1
    have hc := Jx_c hJ'
    obtain ⟨r1, r2, r3, r4⟩ := Jx_rep hJ'
    obtain ⟨j0, j1, j2, j3, j4, j5⟩ := id hJ'
    obtain ⟨t, g2, h⟩ := Pb_inv h
    have ht := Ptrack_q g2
    have hD' := DI_up hc.1 hD ht
    have base : ∀ p, (Ptail T n (Ploop T n m) e.1 e.2.1 e.2.2 (c + 1) (upD D c t) p).1 = some v → DQ v := fun p h => Ptail_q ⟨j0, j1, by omega, j3, j4⟩ (by omega) hD' (fun hj p h => Ploop_q m _ _ _ _ _ p v hj hD' h) h
    by_cases he : e.1 ≠ 0
    · rw [if_pos he] at h
      by_cases hb : (Ptrack T n (Phead T n ir fi ti c p).2).2 < n ∧ T (Ptrack T n (Phead T n ir fi ti c p).2).2.toNat = 41
      · rw [Pc_y hb] at h
        have hr : (((c + 1 - e.2.1) * (e.2.2 - 1)).toNat : Int) = (c + 1 - e.2.1) * (e.2.2 - 1) := Int.toNat_of_nonneg r4
        have hD2 := DI_rep (c + 1 - e.2.1) (by omega) ((c + 1 - e.2.1) * (e.2.2 - 1)).toNat (c + 1) (upD D c t) (by omega) (by omega) hD'
        rw [hr, r3] at hD2
        exact Ptail_q ⟨Or.inl rfl, by omega, r1, by omega, by omega⟩ r2 hD2 (fun hj p h => Ploop_q m _ _ _ _ _ p v hj hD2 h) h
      · rw [Pc_n hb] at h
        exact base _ h
    · rw [if_neg he] at h
      exact base _ h
theorem clD_at (D : Dr) {j : Nat} (hj : j < 12) : (clD D).1 j = 3 ∧ (clD D).2.1 j = FP.fconst0 ∧ (clD D).2.2.1 j = 3 ∧ (clD D).2.2.2 j = FP.fconst0 := by
  unfold clD
  exact ⟨flE_at (e := fun t => t) (fun _ _ h => h) hj, flE_at (e := fun t => t) (fun _ _ h => h) hj, flE_at (e := fun t => t) (fun _ _ h => h) hj, flE_at (e := fun t => t) (fun _ _ h => h) hj⟩
theorem clD_DI (D : Dr) : DI 0 (clD D) := by
  intro j hj
  obtain ⟨h1, h2, h3, h4⟩ := clD_at D hj
  rw [h1, h2, h3, h4]
  exact ⟨⟨by show (0 : Int) ≤ 3; decide, by show (3 : Int) ≤ 3; decide, fun _ => rfl, by show (0 : Int) ≤ 3; decide, by show (3 : Int) ≤ 5; decide, nn0, fb0 14, nn0, fb0 14⟩, fun _ => ⟨rfl, rfl⟩⟩
theorem Ptext_q {D : Dr} {v : Int × Dr} (h : (Ptext T n (clD D)).1 = some v) : DQ v := by
  unfold Ptext at h
  split at h
  · rw [← Option.some.inj h]
    exact ⟨Int.le_refl _, by show (0 : Int) ≤ 12; decide, clD_DI D⟩
  · exact Ploop_q 12 0 0 1 0 _ 0 v ⟨Or.inl rfl, by omega, by omega, by omega, by omega, by omega⟩ (clD_DI D) h
end
/-! the reference: the place of a refusal; the copy -/
theorem RB_le {b : pS} {T : Nat → Int} {n k : Int} (h : RB b T n) (h0 : 0 ≤ k) (hk : k ≤ n) : RB b T k := ⟨h.1, h0, by have := h.2.2.1; omega, fun j hj => h.2.2.2 j (by omega)⟩
theorem k6_t43 {b : pS} {T : Nat → Int} {n : Int} {D E0 : Dr} (h : RB b T n) (hno : (Ptext T n D).1 = none) {K64 : Int → pS → Option (Int × pS)} {P : Int × pS → Prop} (hK : ∀ (p en st rd kd lk hk : Int) (nu lu hu : UInt32) (E : Dr), DFr E0 E → ok (K64 (Ptext T n D).2 (rS b p en st rd kd lk hk nu lu hu E)) P) :
    ∀ (r N : Nat) (x3 p en st rd kd lk hk : Int) (nu lu hu : UInt32) (E : Dr), r < N → 0 ≤ x3 → x3 + r = (Ptext T n D).2 → DFr E0 E → ok (f_X6_template_43 K64 N n x3 (rS b p en st rd kd lk hk nu lu hu E)) P
  | r, N + 1, x3, p, en, st, rd, kd, lk, hk, nu, lu, hu, E, hN, h0, hr, hF => by
    have hn0 : n ≠ 0 := fun e => by
      unfold Ptext at hno
      rw [if_pos e] at hno
      cases hno
    have h40 := h.2.2.1
    have hnn := h.2.1
    rw [f_X6_template_43]
    refine ok_if (fun c1 => ?_) (fun c1 => ?_)
    · have hq := (text_loc (T := T) (D := D) (show 0 < n by omega) (Int.le_refl n)).1
      have e : x3 = (Ptext T n D).2 := by omega
      rw [e]
      exact hK _ _ _ _ _ _ _ _ _ _ _ hF
    · refine ok_ck (inR_of (by omega)) (ok_seq (k6_reads (D := D) (RB_le h (k := x3 + 1) (by omega) (by omega)) hF) (fun q hq => ?_))
      obtain ⟨p', st', rd', kd', lk', hk', nu', lu', hu', E', e1, e2, e3⟩ := hq
      obtain ⟨t1, t2, t3⟩ := text_loc (T := T) (D := D) (n := x3 + 1) (N := n) (by omega) (by omega)
      rw [e1]
      cases r with
      | zero =>
        have et := t2 (by omega)
        rw [et] at e3
        have e : x3 = (Ptext T n D).2 := by omega
        rcases e3 with ⟨-, v, e3, -⟩ | ⟨-, e3⟩
        · rw [hno] at e3; cases e3
        · refine ok_pos (by rw [e3]; exact fz_lt (by omega)) ?_
          rw [e]
          exact hK _ _ _ _ _ _ _ _ _ _ _ e2
      | succ r =>
        have et := t3 (by omega)
        have hne : ¬ q.1 = 0 := by
          rcases e3 with ⟨e3, -⟩ | ⟨-, e3⟩
          · omega
          · rw [e3, et]
            unfold fz
            rw [if_pos rfl]
            decide
        exact ok_neg hne (ok_ck (inR_of (by omega)) (k6_t43 h hno hK r N (x3 + 1) _ _ _ _ _ _ _ _ _ _ E' (by omega) (by omega) (by omega) e2))
/-- the first k of the draft put to the axis a -/
def cpf {α : Type} (a k : Nat) (f : Nat → α) : Nat → α := fun j => if 12 * a ≤ j ∧ j < 12 * a + k then f (24 + (j - 12 * a)) else f j
theorem cpf_step {α : Type} {a k : Nat} (ha : a < 2) (hk : k < 12) (f : Nat → α) : pm_up (cpf a k f) (12 * a + k) (cpf a k f (24 + k)) = cpf a (k + 1) f := by
  funext j
  by_cases h : j = 12 * a + k
  · subst h
    rw [up_eq]
    unfold cpf
    rw [if_neg (by omega), if_pos (by omega), show 12 * a + k - 12 * a = k by omega]
  · rw [up_ne _ _ h]
    unfold cpf
    by_cases h2 : 12 * a ≤ j ∧ j < 12 * a + k
    · rw [if_pos h2, if_pos (by omega)]
    · rw [if_neg h2, if_neg (by omega)]
theorem cpf0 {α : Type} (a : Nat) (f : Nat → α) : cpf a 0 f = f := by
  funext j
  unfold cpf
  rw [if_neg (by omega)]
def cpD (a k : Nat) (E : Dr) : Dr := (cpf a k E.1, cpf a k E.2.1, cpf a k E.2.2.1, cpf a k E.2.2.2)
theorem k6_t78 {b : pS} {K172 : Int → pS → Option (Int × pS)} {P : Int × pS → Prop} {p en st kd lk hk : Int} {nu lu hu : UInt32} {E : Dr} {a c : Nat} (ha : a < 2) (hc : c ≤ 12) (hK : ok (K172 (a : Int) (rS b p en st (c : Int) kd lk hk nu lu hu (cpD a c E))) P) :
    ∀ (r N k : Nat), r < N → k + r = c → ok (f_X6_template_78 K172 N (a : Int) (k : Int) (rS b p en st (c : Int) kd lk hk nu lu hu (cpD a k E))) P
  | 0, N + 1, k, hN, h1 => by
    rw [f_X6_template_78, rS_I612]
    refine ok_pos (by omega) ?_
    rw [show k = c by omega]
    exact hK
  | r + 1, N + 1, k, hN, h1 => by
    rw [f_X6_template_78, rS_I612]
    refine ok_neg (by omega) ?_
    rw [show (12 * (a : Int) + (k : Int)).toNat = 12 * a + k by omega, show (24 + (k : Int)).toNat = 24 + k by omega]
    refine ok_ck (inR_of (by omega)) (ok_ck (inR_of (by omega)) (ok_ck (inR_of (by omega)) (ok_ck (by omega) (ok_ck (by omega) (ok_bs ?_)))))
    rw [rS_A605, rS_A605w]
    refine ok_ck (inR_of (by omega)) (ok_ck (inR_of (by omega)) (ok_ck (inR_of (by omega)) (ok_ck (by omega) (ok_ck (by omega) (ok_bs ?_)))))
    rw [rS_A606, rS_A606w]
    refine ok_ck (inR_of (by omega)) (ok_ck (inR_of (by omega)) (ok_ck (inR_of (by omega)) (ok_ck (by omega) (ok_ck (by omega) (ok_bs ?_)))))
    rw [rS_B607, rS_B607w]
    refine ok_ck (inR_of (by omega)) (ok_ck (inR_of (by omega)) (ok_ck (inR_of (by omega)) (ok_ck (by omega) (ok_ck (by omega) (ok_bs ?_)))))
    rw [rS_B608, rS_B608w]
    refine ok_ck (inR_of (by omega)) ?_
    have e : (pm_up (cpf a k E.1) (12 * a + k) (cpf a k E.1 (24 + k)), pm_up (cpf a k E.2.1) (12 * a + k) (cpf a k E.2.1 (24 + k)), pm_up (cpf a k E.2.2.1) (12 * a + k) (cpf a k E.2.2.1 (24 + k)), pm_up (cpf a k E.2.2.2) (12 * a + k) (cpf a k E.2.2.2 (24 + k))) = cpD a (k + 1) E := by
      rw [cpf_step ha (by omega), cpf_step ha (by omega), cpf_step ha (by omega), cpf_step ha (by omega)]
      rfl
    have ih := k6_t78 (E := E) ha hc hK r N (k + 1) (by omega) (by omega)
    rw [← e, show ((k + 1 : Nat) : Int) = (k : Int) + 1 by omega] at ih
    exact ih
