/-! ===== A PURE READER OF TEMPLATES ===== -/
abbrev PR (α : Type) : Type := Int → Option α × Int
abbrev Tk : Type := Int × UInt32 × Int × UInt32
abbrev Dr : Type := (Nat → Int) × (Nat → UInt32) × (Nat → Int) × (Nat → UInt32)
def Pp {α : Type} (a : α) : PR α := fun p => (some a, p)
def Pz {α : Type} : PR α := fun p => (none, p)
def Pb {α β : Type} (m : PR α) (f : α → PR β) : PR β := fun p => match (m p).1 with
  | some a => f a (m p).2
  | none => (none, (m p).2)
def rb {α : Type} (o : Option α) : Int := match o with
  | some _ => 1
  | none => 0
/-- on the character c: behind it; else here -/
def Pc {α : Type} (T : Nat → Int) (n c : Int) (m1 m2 : PR α) : PR α := fun p => if p < n ∧ T p.toNat = c then m1 (p + 1) else m2 p
/-- on the character c: here; else here -/
def Pi {α : Type} (T : Nat → Int) (n c : Int) (m1 m2 : PR α) : PR α := fun p => if p < n ∧ T p.toNat = c then m1 p else m2 p
def Pt (T : Nat → Int) (n c : Int) : PR Unit := Pc T n c (Pp ()) Pz
def Pw (T : Nat → Int) (n : Int) : List Int → PR Unit
  | [] => Pp ()
  | c :: cs => Pb (Pt T n c) (fun _ => Pw T n cs)
def Pd (T : Nat → Int) (n : Int) : Nat → Int → Int → PR (Int × Int)
  | 0, v, c => Pp (v, c)
  | k + 1, v, c => fun p => if p < n ∧ 48 ≤ T p.toNat ∧ T p.toNat ≤ 57 then Pd T n k (v * 10 + (T p.toNat - 48)) (c + 1) (p + 1) else (some (v, c), p)
def dvr (c : Int) : UInt32 := if c = 1 then UInt32.ofNat 1092616192 else if c = 2 then UInt32.ofNat 1120403456 else UInt32.ofNat 1148846080
def nmw (v : Int) : UInt32 := FP.i2f (Int32.ofInt v)
def nmf (w c : Int) : UInt32 := FP.fdiv (FP.i2f (Int32.ofInt w)) (dvr c)
noncomputable def Pnum (T : Nat → Int) (n : Int) : PR UInt32 := Pb (Pd T n 4 0 0) (fun v => if v.2 = 0 then Pz else Pc T n 46 (Pb (Pd T n 3 0 0) (fun w => if w.2 = 0 then Pz else Pp (FP.fadd (nmw v.1) (nmf w.1 w.2)))) (Pp (nmw v.1)))
noncomputable def Pplain (T : Nat → Int) (n : Int) : PR (Int × UInt32) :=
  Pi T n 97 (Pb (Pw T n [97, 117, 116, 111]) (fun _ => Pp (3, FP.fconst0)))
    (Pc T n 109 (Pi T n 97 (Pb (Pw T n [97, 120]) (fun _ => Pp (2, FP.fconst0))) (Pb (Pw T n [105, 110]) (fun _ => Pp (1, FP.fconst0))))
      (Pb (Pnum T n) (fun u => Pp (0, u))))
def Pshare (T : Nat → Int) (n k : Int) (u : UInt32) : PR (Int × UInt32) :=
  if k ≠ 0 then Pp (k, u) else Pi T n 102 (Pb (Pw T n [102, 114]) (fun _ => Pp (4, u))) (Pp (k, u))
def Pend (T : Nat → Int) (n k : Int) (u : UInt32) : PR Tk :=
  Pb (Pshare T n k u) (fun x => if x.1 ≠ 4 then Pp (x.1, x.2, x.1, x.2) else Pp (3, FP.fconst0, 4, x.2))
noncomputable def Pmm (T : Nat → Int) (n : Int) : PR Tk :=
  Pb (Pw T n [109, 97, 120, 40]) (fun _ => Pb (Pplain T n) (fun a => Pb (Pt T n 44) (fun _ => Pb (Pplain T n) (fun b => Pb (Pshare T n b.1 b.2) (fun d => Pb (Pt T n 41) (fun _ => Pp (a.1, a.2, d.1, d.2)))))))
noncomputable def Pfit (T : Nat → Int) (n : Int) : PR Tk :=
  Pb (Pw T n [102, 105, 116, 40]) (fun _ => Pb (Pnum T n) (fun u => Pb (Pt T n 41) (fun _ => Pp (3, FP.fconst0, 5, u))))
noncomputable def Ptrack (T : Nat → Int) (n : Int) : PR Tk :=
  Pi T n 102 (Pfit T n) (Pb (Pplain T n) (fun a => if a.1 ≠ 1 then Pend T n a.1 a.2 else Pi T n 109 (Pmm T n) (Pend T n a.1 a.2)))
def Pdig (T : Nat → Int) (n c : Int) : PR Int := fun p => if p < n ∧ 1 ≤ T p.toNat - 48 ∧ T p.toNat - 48 ≤ 9 ∧ c + (T p.toNat - 48) ≤ 12 then (some (T p.toNat - 48), p + 1) else (none, p)
def Pent (T : Nat → Int) (n c : Int) : PR Int :=
  Pb (Pw T n [114, 101, 112, 101, 97, 116, 40]) (fun _ => Pb (Pdig T n c) (fun t => Pb (Pt T n 44) (fun _ => Pp t)))
def upD (D : Dr) (c : Int) (t : Tk) : Dr := (pm_up D.1 c.toNat t.1, pm_up D.2.1 c.toNat t.2.1, pm_up D.2.2.1 c.toNat t.2.2.1, pm_up D.2.2.2 c.toNat t.2.2.2)
def atD (D : Dr) (c : Int) : Tk := (D.1 c.toNat, D.2.1 c.toNat, D.2.2.1 c.toNat, D.2.2.2 c.toNat)
/-- k copies from len before -/
def repD (len : Int) : Nat → Int → Dr → Dr
  | 0, _, D => D
  | k + 1, c, D => repD len k (c + 1) (upD D c (atD D (c - len)))
/-- before a track: in a repeat or not, the repeat's first track, its times -/
def Phead (T : Nat → Int) (n ir fi ti c : Int) : PR (Int × Int × Int) :=
  if ir ≠ 0 then Pp (ir, fi, ti) else Pi T n 114 (Pb (Pent T n c) (fun t => Pp (1, c, t))) (Pp (ir, fi, ti))
def Ptail (T : Nat → Int) (n : Int) (go : Int → Int → Int → Int → Dr → PR (Int × Dr)) (ir fi ti c : Int) (D : Dr) : PR (Int × Dr) := fun p =>
  if n ≤ p then (if ir ≠ 0 then (none, p) else (some (c, D), p)) else if 12 < fi + ti * (c - fi + 1) then (none, p) else Pb (Pt T n 32) (fun _ => go ir fi ti c D) p
noncomputable def Ploop (T : Nat → Int) (n : Int) : Nat → Int → Int → Int → Int → Dr → PR (Int × Dr)
  | 0, _, _, _, _, _ => Pz
  | m + 1, ir, fi, ti, c, D => Pb (Phead T n ir fi ti c) (fun e => Pb (Ptrack T n) (fun t =>
      if e.1 ≠ 0 then Pc T n 41 (Ptail T n (Ploop T n m) 0 0 1 (e.2.1 + e.2.2 * (c + 1 - e.2.1)) (repD (c + 1 - e.2.1) ((c + 1 - e.2.1) * (e.2.2 - 1)).toNat (c + 1) (upD D c t))) (Ptail T n (Ploop T n m) e.1 e.2.1 e.2.2 (c + 1) (upD D c t))
      else Ptail T n (Ploop T n m) e.1 e.2.1 e.2.2 (c + 1) (upD D c t)))
noncomputable def Ptext (T : Nat → Int) (n : Int) (D : Dr) : Option (Int × Dr) × Int := if n = 0 then (some (0, D), 0) else Ploop T n 12 0 0 1 0 D 0
theorem Pb_some {α β : Type} {m : PR α} {f : α → PR β} {p : Int} {a : α} (h : (m p).1 = some a) : Pb m f p = f a (m p).2 := by
  unfold Pb; rw [h]
theorem Pb_none {α β : Type} {m : PR α} {f : α → PR β} {p : Int} (h : (m p).1 = none) : Pb m f p = (none, (m p).2) := by
  unfold Pb; rw [h]
theorem Pb_some' {α β : Type} {m : PR α} {f : α → PR β} {p p' : Int} {a : α} (h : m p = (some a, p')) : Pb m f p = f a p' := by
  unfold Pb; rw [h]
theorem Pb_none' {α β : Type} {m : PR α} {f : α → PR β} {p p' : Int} (h : m p = (none, p')) : Pb m f p = (none, p') := by
  unfold Pb; rw [h]
theorem Pc_y {α : Type} {T : Nat → Int} {n c p : Int} {m1 m2 : PR α} (h : p < n ∧ T p.toNat = c) : Pc T n c m1 m2 p = m1 (p + 1) := if_pos h
theorem Pc_n {α : Type} {T : Nat → Int} {n c p : Int} {m1 m2 : PR α} (h : ¬ (p < n ∧ T p.toNat = c)) : Pc T n c m1 m2 p = m2 p := if_neg h
theorem Pi_y {α : Type} {T : Nat → Int} {n c p : Int} {m1 m2 : PR α} (h : p < n ∧ T p.toNat = c) : Pi T n c m1 m2 p = m1 p := if_pos h
theorem Pi_n {α : Type} {T : Nat → Int} {n c p : Int} {m1 m2 : PR α} (h : ¬ (p < n ∧ T p.toNat = c)) : Pi T n c m1 m2 p = m2 p := if_neg h
theorem Pt_y {T : Nat → Int} {n c p : Int} (h : p < n ∧ T p.toNat = c) : Pt T n c p = (some (), p + 1) := if_pos h
theorem Pt_n {T : Nat → Int} {n c p : Int} (h : ¬ (p < n ∧ T p.toNat = c)) : Pt T n c p = (none, p) := if_neg h
/-! a shorter text is read alike, as far as it goes -/
def Loc {α : Type} (N n : Int) (A B : PR α) : Prop := (∀ p, p ≤ (A p).2 ∧ (p ≤ N → (A p).2 ≤ N)) ∧ ∀ p, p ≤ n → (p ≤ (B p).2 ∧ (B p).2 ≤ n) ∧ ((A p).2 < n → B p = A p) ∧ (n ≤ (A p).2 → (B p).2 = n)
theorem Loc_pp {α : Type} {N n : Int} (a : α) : Loc N n (Pp a) (Pp a) := ⟨fun p => ⟨Int.le_refl _, fun h => h⟩, fun p hp => ⟨⟨Int.le_refl _, hp⟩, fun _ => rfl, fun h => Int.le_antisymm hp h⟩⟩
theorem Loc_pz {α : Type} {N n : Int} : Loc N n (Pz (α := α)) Pz := ⟨fun p => ⟨Int.le_refl _, fun h => h⟩, fun p hp => ⟨⟨Int.le_refl _, hp⟩, fun _ => rfl, fun h => Int.le_antisymm hp h⟩⟩
theorem Loc_b {α β : Type} {N n : Int} {A B : PR α} {F G : α → PR β} (h : Loc N n A B) (hf : ∀ a, Loc N n (F a) (G a)) : Loc N n (Pb A F) (Pb B G) := by
  have mono : ∀ p, p ≤ (Pb A F p).2 ∧ (A p).2 ≤ (Pb A F p).2 ∧ (p ≤ N → (Pb A F p).2 ≤ N) := by
    intro p
    have h1 := h.1 p
    cases ha : (A p).1 with
    | none => rw [Pb_none ha]; exact ⟨h1.1, Int.le_refl _, h1.2⟩
    | some a =>
      rw [Pb_some ha]
      have h2 := (hf a).1 (A p).2
      exact ⟨Int.le_trans h1.1 h2.1, h2.1, fun hp => h2.2 (h1.2 hp)⟩
  refine ⟨fun p => ⟨(mono p).1, (mono p).2.2⟩, fun p hp => ?_⟩
  have h1 := h.1 p
  obtain ⟨h2, h3, h4⟩ := h.2 p hp
  by_cases hl : (A p).2 < n
  · have e := h3 hl
    cases ha : (A p).1 with
    | none =>
      rw [Pb_none ha, Pb_none (by rw [e]; exact ha), e]
      rw [e] at h2
      exact ⟨h2, fun _ => rfl, fun hh => absurd hl (by omega)⟩
    | some a =>
      rw [Pb_some ha, Pb_some (m := B) (by rw [e]; exact ha), e]
      obtain ⟨g2, g3, g4⟩ := (hf a).2 (A p).2 (by omega)
      exact ⟨⟨by omega, g2.2⟩, g3, g4⟩
  · have e := h4 (by omega)
    have hm := (mono p).2.1
    have key : (Pb B G p).2 = n := by
      cases hb : (B p).1 with
      | none => rw [Pb_none hb]; exact e
      | some a =>
        rw [Pb_some hb, e]
        have g2 := ((hf a).2 n (Int.le_refl _)).1
        omega
    exact ⟨⟨by omega, by omega⟩, fun hh => absurd hh (by omega), fun _ => key⟩
theorem Loc_c {α : Type} {N n : Int} (hn : n ≤ N) {T : Nat → Int} {c : Int} {A1 A2 B1 B2 : PR α} (h1 : Loc N n A1 B1) (h2 : Loc N n A2 B2) : Loc N n (Pc T N c A1 A2) (Pc T n c B1 B2) := by
  refine ⟨fun p => ?_, fun p hp => ?_⟩
  · by_cases h : p < N ∧ T p.toNat = c
    · rw [Pc_y h]
      have := h1.1 (p + 1)
      exact ⟨by omega, fun _ => this.2 (by omega)⟩
    · rw [Pc_n h]
      exact h2.1 p
  · by_cases hl : p < n
    · by_cases h : T p.toNat = c
      · rw [Pc_y (n := N) ⟨by omega, h⟩, Pc_y (n := n) ⟨hl, h⟩]
        have := h1.2 (p + 1) (by omega)
        exact ⟨⟨by omega, by omega⟩, this.2.1, this.2.2⟩
      · rw [Pc_n (fun q => h q.2), Pc_n (fun q => h q.2)]
        exact h2.2 p hp
    · have hpn : p = n := by omega
      rw [Pc_n (n := n) (fun q => hl q.1)]
      have g := (h2.2 p hp).1
      have key : (B2 p).2 = n := by omega
      refine ⟨g, fun hh => ?_, fun _ => key⟩
      by_cases h : p < N ∧ T p.toNat = c
      · rw [Pc_y h] at hh
        have := (h1.1 (p + 1)).1
        omega
      · rw [Pc_n h] at hh
        have := (h2.1 p).1
        omega
theorem Loc_i {α : Type} {N n : Int} (hn : n ≤ N) {T : Nat → Int} {c : Int} {A1 A2 B1 B2 : PR α} (h1 : Loc N n A1 B1) (h2 : Loc N n A2 B2) : Loc N n (Pi T N c A1 A2) (Pi T n c B1 B2) := by
  refine ⟨fun p => ?_, fun p hp => ?_⟩
  · by_cases h : p < N ∧ T p.toNat = c
    · rw [Pi_y h]
      exact h1.1 p
    · rw [Pi_n h]
      exact h2.1 p
  · by_cases hl : p < n
    · by_cases h : T p.toNat = c
      · rw [Pi_y (n := N) ⟨by omega, h⟩, Pi_y (n := n) ⟨hl, h⟩]
        exact h1.2 p hp
      · rw [Pi_n (fun q => h q.2), Pi_n (fun q => h q.2)]
        exact h2.2 p hp
    · have hpn : p = n := by omega
      rw [Pi_n (n := n) (fun q => hl q.1)]
      have g := (h2.2 p hp).1
      have key : (B2 p).2 = n := by omega
      refine ⟨g, fun hh => ?_, fun _ => key⟩
      by_cases h : p < N ∧ T p.toNat = c
      · rw [Pi_y h] at hh
        have := (h1.1 p).1
        omega
      · rw [Pi_n h] at hh
        have := (h2.1 p).1
        omega
theorem Loc_t {N n : Int} (hn : n ≤ N) {T : Nat → Int} {c : Int} : Loc N n (Pt T N c) (Pt T n c) := Loc_c hn (Loc_pp _) Loc_pz
theorem Loc_w {N n : Int} (hn : n ≤ N) {T : Nat → Int} : ∀ cs : List Int, Loc N n (Pw T N cs) (Pw T n cs)
  | [] => Loc_pp _
  | _ :: cs => Loc_b (Loc_t hn) (fun _ => Loc_w hn cs)
theorem Loc_if {α : Type} {N n : Int} {c : Prop} {dc : Decidable c} {A1 A2 B1 B2 : PR α} (h1 : Loc N n A1 B1) (h2 : Loc N n A2 B2) : Loc N n (@ite _ c dc A1 A2) (@ite _ c dc B1 B2) := by
  by_cases h : c
  · rw [if_pos h, if_pos h]; exact h1
  · rw [if_neg h, if_neg h]; exact h2
/-- reading one character by a test -/
theorem Loc_q {α : Type} {N n : Int} (hn : n ≤ N) {Q : Int → Prop} {dN : ∀ p, Decidable (p < N ∧ Q p)} {dn : ∀ p, Decidable (p < n ∧ Q p)} {A1 B1 : Int → PR α} {a : α} (h1 : ∀ x, Loc N n (A1 x) (B1 x)) {A2 B2 : PR α} (h2 : Loc N n A2 B2) : Loc N n (fun p => @ite _ (p < N ∧ Q p) (dN p) (A1 p (p + 1)) (A2 p)) (fun p => @ite _ (p < n ∧ Q p) (dn p) (B1 p (p + 1)) (B2 p)) := by
  refine ⟨fun p => ?_, fun p hp => ?_⟩
  · by_cases h : p < N ∧ Q p
    · simp only [if_pos h]
      have := (h1 p).1 (p + 1)
      exact ⟨by omega, fun _ => this.2 (by omega)⟩
    · simp only [if_neg h]
      exact h2.1 p
  · by_cases hl : p < n
    · by_cases h : Q p
      · simp only [if_pos (show p < N ∧ Q p from ⟨by omega, h⟩), if_pos (show p < n ∧ Q p from ⟨hl, h⟩)]
        have := (h1 p).2 (p + 1) (by omega)
        exact ⟨⟨by omega, by omega⟩, this.2.1, this.2.2⟩
      · simp only [if_neg (show ¬ (p < N ∧ Q p) from fun q => h q.2), if_neg (show ¬ (p < n ∧ Q p) from fun q => h q.2)]
        exact h2.2 p hp
    · have hpn : p = n := by omega
      simp only [if_neg (show ¬ (p < n ∧ Q p) from fun q => hl q.1)]
      have g := (h2.2 p hp).1
      have key : (B2 p).2 = n := by omega
      refine ⟨g, fun hh => ?_, fun _ => key⟩
      by_cases h : p < N ∧ Q p
      · simp only [if_pos h] at hh
        have := ((h1 p).1 (p + 1)).1
        omega
      · simp only [if_neg h] at hh
        have := (h2.1 p).1
        omega
theorem Loc_d {N n : Int} (hn : n ≤ N) {T : Nat → Int} : ∀ (k : Nat) (v c : Int), Loc N n (Pd T N k v c) (Pd T n k v c)
  | 0, v, c => Loc_pp _
  | k + 1, v, c => Loc_q (a := (0, 0)) hn (Q := fun p => 48 ≤ T p.toNat ∧ T p.toNat ≤ 57) (A1 := fun p => Pd T N k (v * 10 + (T p.toNat - 48)) (c + 1)) (B1 := fun p => Pd T n k (v * 10 + (T p.toNat - 48)) (c + 1)) (fun x => Loc_d hn k _ _) (A2 := Pp (v, c)) (B2 := Pp (v, c)) (Loc_pp _)
theorem Loc_num {N n : Int} (hn : n ≤ N) {T : Nat → Int} : Loc N n (Pnum T N) (Pnum T n) :=
  Loc_b (Loc_d hn _ _ _) (fun _ => Loc_if Loc_pz (Loc_c hn (Loc_b (Loc_d hn _ _ _) (fun _ => Loc_if Loc_pz (Loc_pp _))) (Loc_pp _)))
theorem Loc_plain {N n : Int} (hn : n ≤ N) {T : Nat → Int} : Loc N n (Pplain T N) (Pplain T n) :=
  Loc_i hn (Loc_b (Loc_w hn _) (fun _ => Loc_pp _)) (Loc_c hn (Loc_i hn (Loc_b (Loc_w hn _) (fun _ => Loc_pp _)) (Loc_b (Loc_w hn _) (fun _ => Loc_pp _))) (Loc_b (Loc_num hn) (fun _ => Loc_pp _)))
theorem Loc_share {N n : Int} (hn : n ≤ N) {T : Nat → Int} {k : Int} {u : UInt32} : Loc N n (Pshare T N k u) (Pshare T n k u) :=
  Loc_if (Loc_pp _) (Loc_i hn (Loc_b (Loc_w hn _) (fun _ => Loc_pp _)) (Loc_pp _))
theorem Loc_end {N n : Int} (hn : n ≤ N) {T : Nat → Int} {k : Int} {u : UInt32} : Loc N n (Pend T N k u) (Pend T n k u) :=
  Loc_b (Loc_share hn) (fun _ => Loc_if (Loc_pp _) (Loc_pp _))
theorem Loc_mm {N n : Int} (hn : n ≤ N) {T : Nat → Int} : Loc N n (Pmm T N) (Pmm T n) :=
  Loc_b (Loc_w hn _) (fun _ => Loc_b (Loc_plain hn) (fun _ => Loc_b (Loc_t hn) (fun _ => Loc_b (Loc_plain hn) (fun _ => Loc_b (Loc_share hn) (fun _ => Loc_b (Loc_t hn) (fun _ => Loc_pp _))))))
theorem Loc_fit {N n : Int} (hn : n ≤ N) {T : Nat → Int} : Loc N n (Pfit T N) (Pfit T n) :=
  Loc_b (Loc_w hn _) (fun _ => Loc_b (Loc_num hn) (fun _ => Loc_b (Loc_t hn) (fun _ => Loc_pp _)))
theorem Loc_track {N n : Int} (hn : n ≤ N) {T : Nat → Int} : Loc N n (Ptrack T N) (Ptrack T n) :=
  Loc_i hn (Loc_fit hn) (Loc_b (Loc_plain hn) (fun _ => Loc_if (Loc_end hn) (Loc_i hn (Loc_mm hn) (Loc_end hn))))
theorem Loc_dig {N n : Int} (hn : n ≤ N) {T : Nat → Int} {c : Int} : Loc N n (Pdig T N c) (Pdig T n c) :=
  Loc_q (a := 0) hn (Q := fun p => 1 ≤ T p.toNat - 48 ∧ T p.toNat - 48 ≤ 9 ∧ c + (T p.toNat - 48) ≤ 12) (A1 := fun p => Pp (T p.toNat - 48)) (B1 := fun p => Pp (T p.toNat - 48)) (fun x => Loc_pp _) (A2 := Pz) (B2 := Pz) Loc_pz
theorem Loc_ent {N n : Int} (hn : n ≤ N) {T : Nat → Int} {c : Int} : Loc N n (Pent T N c) (Pent T n c) :=
  Loc_b (Loc_w hn _) (fun _ => Loc_b (Loc_dig hn) (fun _ => Loc_b (Loc_t hn) (fun _ => Loc_pp _)))
theorem Loc_head {N n : Int} (hn : n ≤ N) {T : Nat → Int} {ir fi ti c : Int} : Loc N n (Phead T N ir fi ti c) (Phead T n ir fi ti c) :=
  Loc_if (Loc_pp _) (Loc_i hn (Loc_b (Loc_ent hn) (fun _ => Loc_pp _)) (Loc_pp _))
theorem Loc_tail {N n : Int} (hn : n ≤ N) {T : Nat → Int} {go gn : Int → Int → Int → Int → Dr → PR (Int × Dr)} (hg : ∀ a b c d D, Loc N n (go a b c d D) (gn a b c d D)) {ir fi ti c : Int} {D : Dr} : Loc N n (Ptail T N go ir fi ti c D) (Ptail T n gn ir fi ti c D) := by
  have hb : Loc N n (Pb (Pt T N 32) (fun _ => go ir fi ti c D)) (Pb (Pt T n 32) (fun _ => gn ir fi ti c D)) := Loc_b (Loc_t hn) (fun _ => hg _ _ _ _ _)
  refine ⟨fun p => ?_, fun p hp => ?_⟩
  · unfold Ptail
    split
    · split
      · exact ⟨Int.le_refl _, fun h => h⟩
      · exact ⟨Int.le_refl _, fun h => h⟩
    · split
      · exact ⟨Int.le_refl _, fun h => h⟩
      · exact hb.1 p
  · by_cases hl : p < n
    · unfold Ptail
      rw [if_neg (show ¬ N ≤ p by omega), if_neg (show ¬ n ≤ p by omega)]
      split
      · exact ⟨⟨Int.le_refl _, hp⟩, fun _ => rfl, fun h => Int.le_antisymm hp h⟩
      · exact hb.2 p hp
    · have hpn : p = n := by omega
      have e : (Ptail T n gn ir fi ti c D p).2 = n := by
        unfold Ptail
        rw [if_pos (show n ≤ p by omega)]
        split <;> exact hpn
      refine ⟨⟨by omega, by omega⟩, fun hh => ?_, fun _ => e⟩
      have : p ≤ (Ptail T N go ir fi ti c D p).2 := by
        unfold Ptail
        split
        · split
          · exact Int.le_refl _
          · exact Int.le_refl _
        · split
          · exact Int.le_refl _
          · exact (hb.1 p).1
      omega
theorem Loc_loop {N n : Int} (hn : n ≤ N) {T : Nat → Int} : ∀ (m : Nat) (ir fi ti c : Int) (D : Dr), Loc N n (Ploop T N m ir fi ti c D) (Ploop T n m ir fi ti c D)
  | 0, _, _, _, _, _ => Loc_pz
  | m + 1, ir, fi, ti, c, D => Loc_b (Loc_head hn) (fun _ => Loc_b (Loc_track hn) (fun _ => Loc_if (Loc_c hn (Loc_tail hn (Loc_loop hn m)) (Loc_tail hn (Loc_loop hn m))) (Loc_tail hn (Loc_loop hn m))))
/-- the place where the whole text's reading ends, seen from a shorter text -/
theorem text_loc {N n : Int} (h1 : 0 < n) (hn : n ≤ N) (T : Nat → Int) (D : Dr) : (0 ≤ (Ptext T N D).2 ∧ (Ptext T N D).2 ≤ N) ∧ ((Ptext T N D).2 < n → Ptext T n D = Ptext T N D) ∧ (n ≤ (Ptext T N D).2 → (Ptext T n D).2 = n) := by
  unfold Ptext
  rw [if_neg (by omega), if_neg (by omega)]
  have h := Loc_loop hn (T := T) 12 0 0 1 0 D
  have h2 := h.2 0 (by omega)
  have h3 := h.1 0
  exact ⟨⟨h3.1, h3.2 (by omega)⟩, h2.2.1, h2.2.2⟩
