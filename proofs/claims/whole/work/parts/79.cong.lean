/-! ===== SIZING: what counts is what stands at the tracks ===== -/
def ag {α : Type} (c : Nat) (f g : Nat → α) : Prop := ∀ t, t < c → f t = g t
theorem ag_flo {α : Type} {c : Nat} {new new' old old' : Nat → α} (h : ag c new new') : ag c (flo 0 c new old) (flo 0 c new' old') := by
  intro t ht
  rw [flo_in (by omega), flo_in (by omega)]
  exact h t ht
theorem ag_up {α : Type} {c k : Nat} {f g : Nat → α} {v w : α} (h : ag c f g) (hv : v = w) : ag c (pm_up f k v) (pm_up g k w) := by
  intro t ht
  unfold pm_up
  split
  · exact hv
  · exact h t ht
theorem ag_sgB {lo ln sp : Nat → Int} {le mo b b' : Nat → UInt32} {c : Nat} (h : ag c b b') : ∀ {n : Nat}, (∀ j, j < n → ln j ≠ 0 → sp j = 1 → (ln j - 1).toNat < c) → ag c (sgB lo ln sp le mo b n) (sgB lo ln sp le mo b' n)
  | 0, _ => h
  | n + 1, h2 => by
    have ih := ag_sgB (lo := lo) (le := le) (mo := mo) h (n := n) (fun j hj => h2 j (by omega))
    show ag c (if ln n ≠ 0 ∧ sp n = 1 then _ else _) (if ln n ≠ 0 ∧ sp n = 1 then _ else _)
    by_cases hq : ln n ≠ 0 ∧ sp n = 1
    · rw [if_pos hq, if_pos hq]
      exact ag_up ih (by rw [ih _ (h2 n (by omega) hq.1 hq.2)])
    · rw [if_neg hq, if_neg hq]
      exact ih
theorem ag_sgL {hi ln sp : Nat → Int} {hn le mo l l' : Nat → UInt32} {c : Nat} (h : ag c l l') : ∀ {n : Nat}, (∀ j, j < n → ln j ≠ 0 → sp j = 1 → (ln j - 1).toNat < c) → ag c (sgL hi ln sp hn le mo l n) (sgL hi ln sp hn le mo l' n)
  | 0, _ => h
  | n + 1, h2 => by
    have ih := ag_sgL (hi := hi) (hn := hn) (le := le) (mo := mo) h (n := n) (fun j hj => h2 j (by omega))
    show ag c (if ln n ≠ 0 ∧ sp n = 1 then _ else _) (if ln n ≠ 0 ∧ sp n = 1 then _ else _)
    by_cases hq : ln n ≠ 0 ∧ sp n = 1
    · rw [if_pos hq, if_pos hq]
      exact ag_up ih (by rw [ih _ (h2 n (by omega) hq.1 hq.2)])
    · rw [if_neg hq, if_neg hq]
      exact ih
theorem ag_rz {b b' l l' : Nat → UInt32} {c : Nat} (hb : ag c b b') (hl : ag c l l') : ag c (rz b l c) (rz b' l' c) := by
  unfold rz
  exact ag_flo (fun t ht => by rw [hb t ht, hl t ht])
theorem ag_sprd {x g : UInt32} {b b' : Nat → UInt32} {p : Nat → Int} {f w c : Nat} (h : ag c b b') (hf : f + w ≤ c) : ag c (sprd x g b p f w) (sprd x g b' p f w) := by
  have e : spx x g b f w = spx x g b' f w := by
    unfold spx
    rw [subs_congr (b := fun k => b (f + k)) (b' := fun k => b' (f + k)) (fun t ht => h _ (by omega))]
  intro t ht
  unfold sprd
  rw [e]
  split
  · exact h t ht
  · split
    · exact h t ht
    · unfold flo spn
      rw [h t ht]
theorem ag_spI {p ln sp : Nat → Int} {xs b b' : Nat → UInt32} {g : UInt32} {w c : Nat} (h : ag c b b') : ∀ {n : Nat}, (∀ j, j < n → ln j ≠ 0 → sp j = (w : Int) → (ln j - 1).toNat + w ≤ c) → ag c (spI p ln sp xs g w b n) (spI p ln sp xs g w b' n)
  | 0, _ => h
  | n + 1, h2 => by
    have ih := ag_spI (p := p) (xs := xs) (g := g) h (n := n) (fun j hj => h2 j (by omega))
    show ag c (if ln n ≠ 0 ∧ sp n = (w : Int) then _ else _) (if ln n ≠ 0 ∧ sp n = (w : Int) then _ else _)
    by_cases hq : ln n ≠ 0 ∧ sp n = (w : Int)
    · rw [if_pos hq, if_pos hq]
      exact ag_sprd ih (h2 n (by omega) hq.1 hq.2)
    · rw [if_neg hq, if_neg hq]
      exact ih
theorem ag_spA {p ln sp : Nat → Int} {xs b b' : Nat → UInt32} {g : UInt32} {c n : Nat} (h : ag c b b') (h2 : ∀ w : Nat, ∀ j, j < n → ln j ≠ 0 → sp j = (w : Int) → (ln j - 1).toNat + w ≤ c) : ag c (spA p ln sp xs g n b) (spA p ln sp xs g n b') := ag_spI (ag_spI (ag_spI h (h2 2)) (h2 3)) (h2 4)
theorem cg_congr {b b' l l' : Nat → UInt32} : ∀ {c : Nat}, ag c b b' → ag c l l' → cg b l c = cg b' l' c
  | 0, _, _ => rfl
  | c + 1, h1, h2 => by
    show cg b l c + (if fk (b c) < fk (l c) then 1 else 0) = cg b' l' c + (if fk (b' c) < fk (l' c) then 1 else 0)
    rw [cg_congr (c := c) (fun t ht => h1 t (by omega)) (fun t ht => h2 t (by omega)), h1 c (by omega), h2 c (by omega)]
theorem gx_congr {b b' l l' : Nat → UInt32} {y x : UInt32} : ∀ {c : Nat}, ag c b b' → ag c l l' → gx b l y x c = gx b' l' y x c
  | 0, _, _ => rfl
  | c + 1, h1, h2 => by
    show (if fk (b c) < fk (l c) then FP.fsub (gx b l y x c) (mn (FP.fsub (l c) (b c)) y) else gx b l y x c) = (if fk (b' c) < fk (l' c) then FP.fsub (gx b' l' y x c) (mn (FP.fsub (l' c) (b' c)) y) else gx b' l' y x c)
    rw [gx_congr (c := c) (fun t ht => h1 t (by omega)) (fun t ht => h2 t (by omega)), h1 c (by omega), h2 c (by omega)]
theorem ag_grw {l l' : Nat → UInt32} {c : Nat} (hl : ag c l l') : ∀ {r : Nat} {b b' : Nat → UInt32} {x : UInt32}, ag c b b' → ag c (grw l c r b x) (grw l' c r b' x)
  | 0, b, b', x, h => h
  | r + 1, b, b', x, h => by
    rw [grw, grw, cg_congr h hl]
    split
    · exact h
    · split
      · exact h
      · rw [gx_congr h hl]
        exact ag_grw hl (ag_flo (fun t ht => by unfold gB; rw [h t ht, hl t ht]))
theorem sfs_congr {x : UInt32} {hi : Nat → Int} {b b' : Nat → UInt32} : ∀ {c : Nat}, ag c b b' → sfs x hi b c = sfs x hi b' c
  | 0, _ => rfl
  | c + 1, h => by
    show (if hi c = 4 then sfs x hi b c else FP.fsub (sfs x hi b c) (b c)) = (if hi c = 4 then sfs x hi b' c else FP.fsub (sfs x hi b' c) (b' c))
    rw [sfs_congr (c := c) (fun t ht => h t (by omega)), h c (by omega)]
theorem ssm_congr {ch ch' : Nat → Int} {hn : Nat → UInt32} : ∀ {c : Nat}, ag c ch ch' → ssm ch hn c = ssm ch' hn c
  | 0, _ => rfl
  | c + 1, h => by
    show (if ch c = 0 then ssm ch hn c else FP.fadd (ssm ch hn c) (hn c)) = (if ch' c = 0 then ssm ch' hn c else FP.fadd (ssm ch' hn c) (hn c))
    rw [ssm_congr (c := c) (fun t ht => h t (by omega)), h c (by omega)]
theorem one_congr {ch ch' : Nat → Int} {hn : Nat → UInt32} {c : Nat} {x : UInt32} (h : ag c ch ch') : one ch hn c x = one ch' hn c x := by
  unfold one
  rw [ssm_congr h]
theorem tg_congr {ch ch' : Nat → Int} {hn b b' : Nat → UInt32} {y : UInt32} {t : Nat} (h1 : ch t = ch' t) (h2 : b t = b' t) : tg ch hn b y t = tg ch' hn b' y t := by
  unfold tg
  rw [h1, h2]
theorem atg_congr {ch ch' : Nat → Int} {hn b b' : Nat → UInt32} {y : UInt32} : ∀ {c : Nat}, ag c ch ch' → ag c b b' → atg ch hn b y c = atg ch' hn b' y c
  | 0, _, _ => rfl
  | c + 1, h1, h2 => by
    show (atg ch hn b y c || tg ch hn b y c) = (atg ch' hn b' y c || tg ch' hn b' y c)
    rw [atg_congr (c := c) (fun t ht => h1 t (by omega)) (fun t ht => h2 t (by omega)), tg_congr (h1 c (by omega)) (h2 c (by omega))]
theorem sax_congr {ch ch' : Nat → Int} {hn b b' : Nat → UInt32} {y x : UInt32} : ∀ {c : Nat}, ag c ch ch' → ag c b b' → sax ch hn b y x c = sax ch' hn b' y x c
  | 0, _, _ => rfl
  | c + 1, h1, h2 => by
    show (if tg ch hn b y c then FP.fsub (sax ch hn b y x c) (b c) else sax ch hn b y x c) = (if tg ch' hn b' y c then FP.fsub (sax ch' hn b' y x c) (b' c) else sax ch' hn b' y x c)
    rw [sax_congr (c := c) (fun t ht => h1 t (by omega)) (fun t ht => h2 t (by omega)), tg_congr (h1 c (by omega)) (h2 c (by omega)), h2 c (by omega)]
theorem shl_congr {hn b b' : Nat → UInt32} {c : Nat} (hb : ag c b b') : ∀ {r : Nat} {ch ch' : Nat → Int} {x : UInt32}, ag c ch ch' → ag c (shl hn b c r ch x).1 (shl hn b' c r ch' x).1 ∧ (shl hn b c r ch x).2 = (shl hn b' c r ch' x).2
  | 0, ch, ch', x, h => ⟨h, rfl⟩
  | r + 1, ch, ch', x, h => by
    rw [shl, shl, one_congr h, atg_congr h hb]
    split
    · rw [sax_congr h hb]
      exact shl_congr hb (ag_flo (fun t ht => by unfold sac; rw [tg_congr (h t ht) (hb t ht), h t ht]))
    · exact ⟨h, rfl⟩
theorem ag_shA {hi : Nat → Int} {hn b b' : Nat → UInt32} {sp g : UInt32} {c : Nat} {ch ch' : Nat → Int} (hb : ag c b b') (hc : ag c ch ch') : ag c (shA hi hn b sp g c ch) (shA hi hn b' sp g c ch') := by
  unfold shA
  rw [sfs_congr hb]
  have h := shl_congr (hn := hn) hb (r := 12) (x := sfs (subs sp (fun _ => g) (c - 1)) hi b' c) hc
  rw [h.2, one_congr h.1]
  refine ag_flo (fun t ht => ?_)
  unfold shB
  rw [h.1 t ht, hb t ht]
theorem ag_stB {hi : Nat → Int} {how : Int} {b b' : Nat → UInt32} {sp g : UInt32} {c : Nat} (hb : ag c b b') : ag c (stB hi how b sp g c) (stB hi how b' sp g c) := by
  unfold stB
  rw [rst_congr (g := g) (x := sp) hb]
  split
  · exact ag_flo (fun t ht => by unfold spn; rw [hb t ht])
  · exact hb
theorem posn_congr {x g : UInt32} {b b' : Nat → UInt32} : ∀ {c : Nat}, ag c b b' → posn x g b c = posn x g b' c
  | 0, _ => rfl
  | c + 1, h => by
    show FP.fadd (FP.fadd (posn x g b c) (b c)) g = FP.fadd (FP.fadd (posn x g b' c) (b' c)) g
    rw [posn_congr (c := c) (fun t ht => h t (by omega)), h c (by omega)]
theorem ag_posn {x g : UInt32} {b b' : Nat → UInt32} {c : Nat} (h : ag c b b') : ag c (posn x g b) (posn x g b') := fun t ht => posn_congr (fun u hu => h u (by omega))
theorem ext_congr {b b' : Nat → UInt32} {g : UInt32} {f w c : Nat} (h : ag c b b') (hf : f + w ≤ c) : ext b g f w = ext b' g f w := by
  unfold ext
  rw [adds_congr (b := fun k => b (f + k)) (b' := fun k => b' (f + k)) (fun t ht => h _ (by omega))]
/-! the sizes as one function of what is told -/
def zB (lo hi ln sp : Nat → Int) (lnu hn le mo : Nat → UInt32) (g : UInt32) (c n : Nat) (b0 : Nat → UInt32) : Nat → UInt32 := sgB lo ln sp le mo (flo 0 c lnu b0) n
def zL (lo hi ln sp : Nat → Int) (lnu hn le mo : Nat → UInt32) (g : UInt32) (c n : Nat) (b0 l0 : Nat → UInt32) : Nat → UInt32 := rz (zB lo hi ln sp lnu hn le mo g c n b0) (sgL hi ln sp hn le mo (rz (flo 0 c lnu b0) (flo 0 c (bgL hi lnu hn) l0) c) n) c
def zB2 (lo hi ln sp : Nat → Int) (lnu hn le mo : Nat → UInt32) (g : UInt32) (c n : Nat) (b0 : Nat → UInt32) : Nat → UInt32 := spA (ndy lo hi) ln sp le g n (zB lo hi ln sp lnu hn le mo g c n b0)
def zL3 (lo hi ln sp : Nat → Int) (lnu hn le mo : Nat → UInt32) (g : UInt32) (c n : Nat) (b0 l0 : Nat → UInt32) : Nat → UInt32 := spA (wid hi) ln sp mo g n (rz (zB2 lo hi ln sp lnu hn le mo g c n b0) (zL lo hi ln sp lnu hn le mo g c n b0 l0) c)
def zB6 (lo hi ln sp : Nat → Int) (lnu hn le mo : Nat → UInt32) (spc g : UInt32) (how : Int) (c n : Nat) (b0 l3 : Nat → UInt32) (ch0 : Nat → Int) : Nat → UInt32 :=
  stB hi how (shA hi hn (grw l3 c 16 (zB2 lo hi ln sp lnu hn le mo g c n b0) (rst spc (zB2 lo hi ln sp lnu hn le mo g c n b0) g c)) spc g c ch0) spc g c
theorem ag_zB6 {lo hi ln sp : Nat → Int} {lnu hn le mo : Nat → UInt32} {spc g : UInt32} {how : Int} {c n : Nat} {b0 b0' l3 l3' : Nat → UInt32} {ch0 ch0' : Nat → Int} (h1 : ∀ w : Nat, ∀ j, j < n → ln j ≠ 0 → sp j = (w : Int) → (ln j - 1).toNat + w ≤ c) (h3 : ag c l3 l3') (hc : ag c ch0 ch0') :
    ag c (zB6 lo hi ln sp lnu hn le mo spc g how c n b0 l3 ch0) (zB6 lo hi ln sp lnu hn le mo spc g how c n b0' l3' ch0') := by
  have hz : ag c (zB2 lo hi ln sp lnu hn le mo g c n b0) (zB2 lo hi ln sp lnu hn le mo g c n b0') := ag_spA (ag_sgB (ag_flo (fun t _ => rfl)) (fun j hj q1 q2 => by have := h1 1 j hj q1 (by omega); omega)) h1
  unfold zB6
  rw [rst_congr (x := spc) (g := g) hz]
  exact ag_stB (ag_shA (ag_grw h3 hz) hc)
theorem ag_zL3 {lo hi ln sp : Nat → Int} {lnu hn le mo : Nat → UInt32} {g : UInt32} {c n : Nat} {b0 b0' l0 l0' : Nat → UInt32} (h1 : ∀ w : Nat, ∀ j, j < n → ln j ≠ 0 → sp j = (w : Int) → (ln j - 1).toNat + w ≤ c) :
    ag c (zL3 lo hi ln sp lnu hn le mo g c n b0 l0) (zL3 lo hi ln sp lnu hn le mo g c n b0' l0') := by
  have hin : ∀ j, j < n → ln j ≠ 0 → sp j = 1 → (ln j - 1).toNat < c := fun j hj q1 q2 => by have := h1 1 j hj q1 (by omega); omega
  have hb : ag c (zB lo hi ln sp lnu hn le mo g c n b0) (zB lo hi ln sp lnu hn le mo g c n b0') := ag_sgB (ag_flo (fun t _ => rfl)) hin
  have hz : ag c (zB2 lo hi ln sp lnu hn le mo g c n b0) (zB2 lo hi ln sp lnu hn le mo g c n b0') := ag_spA hb h1
  exact ag_spA (ag_rz hz (ag_rz hb (ag_sgL (ag_rz (ag_flo (fun t _ => rfl)) (ag_flo (fun t _ => rfl))) hin))) h1
