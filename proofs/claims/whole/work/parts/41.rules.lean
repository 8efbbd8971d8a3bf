/-! ===== RULES OF A WALK (written by wip/whole/gen_rules.py) ===== -/
/-- X holds wherever one step leads into X, or to the end -/
def pm_clo (L : Nat) (xs : Nat → Int) (C : Nat → List pV → pH → pO → pH → Prop) (d : Nat) (M : pM) (E : pO → pH → Prop) (X : List (Option pV) → List pV → Nat → pH → Prop) : Prop :=
  ∀ ls st pc h, pm_step pm_tx L xs C d M E X ls st pc h → X ls st pc h
/-- no slot of two words begins here -/
def pm_nc : Option pV → Prop
  | some v => pm_cat2 v = false
  | none => True
noncomputable def ck {ρ : Type} (p : Prop) (k : Option ρ) : Option ρ := @ite _ p (Classical.propDecidable p) k none
def bs {σ ρ : Type} (s : σ) (k : σ → Option ρ) : Option ρ := k s
theorem ck_some {ρ : Type} {p : Prop} {k : Option ρ} {q : ρ} (h : ck p k = some q) : p ∧ k = some q := by
  unfold ck at h
  by_cases hp : p
  · rw [if_pos hp] at h; exact ⟨hp, h⟩
  · rw [if_neg hp] at h; cases h
theorem ck_pos {ρ : Type} {p : Prop} {k : Option ρ} (h : p) : ck p k = k := if_pos h
theorem bs_some {σ ρ : Type} {s : σ} {k : σ → Option ρ} {q : ρ} (h : bs s k = some q) : ∃ s', s' = s ∧ k s' = some q := ⟨s, rfl, h⟩
theorem bd_some {σ ρ : Type} {x : Option σ} {k : σ → Option ρ} {q : ρ} (h : x.bind k = some q) : ∃ a, x = some a ∧ k a = some q := Option.bind_eq_some_iff.mp h
theorem it_pos {ρ : Type} {p : Prop} {dp : Decidable p} {a b : Option ρ} {q : ρ} (h : @ite _ p dp a b = some q) (hp : p) : a = some q := (if_pos hp).symm.trans h
theorem it_neg {ρ : Type} {p : Prop} {dp : Decidable p} {a b : Option ρ} {q : ρ} (h : @ite _ p dp a b = some q) (hp : ¬ p) : b = some q := (if_neg hp).symm.trans h
def eI (q : Int × pS) : pO → pH → Prop := fun o h => o = .inl (some (vI q.1)) ∧ h = pW q.2
def eL (q : Int × pS) : pO → pH → Prop := fun o h => o = .inl (some (vL q.1)) ∧ h = pW q.2
def eF (q : UInt32 × pS) : pO → pH → Prop := fun o h => o = .inl (some (vF q.1)) ∧ h = pW q.2
def eU (q : pS) : pO → pH → Prop := fun o h => o = .inl none ∧ h = pW q
def oTI : Int ⊕ Nat → pO
  | .inl x => .inl (some (vI x))
  | .inr e => .inr e
def oTF : UInt32 ⊕ Nat → pO
  | .inl x => .inl (some (vF x))
  | .inr e => .inr e
def eTI (q : (Int ⊕ Nat) × pS) : pO → pH → Prop := fun o h => o = oTI q.1 ∧ h = pW q.2
def eTF (q : (UInt32 ⊕ Nat) × pS) : pO → pH → Prop := fun o h => o = oTF q.1 ∧ h = pW q.2
theorem eI_ok {x : Int} {s : pS} {q : Int × pS} (h : some (x, s) = some q) : eI q (.inl (some (vI x))) (pW s) := by cases h; exact ⟨rfl, rfl⟩
theorem eL_ok {x : Int} {s : pS} {q : Int × pS} (h : some (x, s) = some q) : eL q (.inl (some (vL x))) (pW s) := by cases h; exact ⟨rfl, rfl⟩
theorem eF_ok {x : UInt32} {s : pS} {q : UInt32 × pS} (h : some (x, s) = some q) : eF q (.inl (some (vF x))) (pW s) := by cases h; exact ⟨rfl, rfl⟩
theorem eU_ok {s q : pS} (h : some s = some q) : eU q (.inl none) (pW s) := by cases h; exact ⟨rfl, rfl⟩
theorem eTI_ok {x : Int} {s : pS} {q : (Int ⊕ Nat) × pS} (h : some (Sum.inl x, s) = some q) : eTI q (.inl (some (vI x))) (pW s) := by cases h; exact ⟨rfl, rfl⟩
theorem eTF_ok {x : UInt32} {s : pS} {q : (UInt32 ⊕ Nat) × pS} (h : some (Sum.inl x, s) = some q) : eTF q (.inl (some (vF x))) (pW s) := by cases h; exact ⟨rfl, rfl⟩
theorem eTI_no {e : Nat} {s : pS} {q : (Int ⊕ Nat) × pS} (h : some (Sum.inr e, wN s) = some q) : eTI q (.inr e) ((pW s).1, (pW s).2 + 1) := by cases h; exact ⟨rfl, rfl⟩
theorem eTF_no {e : Nat} {s : pS} {q : (UInt32 ⊕ Nat) × pS} (h : some (Sum.inr e, wN s) = some q) : eTF q (.inr e) ((pW s).1, (pW s).2 + 1) := by cases h; exact ⟨rfl, rfl⟩
theorem st1_nc {ls ls2 : List (Option pV)} {i : Nat} {d : Option pV} {v : pV} (h1 : ls[i]? = some d) (hd : pm_nc d) (h2 : ls.set (i + 1) (some v) = ls2) : pm_st1 ls (i + 1) v = ls2 := by
  rw [← h2]
  unfold pm_st1 pm_clr
  show (match ls[i]? with | some (some v) => if pm_cat2 v then ls.set i none else ls | _ => ls).set (i + 1) (some v) = _
  rw [h1]
  match d, hd with
  | none, _ => rfl
  | some w, hd =>
    have hd' : pm_cat2 w = false := hd
    show (if pm_cat2 w = true then ls.set i none else ls).set (i + 1) (some v) = _
    rw [hd']
    rfl
theorem st2_nc {ls ls2 : List (Option pV)} {i : Nat} {d : Option pV} {v : pV} (h1 : ls[i]? = some d) (hd : pm_nc d) (h2 : (ls.set (i + 1) (some v)).set (i + 2) none = ls2) : pm_st2 ls (i + 1) v = ls2 := by
  rw [← h2]
  show (pm_st1 ls (i + 1) v).set (i + 2) none = _
  rw [st1_nc h1 hd rfl]
theorem pm_fitI {x : Int} {a b : Nat} (h : pm_ty a b = .int) : pm_fit (pm_ty a b) (vI x) := by rw [h]; exact ⟨x, rfl⟩
theorem pm_fitZ {x : Int} {a b : Nat} (h : pm_ty a b = .boolean) (hx : x = 0 ∨ x = 1) : pm_fit (pm_ty a b) (vI x) := by
  rw [h]
  rcases hx with rfl | rfl
  · exact Or.inl rfl
  · exact Or.inr rfl
theorem pm_fitF {x : UInt32} {a b : Nat} (h : pm_ty a b = .float) : pm_fit (pm_ty a b) (vF x) := by rw [h]; exact ⟨x, rfl⟩
theorem fv_int {a b i : Nat} {s : pS} (h : pm_ty a b = .int ∨ pm_ty a b = .boolean) : fv a b i s = vI (sI s (100 * a + b) i) := by
  unfold fv
  rcases h with h | h <;> rw [h]
theorem fv_float {a b i : Nat} {s : pS} (h : pm_ty a b = .float) : fv a b i s = vF (sF s (100 * a + b) i) := by
  unfold fv
  rw [h]
theorem arr_int {f i n : Nat} {s : pS} (h : aty f = (0, n)) : arr f i s = .inl (.int, n, .inl (sA s f i)) := by unfold arr; simp only [h]
theorem arr_bool {f i n : Nat} {s : pS} (h : aty f = (1, n)) : arr f i s = .inl (.boolean, n, .inl (sA s f i)) := by unfold arr; simp only [h]
theorem arr_char {f i n : Nat} {s : pS} (h : aty f = (2, n)) : arr f i s = .inl (.char, n, .inl (sA s f i)) := by unfold arr; simp only [h]
theorem arr_float {f i n : Nat} {s : pS} (h : aty f = (3, n)) : arr f i s = .inl (.float, n, .inr (.inr (.inl (sB s f i)))) := by unfold arr; simp only [h]
theorem arr_long {f i n : Nat} {s : pS} (h : aty f = (4, n)) : arr f i s = .inl (.long, n, .inr (.inl (sA s f i))) := by unfold arr; simp only [h]
theorem arr_double {f i n : Nat} {s : pS} (h : aty f = (5, n)) : arr f i s = .inl (.double, n, .inr (.inr (.inr (.inl (sD s))))) := by unfold arr; simp only [h]
theorem arr_len {f i : Nat} {s : pS} : ∃ ty z, arr f i s = .inl (ty, (aty f).2, z) := by
  unfold arr
  split <;> exact ⟨_, _, rfl⟩
section
variable {L : Nat} {xs : Nat → Int} {C : Nat → List pV → pH → pO → pH → Prop} {d : Nat} {M : pM} {E : pO → pH → Prop} {X : List (Option pV) → List pV → Nat → pH → Prop} {pc p2 q0 ln a b c : Nat} {ls ls2 : List (Option pV)} {r : List pV} {h : pH}
theorem r_iconst {n : Int} (hX : pm_clo L xs C d M E X) (hat : pm_at M.code pc = some (q0, .iconst n, ln, a, b, c)) (hp : pc + 1 = p2) (hn : (decide (-2147483648 ≤ n) && decide (n ≤ 2147483647)) = true) (k : X ls (vI n :: r) p2 h) : X ls r pc h := by
  subst hp
  refine hX _ _ _ _ ⟨_, hat, ?_⟩
  exact (show inR n ∧ X ls (vI n :: r) (pc + 1) h from ⟨by simpa [inR] using hn, k⟩)
theorem r_bipush {n : Int} (hX : pm_clo L xs C d M E X) (hat : pm_at M.code pc = some (q0, .bipush n, ln, a, b, c)) (hp : pc + 2 = p2) (hn : (decide (-128 ≤ n) && decide (n ≤ 127)) = true) (k : X ls (vI n :: r) p2 h) : X ls r pc h := by
  subst hp
  refine hX _ _ _ _ ⟨_, hat, ?_⟩
  exact (show (-128 ≤ n ∧ n ≤ 127) ∧ X ls (vI n :: r) (pc + 2) h from ⟨by simpa using hn, k⟩)
theorem r_sipush {n : Int} (hX : pm_clo L xs C d M E X) (hat : pm_at M.code pc = some (q0, .sipush n, ln, a, b, c)) (hp : pc + 3 = p2) (hn : (decide (-32768 ≤ n) && decide (n ≤ 32767)) = true) (k : X ls (vI n :: r) p2 h) : X ls r pc h := by
  subst hp
  refine hX _ _ _ _ ⟨_, hat, ?_⟩
  exact (show (-32768 ≤ n ∧ n ≤ 32767) ∧ X ls (vI n :: r) (pc + 3) h from ⟨by simpa using hn, k⟩)
theorem r_lconst {n : Fin 2} {x : Int} (hX : pm_clo L xs C d M E X) (hat : pm_at M.code pc = some (q0, .lconst n, ln, a, b, c)) (hp : pc + 1 = p2) (hv : (n.val : Int) = x) (k : X ls (vL x :: r) p2 h) : X ls r pc h := by
  subst hp
  refine hX _ _ _ _ ⟨_, hat, ?_⟩
  exact (show X ls (vL (n.val : Int) :: r) (pc + 1) h from hv ▸ k)
theorem r_fconst0  (hX : pm_clo L xs C d M E X) (hat : pm_at M.code pc = some (q0, .fconst 0, ln, a, b, c)) (hp : pc + 1 = p2)  (k : X ls (vF FP.fconst0 :: r) p2 h) : X ls r pc h := by
  subst hp
  refine hX _ _ _ _ ⟨_, hat, ?_⟩
  exact (show (((0 : Fin 3) = 0 → X ls (vF FP.fconst0 :: r) (pc + 1) h) ∧ ((0 : Fin 3) = 1 → X ls (vF FP.fconst1 :: r) (pc + 1) h) ∧ ((0 : Fin 3) = 2 → X ls (vF FP.fconst2 :: r) (pc + 1) h)) from ⟨fun _ => k, fun hq => absurd hq (by decide), fun hq => absurd hq (by decide)⟩)
theorem r_fconst1  (hX : pm_clo L xs C d M E X) (hat : pm_at M.code pc = some (q0, .fconst 1, ln, a, b, c)) (hp : pc + 1 = p2)  (k : X ls (vF FP.fconst1 :: r) p2 h) : X ls r pc h := by
  subst hp
  refine hX _ _ _ _ ⟨_, hat, ?_⟩
  exact (show (((1 : Fin 3) = 0 → X ls (vF FP.fconst0 :: r) (pc + 1) h) ∧ ((1 : Fin 3) = 1 → X ls (vF FP.fconst1 :: r) (pc + 1) h) ∧ ((1 : Fin 3) = 2 → X ls (vF FP.fconst2 :: r) (pc + 1) h)) from ⟨fun hq => absurd hq (by decide), fun _ => k, fun hq => absurd hq (by decide)⟩)
theorem r_fconst2  (hX : pm_clo L xs C d M E X) (hat : pm_at M.code pc = some (q0, .fconst 2, ln, a, b, c)) (hp : pc + 1 = p2)  (k : X ls (vF FP.fconst2 :: r) p2 h) : X ls r pc h := by
  subst hp
  refine hX _ _ _ _ ⟨_, hat, ?_⟩
  exact (show (((2 : Fin 3) = 0 → X ls (vF FP.fconst0 :: r) (pc + 1) h) ∧ ((2 : Fin 3) = 1 → X ls (vF FP.fconst1 :: r) (pc + 1) h) ∧ ((2 : Fin 3) = 2 → X ls (vF FP.fconst2 :: r) (pc + 1) h)) from ⟨fun hq => absurd hq (by decide), fun hq => absurd hq (by decide), fun _ => k⟩)
theorem r_ldcF {i : Nat} {x : UInt32} (hX : pm_clo L xs C d M E X) (hat : pm_at M.code pc = some (q0, .ldc i, ln, a, b, 0)) (hp : pc + 2 = p2) (ha : Nat.ble (a + 1) 4294967296 = true) (hv : UInt32.ofNat a = x) (k : X ls (vF x :: r) p2 h) : X ls r pc h := by
  subst hp
  refine hX _ _ _ _ ⟨_, hat, ?_⟩
  exact (show (0 = 0 → a < 4294967296 ∧ X ls (vF (UInt32.ofNat a) :: r) (pc + 2) h) ∧ (0 = 1 → X ls (vX (3 + a) :: r) (pc + 2) h) ∧ 0 < 2 from ⟨fun _ => ⟨Nat.le_of_ble_eq_true ha, hv ▸ k⟩, fun hq => absurd hq (by decide), by decide⟩)
theorem r_ldcS {i : Nat} (hX : pm_clo L xs C d M E X) (hat : pm_at M.code pc = some (q0, .ldc i, ln, a, b, 1)) (hp : pc + 2 = p2)  (k : X ls (vX (3 + a) :: r) p2 h) : X ls r pc h := by
  subst hp
  refine hX _ _ _ _ ⟨_, hat, ?_⟩
  exact (show (1 = 0 → a < 4294967296 ∧ X ls (vF (UInt32.ofNat a) :: r) (pc + 2) h) ∧ (1 = 1 → X ls (vX (3 + a) :: r) (pc + 2) h) ∧ 1 < 2 from ⟨fun hq => absurd hq (by decide), fun _ => k, by decide⟩)
theorem r_ldc2 {i : Nat} {x : Int} (hX : pm_clo L xs C d M E X) (hat : pm_at M.code pc = some (q0, .ldc2_w i, ln, a, b, c)) (hp : pc + 3 = p2) (hn : (decide (-9223372036854775808 ≤ (a : Int) - b) && decide ((a : Int) - b ≤ 9223372036854775807)) = true) (hv : (a : Int) - b = x) (k : X ls (vL x :: r) p2 h) : X ls r pc h := by
  subst hp
  refine hX _ _ _ _ ⟨_, hat, ?_⟩
  exact (show inL ((a : Int) - b) ∧ X ls (vL ((a : Int) - b) :: r) (pc + 3) h from ⟨by simpa [inL] using hn, hv ▸ k⟩)
theorem r_iload {i : Nat} {x : Int} (hX : pm_clo L xs C d M E X) (hat : pm_at M.code pc = some (q0, .iload i, ln, a, b, c)) (hp : pc + 2 = p2) (hl : ls[i]? = some (some (vI x))) (k : X ls (vI x :: r) p2 h) : X ls r pc h := by
  subst hp
  refine hX _ _ _ _ ⟨_, hat, ?_⟩
  exact (show (∃ x, ls[i]? = some (some (vI x)) ∧ X ls (vI x :: r) (pc + 2) h) from ⟨x, hl, k⟩)
theorem r_istore {i : Nat} {x : Int} (hX : pm_clo L xs C d M E X) (hat : pm_at M.code pc = some (q0, .istore i, ln, a, b, c)) (hp : pc + 2 = p2) (hn : Nat.ble (i + 1) ls.length = true) (hs : pm_st1 ls i (vI x) = ls2) (k : X ls2 r p2 h) : X ls (vI x :: r) pc h := by
  subst hp
  refine hX _ _ _ _ ⟨_, hat, ?_⟩
  exact (show (∃ x' r', vI x :: r = vI x' :: r' ∧ i < ls.length ∧ X (pm_st1 ls i (vI x')) r' (pc + 2) h) from ⟨x, r, rfl, Nat.le_of_ble_eq_true hn, hs ▸ k⟩)
theorem r_istoreE {i : Nat} {x x2 : Int} (hX : pm_clo L xs C d M E X) (hat : pm_at M.code pc = some (q0, .istore i, ln, a, b, c)) (hp : pc + 2 = p2) (he : x2 = x) (hn : Nat.ble (i + 1) ls.length = true) (hs : pm_st1 ls i (vI x2) = ls2) (k : X ls2 r p2 h) : X ls (vI x :: r) pc h := by
  subst hp
  subst he
  refine hX _ _ _ _ ⟨_, hat, ?_⟩
  exact (show (∃ x' r', vI x2 :: r = vI x' :: r' ∧ i < ls.length ∧ X (pm_st1 ls i (vI x')) r' (pc + 2) h) from ⟨x2, r, rfl, Nat.le_of_ble_eq_true hn, hs ▸ k⟩)
theorem r_iload_n {i : Fin 4} {x : Int} (hX : pm_clo L xs C d M E X) (hat : pm_at M.code pc = some (q0, .iload_n i, ln, a, b, c)) (hp : pc + 1 = p2) (hl : ls[i.val]? = some (some (vI x))) (k : X ls (vI x :: r) p2 h) : X ls r pc h := by
  subst hp
  refine hX _ _ _ _ ⟨_, hat, ?_⟩
  exact (show (∃ x, ls[i.val]? = some (some (vI x)) ∧ X ls (vI x :: r) (pc + 1) h) from ⟨x, hl, k⟩)
theorem r_istore_n {i : Fin 4} {x : Int} (hX : pm_clo L xs C d M E X) (hat : pm_at M.code pc = some (q0, .istore_n i, ln, a, b, c)) (hp : pc + 1 = p2) (hn : Nat.ble (i.val + 1) ls.length = true) (hs : pm_st1 ls i.val (vI x) = ls2) (k : X ls2 r p2 h) : X ls (vI x :: r) pc h := by
  subst hp
  refine hX _ _ _ _ ⟨_, hat, ?_⟩
  exact (show (∃ x' r', vI x :: r = vI x' :: r' ∧ i.val < ls.length ∧ X (pm_st1 ls i.val (vI x')) r' (pc + 1) h) from ⟨x, r, rfl, Nat.le_of_ble_eq_true hn, hs ▸ k⟩)
theorem r_istoreE_n {i : Fin 4} {x x2 : Int} (hX : pm_clo L xs C d M E X) (hat : pm_at M.code pc = some (q0, .istore_n i, ln, a, b, c)) (hp : pc + 1 = p2) (he : x2 = x) (hn : Nat.ble (i.val + 1) ls.length = true) (hs : pm_st1 ls i.val (vI x2) = ls2) (k : X ls2 r p2 h) : X ls (vI x :: r) pc h := by
  subst hp
  subst he
  refine hX _ _ _ _ ⟨_, hat, ?_⟩
  exact (show (∃ x' r', vI x2 :: r = vI x' :: r' ∧ i.val < ls.length ∧ X (pm_st1 ls i.val (vI x')) r' (pc + 1) h) from ⟨x2, r, rfl, Nat.le_of_ble_eq_true hn, hs ▸ k⟩)
theorem r_fload {i : Nat} {x : UInt32} (hX : pm_clo L xs C d M E X) (hat : pm_at M.code pc = some (q0, .fload i, ln, a, b, c)) (hp : pc + 2 = p2) (hl : ls[i]? = some (some (vF x))) (k : X ls (vF x :: r) p2 h) : X ls r pc h := by
  subst hp
  refine hX _ _ _ _ ⟨_, hat, ?_⟩
  exact (show (∃ x, ls[i]? = some (some (vF x)) ∧ X ls (vF x :: r) (pc + 2) h) from ⟨x, hl, k⟩)
theorem r_fstore {i : Nat} {x : UInt32} (hX : pm_clo L xs C d M E X) (hat : pm_at M.code pc = some (q0, .fstore i, ln, a, b, c)) (hp : pc + 2 = p2) (hn : Nat.ble (i + 1) ls.length = true) (hs : pm_st1 ls i (vF x) = ls2) (k : X ls2 r p2 h) : X ls (vF x :: r) pc h := by
  subst hp
  refine hX _ _ _ _ ⟨_, hat, ?_⟩
  exact (show (∃ x' r', vF x :: r = vF x' :: r' ∧ i < ls.length ∧ X (pm_st1 ls i (vF x')) r' (pc + 2) h) from ⟨x, r, rfl, Nat.le_of_ble_eq_true hn, hs ▸ k⟩)
theorem r_fstoreE {i : Nat} {x x2 : UInt32} (hX : pm_clo L xs C d M E X) (hat : pm_at M.code pc = some (q0, .fstore i, ln, a, b, c)) (hp : pc + 2 = p2) (he : x2 = x) (hn : Nat.ble (i + 1) ls.length = true) (hs : pm_st1 ls i (vF x2) = ls2) (k : X ls2 r p2 h) : X ls (vF x :: r) pc h := by
  subst hp
  subst he
  refine hX _ _ _ _ ⟨_, hat, ?_⟩
  exact (show (∃ x' r', vF x2 :: r = vF x' :: r' ∧ i < ls.length ∧ X (pm_st1 ls i (vF x')) r' (pc + 2) h) from ⟨x2, r, rfl, Nat.le_of_ble_eq_true hn, hs ▸ k⟩)
theorem r_fload_n {i : Fin 4} {x : UInt32} (hX : pm_clo L xs C d M E X) (hat : pm_at M.code pc = some (q0, .fload_n i, ln, a, b, c)) (hp : pc + 1 = p2) (hl : ls[i.val]? = some (some (vF x))) (k : X ls (vF x :: r) p2 h) : X ls r pc h := by
  subst hp
  refine hX _ _ _ _ ⟨_, hat, ?_⟩
  exact (show (∃ x, ls[i.val]? = some (some (vF x)) ∧ X ls (vF x :: r) (pc + 1) h) from ⟨x, hl, k⟩)
theorem r_fstore_n {i : Fin 4} {x : UInt32} (hX : pm_clo L xs C d M E X) (hat : pm_at M.code pc = some (q0, .fstore_n i, ln, a, b, c)) (hp : pc + 1 = p2) (hn : Nat.ble (i.val + 1) ls.length = true) (hs : pm_st1 ls i.val (vF x) = ls2) (k : X ls2 r p2 h) : X ls (vF x :: r) pc h := by
  subst hp
  refine hX _ _ _ _ ⟨_, hat, ?_⟩
  exact (show (∃ x' r', vF x :: r = vF x' :: r' ∧ i.val < ls.length ∧ X (pm_st1 ls i.val (vF x')) r' (pc + 1) h) from ⟨x, r, rfl, Nat.le_of_ble_eq_true hn, hs ▸ k⟩)
theorem r_fstoreE_n {i : Fin 4} {x x2 : UInt32} (hX : pm_clo L xs C d M E X) (hat : pm_at M.code pc = some (q0, .fstore_n i, ln, a, b, c)) (hp : pc + 1 = p2) (he : x2 = x) (hn : Nat.ble (i.val + 1) ls.length = true) (hs : pm_st1 ls i.val (vF x2) = ls2) (k : X ls2 r p2 h) : X ls (vF x :: r) pc h := by
  subst hp
  subst he
  refine hX _ _ _ _ ⟨_, hat, ?_⟩
  exact (show (∃ x' r', vF x2 :: r = vF x' :: r' ∧ i.val < ls.length ∧ X (pm_st1 ls i.val (vF x')) r' (pc + 1) h) from ⟨x2, r, rfl, Nat.le_of_ble_eq_true hn, hs ▸ k⟩)
theorem r_lload {i : Nat} {x : Int} (hX : pm_clo L xs C d M E X) (hat : pm_at M.code pc = some (q0, .lload i, ln, a, b, c)) (hp : pc + 2 = p2) (hl : ls[i]? = some (some (vL x))) (k : X ls (vL x :: r) p2 h) : X ls r pc h := by
  subst hp
  refine hX _ _ _ _ ⟨_, hat, ?_⟩
  exact (show (∃ x, ls[i]? = some (some (vL x)) ∧ X ls (vL x :: r) (pc + 2) h) from ⟨x, hl, k⟩)
theorem r_lstore {i : Nat} {x : Int} (hX : pm_clo L xs C d M E X) (hat : pm_at M.code pc = some (q0, .lstore i, ln, a, b, c)) (hp : pc + 2 = p2) (hn : Nat.ble (i + 2) ls.length = true) (hs : pm_st2 ls i (vL x) = ls2) (k : X ls2 r p2 h) : X ls (vL x :: r) pc h := by
  subst hp
  refine hX _ _ _ _ ⟨_, hat, ?_⟩
  exact (show (∃ x' r', vL x :: r = vL x' :: r' ∧ i + 1 < ls.length ∧ X (pm_st2 ls i (vL x')) r' (pc + 2) h) from ⟨x, r, rfl, Nat.le_of_ble_eq_true hn, hs ▸ k⟩)
theorem r_lstoreE {i : Nat} {x x2 : Int} (hX : pm_clo L xs C d M E X) (hat : pm_at M.code pc = some (q0, .lstore i, ln, a, b, c)) (hp : pc + 2 = p2) (he : x2 = x) (hn : Nat.ble (i + 2) ls.length = true) (hs : pm_st2 ls i (vL x2) = ls2) (k : X ls2 r p2 h) : X ls (vL x :: r) pc h := by
  subst hp
  subst he
  refine hX _ _ _ _ ⟨_, hat, ?_⟩
  exact (show (∃ x' r', vL x2 :: r = vL x' :: r' ∧ i + 1 < ls.length ∧ X (pm_st2 ls i (vL x')) r' (pc + 2) h) from ⟨x2, r, rfl, Nat.le_of_ble_eq_true hn, hs ▸ k⟩)
theorem r_lload_n {i : Fin 4} {x : Int} (hX : pm_clo L xs C d M E X) (hat : pm_at M.code pc = some (q0, .lload_n i, ln, a, b, c)) (hp : pc + 1 = p2) (hl : ls[i.val]? = some (some (vL x))) (k : X ls (vL x :: r) p2 h) : X ls r pc h := by
  subst hp
  refine hX _ _ _ _ ⟨_, hat, ?_⟩
  exact (show (∃ x, ls[i.val]? = some (some (vL x)) ∧ X ls (vL x :: r) (pc + 1) h) from ⟨x, hl, k⟩)
theorem r_lstore_n {i : Fin 4} {x : Int} (hX : pm_clo L xs C d M E X) (hat : pm_at M.code pc = some (q0, .lstore_n i, ln, a, b, c)) (hp : pc + 1 = p2) (hn : Nat.ble (i.val + 2) ls.length = true) (hs : pm_st2 ls i.val (vL x) = ls2) (k : X ls2 r p2 h) : X ls (vL x :: r) pc h := by
  subst hp
  refine hX _ _ _ _ ⟨_, hat, ?_⟩
  exact (show (∃ x' r', vL x :: r = vL x' :: r' ∧ i.val + 1 < ls.length ∧ X (pm_st2 ls i.val (vL x')) r' (pc + 1) h) from ⟨x, r, rfl, Nat.le_of_ble_eq_true hn, hs ▸ k⟩)
theorem r_lstoreE_n {i : Fin 4} {x x2 : Int} (hX : pm_clo L xs C d M E X) (hat : pm_at M.code pc = some (q0, .lstore_n i, ln, a, b, c)) (hp : pc + 1 = p2) (he : x2 = x) (hn : Nat.ble (i.val + 2) ls.length = true) (hs : pm_st2 ls i.val (vL x2) = ls2) (k : X ls2 r p2 h) : X ls (vL x :: r) pc h := by
  subst hp
  subst he
  refine hX _ _ _ _ ⟨_, hat, ?_⟩
  exact (show (∃ x' r', vL x2 :: r = vL x' :: r' ∧ i.val + 1 < ls.length ∧ X (pm_st2 ls i.val (vL x')) r' (pc + 1) h) from ⟨x2, r, rfl, Nat.le_of_ble_eq_true hn, hs ▸ k⟩)
theorem r_dload {i : Nat} {x : UInt64} (hX : pm_clo L xs C d M E X) (hat : pm_at M.code pc = some (q0, .dload i, ln, a, b, c)) (hp : pc + 2 = p2) (hl : ls[i]? = some (some (vD x))) (k : X ls (vD x :: r) p2 h) : X ls r pc h := by
  subst hp
  refine hX _ _ _ _ ⟨_, hat, ?_⟩
  exact (show (∃ x, ls[i]? = some (some (vD x)) ∧ X ls (vD x :: r) (pc + 2) h) from ⟨x, hl, k⟩)
theorem r_dstore {i : Nat} {x : UInt64} (hX : pm_clo L xs C d M E X) (hat : pm_at M.code pc = some (q0, .dstore i, ln, a, b, c)) (hp : pc + 2 = p2) (hn : Nat.ble (i + 2) ls.length = true) (hs : pm_st2 ls i (vD x) = ls2) (k : X ls2 r p2 h) : X ls (vD x :: r) pc h := by
  subst hp
  refine hX _ _ _ _ ⟨_, hat, ?_⟩
  exact (show (∃ x' r', vD x :: r = vD x' :: r' ∧ i + 1 < ls.length ∧ X (pm_st2 ls i (vD x')) r' (pc + 2) h) from ⟨x, r, rfl, Nat.le_of_ble_eq_true hn, hs ▸ k⟩)
theorem r_dstoreE {i : Nat} {x x2 : UInt64} (hX : pm_clo L xs C d M E X) (hat : pm_at M.code pc = some (q0, .dstore i, ln, a, b, c)) (hp : pc + 2 = p2) (he : x2 = x) (hn : Nat.ble (i + 2) ls.length = true) (hs : pm_st2 ls i (vD x2) = ls2) (k : X ls2 r p2 h) : X ls (vD x :: r) pc h := by
  subst hp
  subst he
  refine hX _ _ _ _ ⟨_, hat, ?_⟩
  exact (show (∃ x' r', vD x2 :: r = vD x' :: r' ∧ i + 1 < ls.length ∧ X (pm_st2 ls i (vD x')) r' (pc + 2) h) from ⟨x2, r, rfl, Nat.le_of_ble_eq_true hn, hs ▸ k⟩)
theorem r_dload_n {i : Fin 4} {x : UInt64} (hX : pm_clo L xs C d M E X) (hat : pm_at M.code pc = some (q0, .dload_n i, ln, a, b, c)) (hp : pc + 1 = p2) (hl : ls[i.val]? = some (some (vD x))) (k : X ls (vD x :: r) p2 h) : X ls r pc h := by
  subst hp
  refine hX _ _ _ _ ⟨_, hat, ?_⟩
  exact (show (∃ x, ls[i.val]? = some (some (vD x)) ∧ X ls (vD x :: r) (pc + 1) h) from ⟨x, hl, k⟩)
theorem r_dstore_n {i : Fin 4} {x : UInt64} (hX : pm_clo L xs C d M E X) (hat : pm_at M.code pc = some (q0, .dstore_n i, ln, a, b, c)) (hp : pc + 1 = p2) (hn : Nat.ble (i.val + 2) ls.length = true) (hs : pm_st2 ls i.val (vD x) = ls2) (k : X ls2 r p2 h) : X ls (vD x :: r) pc h := by
  subst hp
  refine hX _ _ _ _ ⟨_, hat, ?_⟩
  exact (show (∃ x' r', vD x :: r = vD x' :: r' ∧ i.val + 1 < ls.length ∧ X (pm_st2 ls i.val (vD x')) r' (pc + 1) h) from ⟨x, r, rfl, Nat.le_of_ble_eq_true hn, hs ▸ k⟩)
theorem r_dstoreE_n {i : Fin 4} {x x2 : UInt64} (hX : pm_clo L xs C d M E X) (hat : pm_at M.code pc = some (q0, .dstore_n i, ln, a, b, c)) (hp : pc + 1 = p2) (he : x2 = x) (hn : Nat.ble (i.val + 2) ls.length = true) (hs : pm_st2 ls i.val (vD x2) = ls2) (k : X ls2 r p2 h) : X ls (vD x :: r) pc h := by
  subst hp
  subst he
  refine hX _ _ _ _ ⟨_, hat, ?_⟩
  exact (show (∃ x' r', vD x2 :: r = vD x' :: r' ∧ i.val + 1 < ls.length ∧ X (pm_st2 ls i.val (vD x')) r' (pc + 1) h) from ⟨x2, r, rfl, Nat.le_of_ble_eq_true hn, hs ▸ k⟩)
theorem r_aload {i : Nat} {v : pV} (hX : pm_clo L xs C d M E X) (hat : pm_at M.code pc = some (q0, .aload i, ln, a, b, c)) (hp : pc + 2 = p2) (hl : ls[i]? = some (some v)) (hv : ∃ k, v = vR k ∨ v = vX (k + 1)) (k : X ls (v :: r) p2 h) : X ls r pc h := by
  subst hp
  refine hX _ _ _ _ ⟨_, hat, ?_⟩
  exact (show (∃ v, ls[i]? = some (some v) ∧ (∃ k, v = vR k ∨ v = vX (k + 1)) ∧ X ls (v :: r) (pc + 2) h) from ⟨v, hl, hv, k⟩)
theorem r_astore {i : Nat} {v : pV} (hX : pm_clo L xs C d M E X) (hat : pm_at M.code pc = some (q0, .astore i, ln, a, b, c)) (hp : pc + 2 = p2) (hv : ∃ k, v = vR k ∨ v = vX (k + 1)) (hn : Nat.ble (i + 1) ls.length = true) (hs : pm_st1 ls i v = ls2) (k : X ls2 r p2 h) : X ls (v :: r) pc h := by
  subst hp
  refine hX _ _ _ _ ⟨_, hat, ?_⟩
  exact (show (∃ v' r', v :: r = v' :: r' ∧ (∃ k, v' = vR k ∨ v' = vX (k + 1)) ∧ i < ls.length ∧ X (pm_st1 ls i v') r' (pc + 2) h) from ⟨v, r, rfl, hv, Nat.le_of_ble_eq_true hn, hs ▸ k⟩)
theorem r_aload_n {i : Fin 4} {v : pV} (hX : pm_clo L xs C d M E X) (hat : pm_at M.code pc = some (q0, .aload_n i, ln, a, b, c)) (hp : pc + 1 = p2) (hl : ls[i.val]? = some (some v)) (hv : ∃ k, v = vR k ∨ v = vX (k + 1)) (k : X ls (v :: r) p2 h) : X ls r pc h := by
  subst hp
  refine hX _ _ _ _ ⟨_, hat, ?_⟩
  exact (show (∃ v, ls[i.val]? = some (some v) ∧ (∃ k, v = vR k ∨ v = vX (k + 1)) ∧ X ls (v :: r) (pc + 1) h) from ⟨v, hl, hv, k⟩)
theorem r_astore_n {i : Fin 4} {v : pV} (hX : pm_clo L xs C d M E X) (hat : pm_at M.code pc = some (q0, .astore_n i, ln, a, b, c)) (hp : pc + 1 = p2) (hv : ∃ k, v = vR k ∨ v = vX (k + 1)) (hn : Nat.ble (i.val + 1) ls.length = true) (hs : pm_st1 ls i.val v = ls2) (k : X ls2 r p2 h) : X ls (v :: r) pc h := by
  subst hp
  refine hX _ _ _ _ ⟨_, hat, ?_⟩
  exact (show (∃ v' r', v :: r = v' :: r' ∧ (∃ k, v' = vR k ∨ v' = vX (k + 1)) ∧ i.val < ls.length ∧ X (pm_st1 ls i.val v') r' (pc + 1) h) from ⟨v, r, rfl, hv, Nat.le_of_ble_eq_true hn, hs ▸ k⟩)
theorem r_iinc {i : Nat} {x n : Int} (hX : pm_clo L xs C d M E X) (hat : pm_at M.code pc = some (q0, .iinc i n, ln, a, b, c)) (hp : pc + 3 = p2) (hl : ls[i]? = some (some (vI x))) (hn : (decide (-2147483648 ≤ n) && decide (n ≤ 2147483647)) = true) (hr : inR (x + n)) (hs : pm_st1 ls i (vI (x + n)) = ls2) (k : X ls2 r p2 h) : X ls r pc h := by
  subst hp
  refine hX _ _ _ _ ⟨_, hat, ?_⟩
  exact (show (∃ x, ls[i]? = some (some (vI x)) ∧ inR n ∧ inR (x + n) ∧ X (pm_st1 ls i (vI (x + n))) r (pc + 3) h) from ⟨x, hl, by simpa [inR] using hn, hr, hs ▸ k⟩)
theorem r_dup {v : pV} (hX : pm_clo L xs C d M E X) (hat : pm_at M.code pc = some (q0, .dup, ln, a, b, c)) (hp : pc + 1 = p2) (hc : pm_cat2 v = false) (k : X ls (v :: v :: r) p2 h) : X ls (v :: r) pc h := by
  subst hp
  refine hX _ _ _ _ ⟨_, hat, ?_⟩
  exact (show (∃ v' r', v :: r = v' :: r' ∧ pm_cat2 v' = false ∧ X ls (v' :: v' :: r') (pc + 1) h) from ⟨v, r, rfl, hc, k⟩)
theorem r_iadd {x y : Int} (hX : pm_clo L xs C d M E X) (hat : pm_at M.code pc = some (q0, .iadd, ln, a, b, c)) (hp : pc + 1 = p2) (hr : inR (x + y)) (k : X ls (vI (x + y) :: r) p2 h) : X ls (vI y :: vI x :: r) pc h := by
  subst hp
  refine hX _ _ _ _ ⟨_, hat, ?_⟩
  exact (show (∃ x' y' r', vI y :: vI x :: r = vI y' :: vI x' :: r' ∧ inR (x' + y') ∧ X ls (vI (x' + y') :: r') (pc + 1) h) from ⟨x, y, r, rfl, hr, k⟩)
theorem r_isub {x y : Int} (hX : pm_clo L xs C d M E X) (hat : pm_at M.code pc = some (q0, .isub, ln, a, b, c)) (hp : pc + 1 = p2) (hr : inR (x - y)) (k : X ls (vI (x - y) :: r) p2 h) : X ls (vI y :: vI x :: r) pc h := by
  subst hp
  refine hX _ _ _ _ ⟨_, hat, ?_⟩
  exact (show (∃ x' y' r', vI y :: vI x :: r = vI y' :: vI x' :: r' ∧ inR (x' - y') ∧ X ls (vI (x' - y') :: r') (pc + 1) h) from ⟨x, y, r, rfl, hr, k⟩)
theorem r_imul {x y : Int} (hX : pm_clo L xs C d M E X) (hat : pm_at M.code pc = some (q0, .imul, ln, a, b, c)) (hp : pc + 1 = p2) (hr : inR (x * y)) (k : X ls (vI (x * y) :: r) p2 h) : X ls (vI y :: vI x :: r) pc h := by
  subst hp
  refine hX _ _ _ _ ⟨_, hat, ?_⟩
  exact (show (∃ x' y' r', vI y :: vI x :: r = vI y' :: vI x' :: r' ∧ inR (x' * y') ∧ X ls (vI (x' * y') :: r') (pc + 1) h) from ⟨x, y, r, rfl, hr, k⟩)
theorem r_ladd {x y : Int} (hX : pm_clo L xs C d M E X) (hat : pm_at M.code pc = some (q0, .ladd, ln, a, b, c)) (hp : pc + 1 = p2) (hr : inL (x + y)) (k : X ls (vL (x + y) :: r) p2 h) : X ls (vL y :: vL x :: r) pc h := by
  subst hp
  refine hX _ _ _ _ ⟨_, hat, ?_⟩
  exact (show (∃ x' y' r', vL y :: vL x :: r = vL y' :: vL x' :: r' ∧ inL (x' + y') ∧ X ls (vL (x' + y') :: r') (pc + 1) h) from ⟨x, y, r, rfl, hr, k⟩)
theorem r_lsub {x y : Int} (hX : pm_clo L xs C d M E X) (hat : pm_at M.code pc = some (q0, .lsub, ln, a, b, c)) (hp : pc + 1 = p2) (hr : inL (x - y)) (k : X ls (vL (x - y) :: r) p2 h) : X ls (vL y :: vL x :: r) pc h := by
  subst hp
  refine hX _ _ _ _ ⟨_, hat, ?_⟩
  exact (show (∃ x' y' r', vL y :: vL x :: r = vL y' :: vL x' :: r' ∧ inL (x' - y') ∧ X ls (vL (x' - y') :: r') (pc + 1) h) from ⟨x, y, r, rfl, hr, k⟩)
theorem r_lmul {x y : Int} (hX : pm_clo L xs C d M E X) (hat : pm_at M.code pc = some (q0, .lmul, ln, a, b, c)) (hp : pc + 1 = p2) (hr : inL (x * y)) (k : X ls (vL (x * y) :: r) p2 h) : X ls (vL y :: vL x :: r) pc h := by
  subst hp
  refine hX _ _ _ _ ⟨_, hat, ?_⟩
  exact (show (∃ x' y' r', vL y :: vL x :: r = vL y' :: vL x' :: r' ∧ inL (x' * y') ∧ X ls (vL (x' * y') :: r') (pc + 1) h) from ⟨x, y, r, rfl, hr, k⟩)
theorem r_iand {x : Int} (hX : pm_clo L xs C d M E X) (hat : pm_at M.code pc = some (q0, .iand, ln, a, b, c)) (hp : pc + 1 = p2)  (k : X ls (vI (x % 16) :: r) p2 h) : X ls (vI 15 :: vI x :: r) pc h := by
  subst hp
  refine hX _ _ _ _ ⟨_, hat, ?_⟩
  exact (show (∃ x' r', vI 15 :: vI x :: r = vI 15 :: vI x' :: r' ∧ X ls (vI (x' % 16) :: r') (pc + 1) h) from ⟨x, r, rfl, k⟩)
theorem r_ldiv {x y : Int} (hX : pm_clo L xs C d M E X) (hat : pm_at M.code pc = some (q0, .ldiv, ln, a, b, c)) (hp : pc + 1 = p2) (hr : 0 ≤ x ∧ 0 < y) (k : X ls (vL (x / y) :: r) p2 h) : X ls (vL y :: vL x :: r) pc h := by
  subst hp
  refine hX _ _ _ _ ⟨_, hat, ?_⟩
  exact (show (∃ x' y' r', vL y :: vL x :: r = vL y' :: vL x' :: r' ∧ 0 ≤ x' ∧ 0 < y' ∧ X ls (vL (x' / y') :: r') (pc + 1) h) from ⟨x, y, r, rfl, hr.1, hr.2, k⟩)
theorem r_lcmp {x y : Int} (hX : pm_clo L xs C d M E X) (hat : pm_at M.code pc = some (q0, .lcmp, ln, a, b, c)) (hp : pc + 1 = p2)  (k : X ls (vI (pm_lc x y) :: r) p2 h) : X ls (vL y :: vL x :: r) pc h := by
  subst hp
  refine hX _ _ _ _ ⟨_, hat, ?_⟩
  exact (show (∃ x' y' r', vL y :: vL x :: r = vL y' :: vL x' :: r' ∧ X ls (vI (pm_lc x' y') :: r') (pc + 1) h) from ⟨x, y, r, rfl, k⟩)
theorem r_i2l {x : Int} (hX : pm_clo L xs C d M E X) (hat : pm_at M.code pc = some (q0, .i2l, ln, a, b, c)) (hp : pc + 1 = p2)  (k : X ls (vL x :: r) p2 h) : X ls (vI x :: r) pc h := by
  subst hp
  refine hX _ _ _ _ ⟨_, hat, ?_⟩
  exact (show (∃ x' r', vI x :: r = vI x' :: r' ∧ X ls (vL x' :: r') (pc + 1) h) from ⟨x, r, rfl, k⟩)
theorem r_i2c {x : Int} (hX : pm_clo L xs C d M E X) (hat : pm_at M.code pc = some (q0, .i2c, ln, a, b, c)) (hp : pc + 1 = p2)  (k : X ls (vI (x % 65536) :: r) p2 h) : X ls (vI x :: r) pc h := by
  subst hp
  refine hX _ _ _ _ ⟨_, hat, ?_⟩
  exact (show (∃ x' r', vI x :: r = vI x' :: r' ∧ X ls (vI (x' % 65536) :: r') (pc + 1) h) from ⟨x, r, rfl, k⟩)
theorem r_i2f {x : Int} (hX : pm_clo L xs C d M E X) (hat : pm_at M.code pc = some (q0, .i2f, ln, a, b, c)) (hp : pc + 1 = p2)  (k : X ls (vF (FP.i2f (Int32.ofInt x)) :: r) p2 h) : X ls (vI x :: r) pc h := by
  subst hp
  refine hX _ _ _ _ ⟨_, hat, ?_⟩
  exact (show (∃ x' r', vI x :: r = vI x' :: r' ∧ X ls (vF (FP.i2f (Int32.ofInt x')) :: r') (pc + 1) h) from ⟨x, r, rfl, k⟩)
theorem r_f2d {x : UInt32} (hX : pm_clo L xs C d M E X) (hat : pm_at M.code pc = some (q0, .f2d, ln, a, b, c)) (hp : pc + 1 = p2) (hn : vf_n64 (FP.f2d x)) (k : X ls (vD (FP.f2d x) :: r) p2 h) : X ls (vF x :: r) pc h := by
  subst hp
  refine hX _ _ _ _ ⟨_, hat, ?_⟩
  exact (show (∃ x' r', vF x :: r = vF x' :: r' ∧ vf_n64 (FP.f2d x') ∧ X ls (vD (FP.f2d x') :: r') (pc + 1) h) from ⟨x, r, rfl, hn, k⟩)
theorem r_fadd {x y : UInt32} (hX : pm_clo L xs C d M E X) (hat : pm_at M.code pc = some (q0, .fadd, ln, a, b, c)) (hp : pc + 1 = p2) (hn : vf_n32 (FP.fadd x y)) (k : X ls (vF (FP.fadd x y) :: r) p2 h) : X ls (vF y :: vF x :: r) pc h := by
  subst hp
  refine hX _ _ _ _ ⟨_, hat, ?_⟩
  exact (show (∃ x' y' r', vF y :: vF x :: r = vF y' :: vF x' :: r' ∧ vf_n32 (FP.fadd x' y') ∧ X ls (vF (FP.fadd x' y') :: r') (pc + 1) h) from ⟨x, y, r, rfl, hn, k⟩)
theorem r_fsub {x y : UInt32} (hX : pm_clo L xs C d M E X) (hat : pm_at M.code pc = some (q0, .fsub, ln, a, b, c)) (hp : pc + 1 = p2) (hn : vf_n32 (FP.fsub x y)) (k : X ls (vF (FP.fsub x y) :: r) p2 h) : X ls (vF y :: vF x :: r) pc h := by
  subst hp
  refine hX _ _ _ _ ⟨_, hat, ?_⟩
  exact (show (∃ x' y' r', vF y :: vF x :: r = vF y' :: vF x' :: r' ∧ vf_n32 (FP.fsub x' y') ∧ X ls (vF (FP.fsub x' y') :: r') (pc + 1) h) from ⟨x, y, r, rfl, hn, k⟩)
theorem r_fmul {x y : UInt32} (hX : pm_clo L xs C d M E X) (hat : pm_at M.code pc = some (q0, .fmul, ln, a, b, c)) (hp : pc + 1 = p2) (hn : vf_n32 (FP.fmul x y)) (k : X ls (vF (FP.fmul x y) :: r) p2 h) : X ls (vF y :: vF x :: r) pc h := by
  subst hp
  refine hX _ _ _ _ ⟨_, hat, ?_⟩
  exact (show (∃ x' y' r', vF y :: vF x :: r = vF y' :: vF x' :: r' ∧ vf_n32 (FP.fmul x' y') ∧ X ls (vF (FP.fmul x' y') :: r') (pc + 1) h) from ⟨x, y, r, rfl, hn, k⟩)
theorem r_fdiv {x y : UInt32} (hX : pm_clo L xs C d M E X) (hat : pm_at M.code pc = some (q0, .fdiv, ln, a, b, c)) (hp : pc + 1 = p2) (hn : vf_n32 (FP.fdiv x y)) (k : X ls (vF (FP.fdiv x y) :: r) p2 h) : X ls (vF y :: vF x :: r) pc h := by
  subst hp
  refine hX _ _ _ _ ⟨_, hat, ?_⟩
  exact (show (∃ x' y' r', vF y :: vF x :: r = vF y' :: vF x' :: r' ∧ vf_n32 (FP.fdiv x' y') ∧ X ls (vF (FP.fdiv x' y') :: r') (pc + 1) h) from ⟨x, y, r, rfl, hn, k⟩)
theorem r_fcmp {op : CmpOp} {x y : UInt32} (hX : pm_clo L xs C d M E X) (hat : pm_at M.code pc = some (q0, .fcmp op, ln, a, b, c)) (hp : pc + 1 = p2)  (k : X ls (vI (pm_fc op x y) :: r) p2 h) : X ls (vF y :: vF x :: r) pc h := by
  subst hp
  refine hX _ _ _ _ ⟨_, hat, ?_⟩
  exact (show (∃ x' y' r', vF y :: vF x :: r = vF y' :: vF x' :: r' ∧ X ls (vI (pm_fc op x' y') :: r') (pc + 1) h) from ⟨x, y, r, rfl, k⟩)
theorem r_dcmp {op : CmpOp} {x y : UInt64} (hX : pm_clo L xs C d M E X) (hat : pm_at M.code pc = some (q0, .dcmp op, ln, a, b, c)) (hp : pc + 1 = p2)  (k : X ls (vI (pm_dc op x y) :: r) p2 h) : X ls (vD y :: vD x :: r) pc h := by
  subst hp
  refine hX _ _ _ _ ⟨_, hat, ?_⟩
  exact (show (∃ x' y' r', vD y :: vD x :: r = vD y' :: vD x' :: r' ∧ X ls (vI (pm_dc op x' y') :: r') (pc + 1) h) from ⟨x, y, r, rfl, k⟩)
theorem r_goto {off : Int} (hX : pm_clo L xs C d M E X) (hat : pm_at M.code pc = some (q0, .goto off, ln, a, b, c)) (ht : (pc : Int) + off = (p2 : Int)) (k : X ls r p2 h) : X ls r pc h :=
  hX _ _ _ _ ⟨_, hat, (show ∃ tgt : Nat, (pc : Int) + off = (tgt : Int) ∧ X ls r tgt h from ⟨p2, ht, k⟩)⟩
theorem r_if {q : ClassFile.Cond} {off x : Int} {p3 : Nat} {P : Prop} (hX : pm_clo L xs C d M E X) (hat : pm_at M.code pc = some (q0, .ifCond q off, ln, a, b, c)) (ht : (pc : Int) + off = (p2 : Int)) (hp : pc + 3 = p3) (hP : pm_c1 q x = P) (k1 : P → X ls r p2 h) (k2 : ¬ P → X ls r p3 h) : X ls (vI x :: r) pc h := by
  subst hp; subst hP
  exact hX _ _ _ _ ⟨_, hat, (show ∃ x' r', vI x :: r = vI x' :: r' ∧ ∃ tgt : Nat, (pc : Int) + off = (tgt : Int) ∧ (pm_c1 q x' → X ls r' tgt h) ∧ (¬ pm_c1 q x' → X ls r' (pc + 3) h) from ⟨x, r, rfl, p2, ht, k1, k2⟩)⟩
theorem r_icmp {q : ClassFile.Cond} {off x y : Int} {p3 : Nat} {P : Prop} (hX : pm_clo L xs C d M E X) (hat : pm_at M.code pc = some (q0, .if_icmp q off, ln, a, b, c)) (ht : (pc : Int) + off = (p2 : Int)) (hp : pc + 3 = p3) (hP : pm_c2 q x y = P) (k1 : P → X ls r p2 h) (k2 : ¬ P → X ls r p3 h) : X ls (vI y :: vI x :: r) pc h := by
  subst hp; subst hP
  exact hX _ _ _ _ ⟨_, hat, (show ∃ x' y' r', vI y :: vI x :: r = vI y' :: vI x' :: r' ∧ ∃ tgt : Nat, (pc : Int) + off = (tgt : Int) ∧ (pm_c2 q x' y' → X ls r' tgt h) ∧ (¬ pm_c2 q x' y' → X ls r' (pc + 3) h) from ⟨x, y, r, rfl, p2, ht, k1, k2⟩)⟩
theorem r_tsw {w : Nat} {lo hi x off : Int} {offs : Array Int} (hX : pm_clo L xs C d M E X) (hat : pm_at M.code pc = some (q0, .tableswitch w lo hi offs, ln, a, b, c)) (v : Int) (hx : x = v) (h1 : lo ≤ v) (h2 : v ≤ hi) (ho : offs[(v - lo).toNat]? = some off) (ht : (pc : Int) + off = (p2 : Int)) (k : X ls r p2 h) : X ls (vI x :: r) pc h := by
  subst hx
  exact hX _ _ _ _ ⟨_, hat, (show ∃ x' r', vI x :: r = vI x' :: r' ∧ lo ≤ x' ∧ x' ≤ hi ∧ ∃ off, offs[(x' - lo).toNat]? = some off ∧ ∃ tgt : Nat, (pc : Int) + off = (tgt : Int) ∧ X ls r' tgt h from ⟨x, r, rfl, h1, h2, off, ho, p2, ht, k⟩)⟩
theorem r_gf {y i kk : Nat} {s : pS} {v : pV} (hX : pm_clo L xs C d M E X) (hat : pm_at M.code pc = some (q0, .getfield y, ln, a, b, c)) (hp : pc + 3 = p2) (hk : shpL[kk]? = some (0, a, i)) (ha : Nat.ble (a + 1) 7 = true) (hb : Nat.ble (b + 1) (pm_N a) = true) (hv : fv a b i s = v) (k : X ls (v :: r) p2 (pW s)) : X ls (vR kk :: r) pc (pW s) := by
  subst hp
  refine hX _ _ _ _ ⟨_, hat, ?_⟩
  exact (show ∃ k' r', vR kk :: r = vR k' :: r' ∧ ∃ fs v, pm_get (pW s) k' = some (.inr (a, fs)) ∧ a < 7 ∧ b < pm_N a ∧ fs[b]? = some v ∧ X ls (v :: r') (pc + 3) (pW s) from ⟨kk, r, rfl, flds a i s, v, pW_get s hk, Nat.le_of_ble_eq_true ha, Nat.le_of_ble_eq_true hb, hv ▸ fl_get (Nat.le_of_ble_eq_true hb), k⟩)
theorem r_pf {y i kk : Nat} {s s2 : pS} {v : pV} (hX : pm_clo L xs C d M E X) (hat : pm_at M.code pc = some (q0, .putfield y, ln, a, b, c)) (hp : pc + 3 = p2) (hk : shpL[kk]? = some (0, a, i)) (ha : Nat.ble (a + 1) 7 = true) (hb : Nat.ble (b + 1) (pm_N a) = true) (hf : pm_fit (pm_ty a b) v) (hs : pm_set (pW s) kk (.inr (a, (flds a i s).set b v)) = pW s2) (k : X ls r p2 (pW s2)) : X ls (v :: vR kk :: r) pc (pW s) := by
  subst hp
  refine hX _ _ _ _ ⟨_, hat, ?_⟩
  exact (show ∃ v' k' r', v :: vR kk :: r = v' :: vR k' :: r' ∧ ∃ fs, pm_get (pW s) k' = some (.inr (a, fs)) ∧ a < 7 ∧ b < pm_N a ∧ b < fs.length ∧ pm_fit (pm_ty a b) v' ∧ X ls r' (pc + 3) (pm_set (pW s) k' (.inr (a, fs.set b v'))) from ⟨v, kk, r, rfl, flds a i s, pW_get s hk, Nat.le_of_ble_eq_true ha, Nat.le_of_ble_eq_true hb, by rw [fl_len]; exact Nat.le_of_ble_eq_true hb, hf, hs ▸ k⟩)
theorem r_pfI {y i kk f : Nat} {s s2 : pS} {x : Int} (hX : pm_clo L xs C d M E X) (hat : pm_at M.code pc = some (q0, .putfield y, ln, a, b, c)) (hp : pc + 3 = p2) (hk : shpL[kk]? = some (0, a, i)) (ha : Nat.ble (a + 1) 7 = true) (hb : Nat.ble (b + 1) (pm_N a) = true) (h1 : Nat.beq (100 * a + b) 100 = false) (h2 : Nat.beq (100 * a + b) 101 = false) (ht : pm_ty a b = .int) (hf : 100 * a + b = f) (he : s2 = wI s f i x) (k : X ls r p2 (pW s2)) : X ls (vI x :: vR kk :: r) pc (pW s) := by
  subst he; subst hf
  exact r_pf hX hat hp hk ha hb (pm_fitI ht) (p_I hk (Nat.le_of_ble_eq_true hb) (Nat.ne_of_beq_eq_false h1) (Nat.ne_of_beq_eq_false h2) (by rw [fv_int (Or.inl ht), sI_wI, if_pos ⟨rfl, rfl⟩])) k
theorem r_pfZ {y i kk f : Nat} {s s2 : pS} {x : Int} (hX : pm_clo L xs C d M E X) (hat : pm_at M.code pc = some (q0, .putfield y, ln, a, b, c)) (hp : pc + 3 = p2) (hk : shpL[kk]? = some (0, a, i)) (ha : Nat.ble (a + 1) 7 = true) (hb : Nat.ble (b + 1) (pm_N a) = true) (h1 : Nat.beq (100 * a + b) 100 = false) (h2 : Nat.beq (100 * a + b) 101 = false) (ht : pm_ty a b = .boolean) (hf : 100 * a + b = f) (he : s2 = wI s f i x) (hx : x = 0 ∨ x = 1) (k : X ls r p2 (pW s2)) : X ls (vI x :: vR kk :: r) pc (pW s) := by
  subst he; subst hf
  exact r_pf hX hat hp hk ha hb (pm_fitZ ht hx) (p_I hk (Nat.le_of_ble_eq_true hb) (Nat.ne_of_beq_eq_false h1) (Nat.ne_of_beq_eq_false h2) (by rw [fv_int (Or.inr ht), sI_wI, if_pos ⟨rfl, rfl⟩])) k
theorem r_pfF {y i kk f : Nat} {s s2 : pS} {x : UInt32} (hX : pm_clo L xs C d M E X) (hat : pm_at M.code pc = some (q0, .putfield y, ln, a, b, c)) (hp : pc + 3 = p2) (hk : shpL[kk]? = some (0, a, i)) (ha : Nat.ble (a + 1) 7 = true) (hb : Nat.ble (b + 1) (pm_N a) = true) (ht : pm_ty a b = .float) (hf : 100 * a + b = f) (he : s2 = wF s f i x) (k : X ls r p2 (pW s2)) : X ls (vF x :: vR kk :: r) pc (pW s) := by
  subst he; subst hf
  exact r_pf hX hat hp hk ha hb (pm_fitF ht) (p_F hk (Nat.le_of_ble_eq_true hb) (by rw [fv_float ht, sF_wF, if_pos ⟨rfl, rfl⟩])) k
theorem r_pfM0 {y kk j : Nat} {s s2 : pS} (hX : pm_clo L xs C d M E X) (hat : pm_at M.code pc = some (q0, .putfield y, ln, 1, 0, c)) (hp : pc + 3 = p2) (hk : shpL[kk]? = some (0, 1, 0)) (he : s2 = wI s 100 0 (j : Int)) (k : X ls r p2 (pW s2)) : X ls (vR (cc 0 j) :: vR kk :: r) pc (pW s) := by
  subst he
  exact r_pf hX hat hp hk rfl rfl ⟨_, rfl⟩ (p_M0 hk) k
theorem r_pfM1 {y kk j : Nat} {s s2 : pS} (hX : pm_clo L xs C d M E X) (hat : pm_at M.code pc = some (q0, .putfield y, ln, 1, 1, c)) (hp : pc + 3 = p2) (hk : shpL[kk]? = some (0, 1, 0)) (he : s2 = wI s 101 0 (j : Int)) (k : X ls r p2 (pW s2)) : X ls (vR (cc 0 j) :: vR kk :: r) pc (pW s) := by
  subst he
  exact r_pf hX hat hp hk rfl rfl ⟨_, rfl⟩ (p_M1 hk) k
theorem r_iaload {f i kk n j : Nat} {s : pS} {x : Int} (hX : pm_clo L xs C d M E X) (hat : pm_at M.code pc = some (q0, .iaload, ln, a, b, c)) (hp : pc + 1 = p2) (hk : shpL[kk]? = some (1, f, i)) (ht : aty f = (0, n)) (hn : Nat.ble n 1000 = true) (hb : 0 ≤ x ∧ x < (n : Int)) (hj : x.toNat = j) (k : X ls (vI (sA s f i j) :: r) p2 (pW s)) : X ls (vI x :: vR kk :: r) pc (pW s) := by
  subst hp; subst hj
  refine hX _ _ _ _ ⟨_, hat, ?_⟩
  exact (show ∃ i' v' r', vI x :: vR kk :: r = vI i' :: v' :: r' ∧ ((∃ k' n f, v' = vR k' ∧ pm_get (pW s) k' = some (.inl (.int, n, .inl f)) ∧ n ≤ 1000 ∧ 0 ≤ i' ∧ i' < n ∧ X ls (vI (f i'.toNat) :: r') (pc + 1) (pW s)) ∨ (v' = vX 2 ∧ L ≤ 1000 ∧ 0 ≤ i' ∧ i' < L ∧ X ls (vI (xs i'.toNat) :: r') (pc + 1) (pW s))) from ⟨x, vR kk, r, rfl, Or.inl ⟨kk, n, _, rfl, (pW_get s hk).trans (congrArg some (arr_int ht)), Nat.le_of_ble_eq_true hn, hb.1, hb.2, k⟩⟩)
theorem r_baload {f i kk n j : Nat} {s : pS} {x : Int} (hX : pm_clo L xs C d M E X) (hat : pm_at M.code pc = some (q0, .baload, ln, a, b, c)) (hp : pc + 1 = p2) (hk : shpL[kk]? = some (1, f, i)) (ht : aty f = (1, n)) (hn : Nat.ble n 1000 = true) (hb : 0 ≤ x ∧ x < (n : Int)) (hj : x.toNat = j) (k : X ls (vI (sA s f i j) :: r) p2 (pW s)) : X ls (vI x :: vR kk :: r) pc (pW s) := by
  subst hp; subst hj
  refine hX _ _ _ _ ⟨_, hat, ?_⟩
  exact (show ∃ i' k' r' n f, vI x :: vR kk :: r = vI i' :: vR k' :: r' ∧ pm_get (pW s) k' = some (.inl (.boolean, n, .inl f)) ∧ n ≤ 1000 ∧ 0 ≤ i' ∧ i' < n ∧ X ls (vI (f i'.toNat) :: r') (pc + 1) (pW s) from ⟨x, kk, r, n, _, rfl, (pW_get s hk).trans (congrArg some (arr_bool ht)), Nat.le_of_ble_eq_true hn, hb.1, hb.2, k⟩)
theorem r_caload {f i kk n j : Nat} {s : pS} {x : Int} (hX : pm_clo L xs C d M E X) (hat : pm_at M.code pc = some (q0, .caload, ln, a, b, c)) (hp : pc + 1 = p2) (hk : shpL[kk]? = some (1, f, i)) (ht : aty f = (2, n)) (hn : Nat.ble n 1000 = true) (hb : 0 ≤ x ∧ x < (n : Int)) (hj : x.toNat = j) (k : X ls (vI (sA s f i j) :: r) p2 (pW s)) : X ls (vI x :: vR kk :: r) pc (pW s) := by
  subst hp; subst hj
  refine hX _ _ _ _ ⟨_, hat, ?_⟩
  exact (show ∃ i' k' r' n f, vI x :: vR kk :: r = vI i' :: vR k' :: r' ∧ pm_get (pW s) k' = some (.inl (.char, n, .inl f)) ∧ n ≤ 1000 ∧ 0 ≤ i' ∧ i' < n ∧ X ls (vI (f i'.toNat) :: r') (pc + 1) (pW s) from ⟨x, kk, r, n, _, rfl, (pW_get s hk).trans (congrArg some (arr_char ht)), Nat.le_of_ble_eq_true hn, hb.1, hb.2, k⟩)
theorem r_faload {f i kk n j : Nat} {s : pS} {x : Int} (hX : pm_clo L xs C d M E X) (hat : pm_at M.code pc = some (q0, .faload, ln, a, b, c)) (hp : pc + 1 = p2) (hk : shpL[kk]? = some (1, f, i)) (ht : aty f = (3, n)) (hn : Nat.ble n 1000 = true) (hb : 0 ≤ x ∧ x < (n : Int)) (hj : x.toNat = j) (k : X ls (vF (sB s f i j) :: r) p2 (pW s)) : X ls (vI x :: vR kk :: r) pc (pW s) := by
  subst hp; subst hj
  refine hX _ _ _ _ ⟨_, hat, ?_⟩
  exact (show ∃ i' k' r' n f, vI x :: vR kk :: r = vI i' :: vR k' :: r' ∧ pm_get (pW s) k' = some (.inl (.float, n, .inr (.inr (.inl f)))) ∧ n ≤ 1000 ∧ 0 ≤ i' ∧ i' < n ∧ X ls (vF (f i'.toNat) :: r') (pc + 1) (pW s) from ⟨x, kk, r, n, _, rfl, (pW_get s hk).trans (congrArg some (arr_float ht)), Nat.le_of_ble_eq_true hn, hb.1, hb.2, k⟩)
theorem r_laload {f i kk n j : Nat} {s : pS} {x : Int} (hX : pm_clo L xs C d M E X) (hat : pm_at M.code pc = some (q0, .laload, ln, a, b, c)) (hp : pc + 1 = p2) (hk : shpL[kk]? = some (1, f, i)) (ht : aty f = (4, n)) (hn : Nat.ble n 1000 = true) (hb : 0 ≤ x ∧ x < (n : Int)) (hj : x.toNat = j) (k : X ls (vL (sA s f i j) :: r) p2 (pW s)) : X ls (vI x :: vR kk :: r) pc (pW s) := by
  subst hp; subst hj
  refine hX _ _ _ _ ⟨_, hat, ?_⟩
  exact (show ∃ i' k' r' n f, vI x :: vR kk :: r = vI i' :: vR k' :: r' ∧ pm_get (pW s) k' = some (.inl (.long, n, .inr (.inl f))) ∧ n ≤ 1000 ∧ 0 ≤ i' ∧ i' < n ∧ X ls (vL (f i'.toNat) :: r') (pc + 1) (pW s) from ⟨x, kk, r, n, _, rfl, (pW_get s hk).trans (congrArg some (arr_long ht)), Nat.le_of_ble_eq_true hn, hb.1, hb.2, k⟩)
theorem r_daload {f i kk n j : Nat} {s : pS} {x : Int} (hX : pm_clo L xs C d M E X) (hat : pm_at M.code pc = some (q0, .daload, ln, a, b, c)) (hp : pc + 1 = p2) (hk : shpL[kk]? = some (1, f, i)) (ht : aty f = (5, n)) (hn : Nat.ble n 1000 = true) (hb : 0 ≤ x ∧ x < (n : Int)) (hj : x.toNat = j) (k : X ls (vD (sD s j) :: r) p2 (pW s)) : X ls (vI x :: vR kk :: r) pc (pW s) := by
  subst hp; subst hj
  refine hX _ _ _ _ ⟨_, hat, ?_⟩
  exact (show ∃ i' k' r' n f, vI x :: vR kk :: r = vI i' :: vR k' :: r' ∧ pm_get (pW s) k' = some (.inl (.double, n, .inr (.inr (.inr (.inl f))))) ∧ n ≤ 1000 ∧ 0 ≤ i' ∧ i' < n ∧ X ls (vD (f i'.toNat) :: r') (pc + 1) (pW s) from ⟨x, kk, r, n, _, rfl, (pW_get s hk).trans (congrArg some (arr_double ht)), Nat.le_of_ble_eq_true hn, hb.1, hb.2, k⟩)
theorem r_xload {x : Int} (hX : pm_clo L xs C d M E X) (hat : pm_at M.code pc = some (q0, .iaload, ln, a, b, c)) (hp : pc + 1 = p2) (hL : L ≤ 1000) (hb : 0 ≤ x ∧ x < (L : Int)) (k : X ls (vI (xs x.toNat) :: r) p2 h) : X ls (vI x :: vX 2 :: r) pc h := by
  subst hp
  refine hX _ _ _ _ ⟨_, hat, ?_⟩
  exact (show ∃ i' v' r', vI x :: vX 2 :: r = vI i' :: v' :: r' ∧ ((∃ k' n f, v' = vR k' ∧ pm_get h k' = some (.inl (.int, n, .inl f)) ∧ n ≤ 1000 ∧ 0 ≤ i' ∧ i' < n ∧ X ls (vI (f i'.toNat) :: r') (pc + 1) h) ∨ (v' = vX 2 ∧ L ≤ 1000 ∧ 0 ≤ i' ∧ i' < L ∧ X ls (vI (xs i'.toNat) :: r') (pc + 1) h)) from ⟨x, vX 2, r, rfl, Or.inr ⟨rfl, hL, hb.1, hb.2, k⟩⟩)
theorem r_xlen (hX : pm_clo L xs C d M E X) (hat : pm_at M.code pc = some (q0, .arraylength, ln, a, b, c)) (hp : pc + 1 = p2) (hL : L ≤ 1000) (k : X ls (vI (L : Int) :: r) p2 h) : X ls (vX 2 :: r) pc h := by
  subst hp
  refine hX _ _ _ _ ⟨_, hat, ?_⟩
  exact (show ∃ v' r', vX 2 :: r = v' :: r' ∧ ((∃ k' ty n z, v' = vR k' ∧ pm_get h k' = some (.inl (ty, n, z)) ∧ n ≤ 1000 ∧ X ls (vI n :: r') (pc + 1) h) ∨ (v' = vX 2 ∧ L ≤ 1000 ∧ X ls (vI L :: r') (pc + 1) h)) from ⟨vX 2, r, rfl, Or.inr ⟨rfl, hL, k⟩⟩)
theorem r_alen {f i kk n : Nat} {s : pS} {x : Int} (hX : pm_clo L xs C d M E X) (hat : pm_at M.code pc = some (q0, .arraylength, ln, a, b, c)) (hp : pc + 1 = p2) (hk : shpL[kk]? = some (1, f, i)) (ht : (aty f).2 = n) (hn : Nat.ble n 1000 = true) (hx : (n : Int) = x) (k : X ls (vI x :: r) p2 (pW s)) : X ls (vR kk :: r) pc (pW s) := by
  subst hp; subst ht; subst hx
  refine hX _ _ _ _ ⟨_, hat, ?_⟩
  obtain ⟨ty, z, hz⟩ := arr_len (f := f) (i := i) (s := s)
  exact (show ∃ v' r', vR kk :: r = v' :: r' ∧ ((∃ k' ty n z, v' = vR k' ∧ pm_get (pW s) k' = some (.inl (ty, n, z)) ∧ n ≤ 1000 ∧ X ls (vI n :: r') (pc + 1) (pW s)) ∨ (v' = vX 2 ∧ L ≤ 1000 ∧ X ls (vI L :: r') (pc + 1) (pW s))) from ⟨vR kk, r, rfl, Or.inl ⟨kk, ty, _, z, rfl, (pW_get s hk).trans (congrArg some hz), Nat.le_of_ble_eq_true hn, k⟩⟩)
theorem r_aaload {f kk y cl : Nat} {s : pS} {x : Int} {cn : String} (hX : pm_clo L xs C d M E X) (hat : pm_at M.code pc = some (q0, .aaload, ln, a, b, c)) (hp : pc + 1 = p2) (hk : shpL[kk]? = some (2, f, 0)) (ht : rarr f = .inl (.object cn, 2, .inr (.inr (.inr (.inr (rg cl)))))) (hb : 0 ≤ x ∧ x < 2) (hg : y = cc cl x.toNat) (k : X ls (vR y :: r) p2 (pW s)) : X ls (vI x :: vR kk :: r) pc (pW s) := by
  subst hp
  refine hX _ _ _ _ ⟨_, hat, ?_⟩
  exact (show ∃ i' k' r' cn n f y, vI x :: vR kk :: r = vI i' :: vR k' :: r' ∧ pm_get (pW s) k' = some (.inl (.object cn, n, .inr (.inr (.inr (.inr f))))) ∧ n ≤ 1000 ∧ 0 ≤ i' ∧ i' < n ∧ f i'.toNat = some y ∧ X ls (vR y :: r') (pc + 1) (pW s) from ⟨x, kk, r, cn, 2, rg cl, y, rfl, (pW_get s hk).trans (congrArg some ht), by decide, hb.1, hb.2, (show rg cl x.toNat = some y from by rw [hg]; unfold rg; rw [if_pos (by omega)]), k⟩)
theorem r_iastore {f i n : Nat} {kk j : Nat} {s s2 : pS} {x : Int} {v : Int} (hX : pm_clo L xs C d M E X) (hat : pm_at M.code pc = some (q0, .iastore, ln, a, b, c)) (hp : pc + 1 = p2) (hk : shpL[kk]? = some (1, f, i)) (ht : aty f = (0, n)) (hn : Nat.ble n 1000 = true) (hb : 0 ≤ x ∧ x < (n : Int)) (hj : x.toNat = j) (he : s2 = wA s f i (pm_up (sA s f i) j v)) (k : X ls r p2 (pW s2)) : X ls (vI v :: vI x :: vR kk :: r) pc (pW s) := by
  subst hp; subst hj; subst he
  refine hX _ _ _ _ ⟨_, hat, ?_⟩
  have hs : pm_set (pW s) kk (.inl (.int, n, .inl (pm_up (sA s f i) x.toNat v))) = pW (wA s f i (pm_up (sA s f i) x.toNat v)) := p_A hk (by rw [arr_int ht]; show _ = (Sum.inl (.int, n, .inl (sA (wA s f i (pm_up (sA s f i) x.toNat v)) f i)) : pC); rw [sA_wA, if_pos ⟨rfl, rfl⟩])
  exact (show ∃ v' i' k' r' n f, vI v :: vI x :: vR kk :: r = vI v' :: vI i' :: vR k' :: r' ∧ pm_get (pW s) k' = some (.inl (.int, n, .inl f)) ∧ n ≤ 1000 ∧ 0 ≤ i' ∧ i' < n ∧ X ls r' (pc + 1) (pm_set (pW s) k' (.inl (.int, n, .inl (pm_up f i'.toNat v')))) from ⟨v, x, kk, r, n, sA s f i, rfl, (pW_get s hk).trans (congrArg some (arr_int ht)), (Nat.le_of_ble_eq_true hn), hb.1, hb.2, hs ▸ k⟩)
theorem r_bastore {f i n : Nat} {kk j : Nat} {s s2 : pS} {x : Int} {v : Int} (hX : pm_clo L xs C d M E X) (hat : pm_at M.code pc = some (q0, .bastore, ln, a, b, c)) (hp : pc + 1 = p2) (hk : shpL[kk]? = some (1, f, i)) (ht : aty f = (1, n)) (hn : Nat.ble n 1000 = true) (hb : 0 ≤ x ∧ x < (n : Int)) (hj : x.toNat = j) (hv : v = 0 ∨ v = 1) (he : s2 = wA s f i (pm_up (sA s f i) j v)) (k : X ls r p2 (pW s2)) : X ls (vI v :: vI x :: vR kk :: r) pc (pW s) := by
  subst hp; subst hj; subst he
  refine hX _ _ _ _ ⟨_, hat, ?_⟩
  have hs : pm_set (pW s) kk (.inl (.boolean, n, .inl (pm_up (sA s f i) x.toNat v))) = pW (wA s f i (pm_up (sA s f i) x.toNat v)) := p_A hk (by rw [arr_bool ht]; show _ = (Sum.inl (.boolean, n, .inl (sA (wA s f i (pm_up (sA s f i) x.toNat v)) f i)) : pC); rw [sA_wA, if_pos ⟨rfl, rfl⟩])
  exact (show ∃ v' i' k' r' n f, vI v :: vI x :: vR kk :: r = vI v' :: vI i' :: vR k' :: r' ∧ pm_get (pW s) k' = some (.inl (.boolean, n, .inl f)) ∧ n ≤ 1000 ∧ 0 ≤ i' ∧ i' < n ∧ (v' = 0 ∨ v' = 1) ∧ X ls r' (pc + 1) (pm_set (pW s) k' (.inl (.boolean, n, .inl (pm_up f i'.toNat v')))) from ⟨v, x, kk, r, n, sA s f i, rfl, (pW_get s hk).trans (congrArg some (arr_bool ht)), (Nat.le_of_ble_eq_true hn), hb.1, hb.2, hv, hs ▸ k⟩)
theorem r_castore {f i n : Nat} {kk j : Nat} {s s2 : pS} {x : Int} {v : Int} (hX : pm_clo L xs C d M E X) (hat : pm_at M.code pc = some (q0, .castore, ln, a, b, c)) (hp : pc + 1 = p2) (hk : shpL[kk]? = some (1, f, i)) (ht : aty f = (2, n)) (hn : Nat.ble n 1000 = true) (hb : 0 ≤ x ∧ x < (n : Int)) (hj : x.toNat = j) (hv : 0 ≤ v ∧ v < 65536) (he : s2 = wA s f i (pm_up (sA s f i) j v)) (k : X ls r p2 (pW s2)) : X ls (vI v :: vI x :: vR kk :: r) pc (pW s) := by
  subst hp; subst hj; subst he
  refine hX _ _ _ _ ⟨_, hat, ?_⟩
  have hs : pm_set (pW s) kk (.inl (.char, n, .inl (pm_up (sA s f i) x.toNat v))) = pW (wA s f i (pm_up (sA s f i) x.toNat v)) := p_A hk (by rw [arr_char ht]; show _ = (Sum.inl (.char, n, .inl (sA (wA s f i (pm_up (sA s f i) x.toNat v)) f i)) : pC); rw [sA_wA, if_pos ⟨rfl, rfl⟩])
  exact (show ∃ v' i' k' r' n f, vI v :: vI x :: vR kk :: r = vI v' :: vI i' :: vR k' :: r' ∧ pm_get (pW s) k' = some (.inl (.char, n, .inl f)) ∧ n ≤ 1000 ∧ 0 ≤ i' ∧ i' < n ∧ 0 ≤ v' ∧ v' < 65536 ∧ X ls r' (pc + 1) (pm_set (pW s) k' (.inl (.char, n, .inl (pm_up f i'.toNat v')))) from ⟨v, x, kk, r, n, sA s f i, rfl, (pW_get s hk).trans (congrArg some (arr_char ht)), (Nat.le_of_ble_eq_true hn), hb.1, hb.2, hv.1, hv.2, hs ▸ k⟩)
theorem r_fastore {f i n : Nat} {kk j : Nat} {s s2 : pS} {x : Int} {v : UInt32} (hX : pm_clo L xs C d M E X) (hat : pm_at M.code pc = some (q0, .fastore, ln, a, b, c)) (hp : pc + 1 = p2) (hk : shpL[kk]? = some (1, f, i)) (ht : aty f = (3, n)) (hn : Nat.ble n 1000 = true) (hb : 0 ≤ x ∧ x < (n : Int)) (hj : x.toNat = j) (he : s2 = wB s f i (pm_up (sB s f i) j v)) (k : X ls r p2 (pW s2)) : X ls (vF v :: vI x :: vR kk :: r) pc (pW s) := by
  subst hp; subst hj; subst he
  refine hX _ _ _ _ ⟨_, hat, ?_⟩
  have hs : pm_set (pW s) kk (.inl (.float, n, .inr (.inr (.inl (pm_up (sB s f i) x.toNat v))))) = pW (wB s f i (pm_up (sB s f i) x.toNat v)) := p_B hk (by rw [arr_float ht]; show _ = (Sum.inl (.float, n, .inr (.inr (.inl (sB (wB s f i (pm_up (sB s f i) x.toNat v)) f i)))) : pC); rw [sB_wB, if_pos ⟨rfl, rfl⟩])
  exact (show ∃ v' i' k' r' n f, vF v :: vI x :: vR kk :: r = vF v' :: vI i' :: vR k' :: r' ∧ pm_get (pW s) k' = some (.inl (.float, n, .inr (.inr (.inl f)))) ∧ n ≤ 1000 ∧ 0 ≤ i' ∧ i' < n ∧ X ls r' (pc + 1) (pm_set (pW s) k' (.inl (.float, n, .inr (.inr (.inl (pm_up f i'.toNat v')))))) from ⟨v, x, kk, r, n, sB s f i, rfl, (pW_get s hk).trans (congrArg some (arr_float ht)), (Nat.le_of_ble_eq_true hn), hb.1, hb.2, hs ▸ k⟩)
theorem r_lastore {f i n : Nat} {kk j : Nat} {s s2 : pS} {x : Int} {v : Int} (hX : pm_clo L xs C d M E X) (hat : pm_at M.code pc = some (q0, .lastore, ln, a, b, c)) (hp : pc + 1 = p2) (hk : shpL[kk]? = some (1, f, i)) (ht : aty f = (4, n)) (hn : Nat.ble n 1000 = true) (hb : 0 ≤ x ∧ x < (n : Int)) (hj : x.toNat = j) (he : s2 = wA s f i (pm_up (sA s f i) j v)) (k : X ls r p2 (pW s2)) : X ls (vL v :: vI x :: vR kk :: r) pc (pW s) := by
  subst hp; subst hj; subst he
  refine hX _ _ _ _ ⟨_, hat, ?_⟩
  have hs : pm_set (pW s) kk (.inl (.long, n, .inr (.inl (pm_up (sA s f i) x.toNat v)))) = pW (wA s f i (pm_up (sA s f i) x.toNat v)) := p_A hk (by rw [arr_long ht]; show _ = (Sum.inl (.long, n, .inr (.inl (sA (wA s f i (pm_up (sA s f i) x.toNat v)) f i))) : pC); rw [sA_wA, if_pos ⟨rfl, rfl⟩])
  exact (show ∃ v' i' k' r' n f, vL v :: vI x :: vR kk :: r = vL v' :: vI i' :: vR k' :: r' ∧ pm_get (pW s) k' = some (.inl (.long, n, .inr (.inl f))) ∧ n ≤ 1000 ∧ 0 ≤ i' ∧ i' < n ∧ X ls r' (pc + 1) (pm_set (pW s) k' (.inl (.long, n, .inr (.inl (pm_up f i'.toNat v'))))) from ⟨v, x, kk, r, n, sA s f i, rfl, (pW_get s hk).trans (congrArg some (arr_long ht)), (Nat.le_of_ble_eq_true hn), hb.1, hb.2, hs ▸ k⟩)
theorem r_dastore {kk j : Nat} {s s2 : pS} {x : Int} {v : UInt64} (hX : pm_clo L xs C d M E X) (hat : pm_at M.code pc = some (q0, .dastore, ln, a, b, c)) (hp : pc + 1 = p2) (hk : shpL[kk]? = some (1, 701, 0)) (hb : 0 ≤ x ∧ x < 1) (hj : x.toNat = j) (he : s2 = wD s (pm_up (sD s) j v)) (k : X ls r p2 (pW s2)) : X ls (vD v :: vI x :: vR kk :: r) pc (pW s) := by
  subst hp; subst hj; subst he
  refine hX _ _ _ _ ⟨_, hat, ?_⟩
  have hs : pm_set (pW s) kk (.inl (.double, 1, .inr (.inr (.inr (.inl (pm_up (sD s) x.toNat v)))))) = pW (wD s (pm_up (sD s) x.toNat v)) := p_D hk rfl
  exact (show ∃ v' i' k' r' n f, vD v :: vI x :: vR kk :: r = vD v' :: vI i' :: vR k' :: r' ∧ pm_get (pW s) k' = some (.inl (.double, n, .inr (.inr (.inr (.inl f))))) ∧ n ≤ 1000 ∧ 0 ≤ i' ∧ i' < n ∧ X ls r' (pc + 1) (pm_set (pW s) k' (.inl (.double, n, .inr (.inr (.inr (.inl (pm_up f i'.toNat v'))))))) from ⟨v, x, kk, r, 1, sD s, rfl, (pW_get s hk).trans (congrArg some (arr_double (i := 0) (rfl : aty 701 = (5, 1)))), (by decide), hb.1, hb.2, hs ▸ k⟩)
theorem r_iretI {x : Int} (hX : pm_clo L xs C d M E X) (hat : pm_at M.code pc = some (q0, .ireturn, ln, a, b, c)) (hr : M.ret = some .int) (hE : E (.inl (some (vI x))) h) : X ls [vI x] pc h :=
  hX _ _ _ _ ⟨_, hat, (show ∃ x' r', [vI x] = vI x' :: r' ∧ (∃ t, M.ret = some t ∧ (t = .int ∨ (t = .boolean ∧ (x' = 0 ∨ x' = 1)) ∨ (t = .char ∧ 0 ≤ x' ∧ x' < 65536))) ∧ r' = [] ∧ E (.inl (some (vI x'))) h from ⟨x, [], rfl, ⟨_, hr, Or.inl rfl⟩, rfl, hE⟩)⟩
theorem r_iretZ {x : Int} (hX : pm_clo L xs C d M E X) (hat : pm_at M.code pc = some (q0, .ireturn, ln, a, b, c)) (hr : M.ret = some .boolean) (hx : x = 0 ∨ x = 1) (hE : E (.inl (some (vI x))) h) : X ls [vI x] pc h :=
  hX _ _ _ _ ⟨_, hat, (show ∃ x' r', [vI x] = vI x' :: r' ∧ (∃ t, M.ret = some t ∧ (t = .int ∨ (t = .boolean ∧ (x' = 0 ∨ x' = 1)) ∨ (t = .char ∧ 0 ≤ x' ∧ x' < 65536))) ∧ r' = [] ∧ E (.inl (some (vI x'))) h from ⟨x, [], rfl, ⟨_, hr, Or.inr (Or.inl ⟨rfl, hx⟩)⟩, rfl, hE⟩)⟩
theorem r_iretC {x : Int} (hX : pm_clo L xs C d M E X) (hat : pm_at M.code pc = some (q0, .ireturn, ln, a, b, c)) (hr : M.ret = some .char) (hx : 0 ≤ x ∧ x < 65536) (hE : E (.inl (some (vI x))) h) : X ls [vI x] pc h :=
  hX _ _ _ _ ⟨_, hat, (show ∃ x' r', [vI x] = vI x' :: r' ∧ (∃ t, M.ret = some t ∧ (t = .int ∨ (t = .boolean ∧ (x' = 0 ∨ x' = 1)) ∨ (t = .char ∧ 0 ≤ x' ∧ x' < 65536))) ∧ r' = [] ∧ E (.inl (some (vI x'))) h from ⟨x, [], rfl, ⟨_, hr, Or.inr (Or.inr ⟨rfl, hx⟩)⟩, rfl, hE⟩)⟩
theorem r_freturn {x : UInt32} (hX : pm_clo L xs C d M E X) (hat : pm_at M.code pc = some (q0, .freturn, ln, a, b, c)) (hr : M.ret = some .float) (hE : E (.inl (some (vF x))) h) : X ls [vF x] pc h :=
  hX _ _ _ _ ⟨_, hat, (show ∃ x' r', [vF x] = vF x' :: r' ∧ M.ret = some .float ∧ r' = [] ∧ E (.inl (some (vF x'))) h from ⟨x, [], rfl, hr, rfl, hE⟩)⟩
theorem r_lreturn {x : Int} (hX : pm_clo L xs C d M E X) (hat : pm_at M.code pc = some (q0, .lreturn, ln, a, b, c)) (hr : M.ret = some .long) (hE : E (.inl (some (vL x))) h) : X ls [vL x] pc h :=
  hX _ _ _ _ ⟨_, hat, (show ∃ x' r', [vL x] = vL x' :: r' ∧ M.ret = some .long ∧ r' = [] ∧ E (.inl (some (vL x'))) h from ⟨x, [], rfl, hr, rfl, hE⟩)⟩
theorem r_return (hX : pm_clo L xs C d M E X) (hat : pm_at M.code pc = some (q0, .return_, ln, a, b, c)) (hr : M.ret = none) (hE : E (.inl none) h) : X ls [] pc h :=
  hX _ _ _ _ ⟨_, hat, (show M.ret = none ∧ ([] : List pV) = [] ∧ E (.inl none) h from ⟨hr, rfl, hE⟩)⟩
theorem r_throw {y : Nat} (hX : pm_clo L xs C d M E X) (hat : pm_at M.code pc = some (q0, .new y, ln, a, b, 1)) (hd : 7 ≤ d) (hh : M.hs = []) (hE : E (.inr a) (h.1, h.2 + 1)) : X ls [] pc h :=
  hX _ _ _ _ ⟨_, hat, (show (1 = 0 → a < 7 ∧ X ls [vR h.1.length] (pc + 3) (pm_push h (.inr (a, pm_new a)))) ∧ (1 = 1 → 7 ≤ d ∧ M.hs = [] ∧ ([] : List pV) = [] ∧ E (.inr a) (h.1, h.2 + 1)) ∧ 1 < 2 from ⟨fun hq => absurd hq (by decide), fun _ => ⟨hd, hh, rfl, hE⟩, by decide⟩)⟩
/-- a virtual call that answers -/
theorem r_callv {y i kk : Nat} {s : pS} {h2 : pH} {as st st2 : List pV} {v : Option pV} (hX : pm_clo L xs C d M E X) (hat : pm_at M.code pc = some (q0, .invokevirtual y, ln, a, b, 0)) (hp : pc + 3 = p2) (has : st = as.reverse ++ vR kk :: r) (hl : as.length = b % 8) (hb : Nat.ble (b / 8 + 1) 7 = true) (hk : shpL[kk]? = some (0, b / 8, i)) (hr : Nat.ble r.length 4 = true) (hst : v.toList ++ r = st2) (hc : C a (vR kk :: as) (pW s) (.inl v) h2) (k : X ls st2 p2 h2) : X ls st pc (pW s) := by
  subst hp; subst hst
  refine hX _ _ _ _ ⟨_, hat, ?_⟩
  refine (show (0 = 0 → ∃ as k r fs, st = as.reverse ++ vR k :: r ∧ as.length = b % 8 ∧ b / 8 < 7 ∧ pm_get (pW s) k = some (.inr (b / 8, fs)) ∧ r.length ≤ 4 ∧ ∃ o h', C a (vR k :: as) (pW s) o h' ∧ pm_back M ls pc X o r h') ∧ (0 = 1 → ∃ i r, st = vX (3 + i) :: r ∧ r.length ≤ 4 ∧ i < 13 ∧ 4 ≤ d ∧ X ls (vI (pm_tx i).length :: r) (pc + 3) (pW s)) ∧ (0 = 2 → ∃ i j r x, st = vI j :: vX (3 + i) :: r ∧ r.length ≤ 4 ∧ i < 13 ∧ 4 ≤ d ∧ 0 ≤ j ∧ (pm_tx i)[j.toNat]? = some x ∧ X ls (vI x :: r) (pc + 3) (pW s)) ∧ 0 < 3 from ⟨fun _ => ?_, fun hq => absurd hq (by decide), fun hq => absurd hq (by decide), by decide⟩)
  exact ⟨as, kk, r, _, has, hl, Nat.le_of_ble_eq_true hb, pW_get s hk, Nat.le_of_ble_eq_true hr, .inl v, h2, hc, k⟩
/-- a virtual call that throws, and a handler -/
theorem r_callt {y i kk e : Nat} {s : pS} {h2 : pH} {as st : List pV} {q : Nat × Nat × Nat × Nat × Nat} (hX : pm_clo L xs C d M E X) (hat : pm_at M.code pc = some (q0, .invokevirtual y, ln, a, b, 0)) (has : st = as.reverse ++ vR kk :: r) (hl : as.length = b % 8) (hb : Nat.ble (b / 8 + 1) 7 = true) (hk : shpL[kk]? = some (0, b / 8, i)) (hr : Nat.ble r.length 4 = true) (hc : C a (vR kk :: as) (pW s) (.inr e) h2) (hq : M.hs.find? (fun q => decide (q.1 ≤ pc) && decide (pc < q.2.1) && decide (q.2.2.2.2 = e)) = some q) (ht : q.2.2.1 = p2) (k : X ls [vX 1] p2 h2) : X ls st pc (pW s) := by
  subst ht
  refine hX _ _ _ _ ⟨_, hat, ?_⟩
  refine (show (0 = 0 → ∃ as k r fs, st = as.reverse ++ vR k :: r ∧ as.length = b % 8 ∧ b / 8 < 7 ∧ pm_get (pW s) k = some (.inr (b / 8, fs)) ∧ r.length ≤ 4 ∧ ∃ o h', C a (vR k :: as) (pW s) o h' ∧ pm_back M ls pc X o r h') ∧ (0 = 1 → ∃ i r, st = vX (3 + i) :: r ∧ r.length ≤ 4 ∧ i < 13 ∧ 4 ≤ d ∧ X ls (vI (pm_tx i).length :: r) (pc + 3) (pW s)) ∧ (0 = 2 → ∃ i j r x, st = vI j :: vX (3 + i) :: r ∧ r.length ≤ 4 ∧ i < 13 ∧ 4 ≤ d ∧ 0 ≤ j ∧ (pm_tx i)[j.toNat]? = some x ∧ X ls (vI x :: r) (pc + 3) (pW s)) ∧ 0 < 3 from ⟨fun _ => ?_, fun hq => absurd hq (by decide), fun hq => absurd hq (by decide), by decide⟩)
  exact ⟨as, kk, r, _, has, hl, Nat.le_of_ble_eq_true hb, pW_get s hk, Nat.le_of_ble_eq_true hr, .inr e, h2, hc, q, hq, k⟩
theorem r_slen {y i : Nat} (hX : pm_clo L xs C d M E X) (hat : pm_at M.code pc = some (q0, .invokevirtual y, ln, a, b, 1)) (hp : pc + 3 = p2) (hr : Nat.ble r.length 4 = true) (hi : i < 13) (hd : 4 ≤ d) (k : X ls (vI ((pm_tx i).length : Int) :: r) p2 h) : X ls (vX (3 + i) :: r) pc h := by
  subst hp
  refine hX _ _ _ _ ⟨_, hat, ?_⟩
  refine (show (1 = 0 → ∃ as k r2 fs, vX (3 + i) :: r = as.reverse ++ vR k :: r2 ∧ as.length = b % 8 ∧ b / 8 < 7 ∧ pm_get h k = some (.inr (b / 8, fs)) ∧ r2.length ≤ 4 ∧ ∃ o h', C a (vR k :: as) h o h' ∧ pm_back M ls pc X o r2 h') ∧ (1 = 1 → ∃ i2 r2, vX (3 + i) :: r = vX (3 + i2) :: r2 ∧ r2.length ≤ 4 ∧ i2 < 13 ∧ 4 ≤ d ∧ X ls (vI (pm_tx i2).length :: r2) (pc + 3) h) ∧ (1 = 2 → ∃ i2 j r2 x, vX (3 + i) :: r = vI j :: vX (3 + i2) :: r2 ∧ r2.length ≤ 4 ∧ i2 < 13 ∧ 4 ≤ d ∧ 0 ≤ j ∧ (pm_tx i2)[j.toNat]? = some x ∧ X ls (vI x :: r2) (pc + 3) h) ∧ 1 < 3 from ⟨fun hq => absurd hq (by decide), fun _ => ?_, fun hq => absurd hq (by decide), by decide⟩)
  exact ⟨i, r, rfl, Nat.le_of_ble_eq_true hr, hi, hd, k⟩
theorem r_schar {y i : Nat} {j x : Int} (hX : pm_clo L xs C d M E X) (hat : pm_at M.code pc = some (q0, .invokevirtual y, ln, a, b, 2)) (hp : pc + 3 = p2) (hr : Nat.ble r.length 4 = true) (hi : i < 13) (hd : 4 ≤ d) (hj : 0 ≤ j) (hx : (pm_tx i)[j.toNat]? = some x) (k : X ls (vI x :: r) p2 h) : X ls (vI j :: vX (3 + i) :: r) pc h := by
  subst hp
  refine hX _ _ _ _ ⟨_, hat, ?_⟩
  refine (show (2 = 0 → ∃ as k r2 fs, vI j :: vX (3 + i) :: r = as.reverse ++ vR k :: r2 ∧ as.length = b % 8 ∧ b / 8 < 7 ∧ pm_get h k = some (.inr (b / 8, fs)) ∧ r2.length ≤ 4 ∧ ∃ o h', C a (vR k :: as) h o h' ∧ pm_back M ls pc X o r2 h') ∧ (2 = 1 → ∃ i2 r2, vI j :: vX (3 + i) :: r = vX (3 + i2) :: r2 ∧ r2.length ≤ 4 ∧ i2 < 13 ∧ 4 ≤ d ∧ X ls (vI (pm_tx i2).length :: r2) (pc + 3) h) ∧ (2 = 2 → ∃ i2 j2 r2 x, vI j :: vX (3 + i) :: r = vI j2 :: vX (3 + i2) :: r2 ∧ r2.length ≤ 4 ∧ i2 < 13 ∧ 4 ≤ d ∧ 0 ≤ j2 ∧ (pm_tx i2)[j2.toNat]? = some x ∧ X ls (vI x :: r2) (pc + 3) h) ∧ 2 < 3 from ⟨fun hq => absurd hq (by decide), fun hq => absurd hq (by decide), fun _ => ?_, by decide⟩)
  exact ⟨i, j, r, x, rfl, Nat.le_of_ble_eq_true hr, hi, hd, hj, hx, k⟩
theorem r_calls0 {y : Nat} {h2 : pH} {as st st2 : List pV} {v : Option pV} (hX : pm_clo L xs C d M E X) (hat : pm_at M.code pc = some (q0, .invokestatic y, ln, a, b, 0)) (hp : pc + 3 = p2) (has : st = as.reverse ++ r) (hl : as.length = b) (hr : Nat.ble r.length 4 = true) (hst : v.toList ++ r = st2) (hc : C a as h (.inl v) h2) (k : X ls st2 p2 h2) : X ls st pc h := by
  subst hp; subst hst
  refine hX _ _ _ _ ⟨_, hat, ?_⟩
  refine (show ((0 = 0 ∨ 4 ≤ 0) → ∃ as r2, st = as.reverse ++ r2 ∧ as.length = b ∧ r2.length ≤ 4 ∧ ∃ v h', C a as h (.inl v) h' ∧ X ls (v.toList ++ r2) (pc + 3) h')
      ∧ (0 = 1 → ∃ x8 y8 r2, st = vI y8 :: vI x8 :: r2 ∧ r2.length ≤ 4 ∧ 1 ≤ d ∧ X ls (vI (if x8 < y8 then y8 else x8) :: r2) (pc + 3) h)
      ∧ (0 = 2 → ∃ k8 k9 n8 f8 n9 g8, st = [vI n8, vI 0, vR k9, vI 0, vR k8] ∧ 1 ≤ d ∧ 0 ≤ n8 ∧ pm_get h k8 = some (.inl (.int, n8.toNat, .inl f8)) ∧ pm_get h k9 = some (.inl (.int, n9, .inl g8)) ∧ n8.toNat ≤ n9 ∧ n9 ≤ 1000 ∧ X ls [] (pc + 3) (pm_set h k9 (.inl (.int, n9, .inl (fun j => if j < n8.toNat then f8 j else g8 j)))))
      ∧ (0 = 3 → ∃ k8 k9 n8 f8 n9 g8, st = [vI n8, vI 0, vR k9, vI 0, vR k8] ∧ 1 ≤ d ∧ 0 ≤ n8 ∧ pm_get h k8 = some (.inl (.float, n8.toNat, .inr (.inr (.inl f8)))) ∧ pm_get h k9 = some (.inl (.float, n9, .inr (.inr (.inl g8)))) ∧ n8.toNat ≤ n9 ∧ n9 ≤ 1000 ∧ X ls [] (pc + 3) (pm_set h k9 (.inl (.float, n9, .inr (.inr (.inl (fun j => if j < n8.toNat then f8 j else g8 j))))))) ∧ 0 < 6 from ⟨fun _ => ?_, fun hq => absurd hq (by decide), fun hq => absurd hq (by decide), fun hq => absurd hq (by decide), by decide⟩)
  exact ⟨as, r, has, hl, Nat.le_of_ble_eq_true hr, v, h2, hc, k⟩
theorem r_calls4 {y : Nat} {h2 : pH} {as st st2 : List pV} {v : Option pV} (hX : pm_clo L xs C d M E X) (hat : pm_at M.code pc = some (q0, .invokestatic y, ln, a, b, 4)) (hp : pc + 3 = p2) (has : st = as.reverse ++ r) (hl : as.length = b) (hr : Nat.ble r.length 4 = true) (hst : v.toList ++ r = st2) (hc : C a as h (.inl v) h2) (k : X ls st2 p2 h2) : X ls st pc h := by
  subst hp; subst hst
  refine hX _ _ _ _ ⟨_, hat, ?_⟩
  refine (show ((4 = 0 ∨ 4 ≤ 4) → ∃ as r2, st = as.reverse ++ r2 ∧ as.length = b ∧ r2.length ≤ 4 ∧ ∃ v h', C a as h (.inl v) h' ∧ X ls (v.toList ++ r2) (pc + 3) h')
      ∧ (4 = 1 → ∃ x8 y8 r2, st = vI y8 :: vI x8 :: r2 ∧ r2.length ≤ 4 ∧ 1 ≤ d ∧ X ls (vI (if x8 < y8 then y8 else x8) :: r2) (pc + 3) h)
      ∧ (4 = 2 → ∃ k8 k9 n8 f8 n9 g8, st = [vI n8, vI 0, vR k9, vI 0, vR k8] ∧ 1 ≤ d ∧ 0 ≤ n8 ∧ pm_get h k8 = some (.inl (.int, n8.toNat, .inl f8)) ∧ pm_get h k9 = some (.inl (.int, n9, .inl g8)) ∧ n8.toNat ≤ n9 ∧ n9 ≤ 1000 ∧ X ls [] (pc + 3) (pm_set h k9 (.inl (.int, n9, .inl (fun j => if j < n8.toNat then f8 j else g8 j)))))
      ∧ (4 = 3 → ∃ k8 k9 n8 f8 n9 g8, st = [vI n8, vI 0, vR k9, vI 0, vR k8] ∧ 1 ≤ d ∧ 0 ≤ n8 ∧ pm_get h k8 = some (.inl (.float, n8.toNat, .inr (.inr (.inl f8)))) ∧ pm_get h k9 = some (.inl (.float, n9, .inr (.inr (.inl g8)))) ∧ n8.toNat ≤ n9 ∧ n9 ≤ 1000 ∧ X ls [] (pc + 3) (pm_set h k9 (.inl (.float, n9, .inr (.inr (.inl (fun j => if j < n8.toNat then f8 j else g8 j))))))) ∧ 4 < 6 from ⟨fun _ => ?_, fun hq => absurd hq (by decide), fun hq => absurd hq (by decide), fun hq => absurd hq (by decide), by decide⟩)
  exact ⟨as, r, has, hl, Nat.le_of_ble_eq_true hr, v, h2, hc, k⟩
theorem r_calls5 {y : Nat} {h2 : pH} {as st st2 : List pV} {v : Option pV} (hX : pm_clo L xs C d M E X) (hat : pm_at M.code pc = some (q0, .invokestatic y, ln, a, b, 5)) (hp : pc + 3 = p2) (has : st = as.reverse ++ r) (hl : as.length = b) (hr : Nat.ble r.length 4 = true) (hst : v.toList ++ r = st2) (hc : C a as h (.inl v) h2) (k : X ls st2 p2 h2) : X ls st pc h := by
  subst hp; subst hst
  refine hX _ _ _ _ ⟨_, hat, ?_⟩
  refine (show ((5 = 0 ∨ 4 ≤ 5) → ∃ as r2, st = as.reverse ++ r2 ∧ as.length = b ∧ r2.length ≤ 4 ∧ ∃ v h', C a as h (.inl v) h' ∧ X ls (v.toList ++ r2) (pc + 3) h')
      ∧ (5 = 1 → ∃ x8 y8 r2, st = vI y8 :: vI x8 :: r2 ∧ r2.length ≤ 4 ∧ 1 ≤ d ∧ X ls (vI (if x8 < y8 then y8 else x8) :: r2) (pc + 3) h)
      ∧ (5 = 2 → ∃ k8 k9 n8 f8 n9 g8, st = [vI n8, vI 0, vR k9, vI 0, vR k8] ∧ 1 ≤ d ∧ 0 ≤ n8 ∧ pm_get h k8 = some (.inl (.int, n8.toNat, .inl f8)) ∧ pm_get h k9 = some (.inl (.int, n9, .inl g8)) ∧ n8.toNat ≤ n9 ∧ n9 ≤ 1000 ∧ X ls [] (pc + 3) (pm_set h k9 (.inl (.int, n9, .inl (fun j => if j < n8.toNat then f8 j else g8 j)))))
      ∧ (5 = 3 → ∃ k8 k9 n8 f8 n9 g8, st = [vI n8, vI 0, vR k9, vI 0, vR k8] ∧ 1 ≤ d ∧ 0 ≤ n8 ∧ pm_get h k8 = some (.inl (.float, n8.toNat, .inr (.inr (.inl f8)))) ∧ pm_get h k9 = some (.inl (.float, n9, .inr (.inr (.inl g8)))) ∧ n8.toNat ≤ n9 ∧ n9 ≤ 1000 ∧ X ls [] (pc + 3) (pm_set h k9 (.inl (.float, n9, .inr (.inr (.inl (fun j => if j < n8.toNat then f8 j else g8 j))))))) ∧ 5 < 6 from ⟨fun _ => ?_, fun hq => absurd hq (by decide), fun hq => absurd hq (by decide), fun hq => absurd hq (by decide), by decide⟩)
  exact ⟨as, r, has, hl, Nat.le_of_ble_eq_true hr, v, h2, hc, k⟩
theorem r_max {y0 : Nat} {x y : Int} (hX : pm_clo L xs C d M E X) (hat : pm_at M.code pc = some (q0, .invokestatic y0, ln, a, b, 1)) (hp : pc + 3 = p2) (hr : Nat.ble r.length 4 = true) (hd : 1 ≤ d) (k : X ls (vI (if x < y then y else x) :: r) p2 h) : X ls (vI y :: vI x :: r) pc h := by
  subst hp
  refine hX _ _ _ _ ⟨_, hat, ?_⟩
  refine (show ((1 = 0 ∨ 4 ≤ 1) → ∃ as r2, (vI y :: vI x :: r) = as.reverse ++ r2 ∧ as.length = b ∧ r2.length ≤ 4 ∧ ∃ v h', C a as h (.inl v) h' ∧ X ls (v.toList ++ r2) (pc + 3) h')
      ∧ (1 = 1 → ∃ x8 y8 r2, (vI y :: vI x :: r) = vI y8 :: vI x8 :: r2 ∧ r2.length ≤ 4 ∧ 1 ≤ d ∧ X ls (vI (if x8 < y8 then y8 else x8) :: r2) (pc + 3) h)
      ∧ (1 = 2 → ∃ k8 k9 n8 f8 n9 g8, (vI y :: vI x :: r) = [vI n8, vI 0, vR k9, vI 0, vR k8] ∧ 1 ≤ d ∧ 0 ≤ n8 ∧ pm_get h k8 = some (.inl (.int, n8.toNat, .inl f8)) ∧ pm_get h k9 = some (.inl (.int, n9, .inl g8)) ∧ n8.toNat ≤ n9 ∧ n9 ≤ 1000 ∧ X ls [] (pc + 3) (pm_set h k9 (.inl (.int, n9, .inl (fun j => if j < n8.toNat then f8 j else g8 j)))))
      ∧ (1 = 3 → ∃ k8 k9 n8 f8 n9 g8, (vI y :: vI x :: r) = [vI n8, vI 0, vR k9, vI 0, vR k8] ∧ 1 ≤ d ∧ 0 ≤ n8 ∧ pm_get h k8 = some (.inl (.float, n8.toNat, .inr (.inr (.inl f8)))) ∧ pm_get h k9 = some (.inl (.float, n9, .inr (.inr (.inl g8)))) ∧ n8.toNat ≤ n9 ∧ n9 ≤ 1000 ∧ X ls [] (pc + 3) (pm_set h k9 (.inl (.float, n9, .inr (.inr (.inl (fun j => if j < n8.toNat then f8 j else g8 j))))))) ∧ 1 < 6 from ⟨fun hq => absurd hq (by decide), fun _ => ?_, fun hq => absurd hq (by decide), fun hq => absurd hq (by decide), by decide⟩)
  exact ⟨x, y, r, rfl, Nat.le_of_ble_eq_true hr, hd, k⟩
theorem r_copyI {y0 f i f2 i2 k0 k1 n : Nat} {s s2 : pS} {x : Int} (hX : pm_clo L xs C d M E X) (hat : pm_at M.code pc = some (q0, .invokestatic y0, ln, a, b, 2)) (hp : pc + 3 = p2) (hd : 1 ≤ d) (h0 : shpL[k0]? = some (1, f, i)) (h1 : shpL[k1]? = some (1, f2, i2)) (ht : aty f = (0, n)) (ht2 : aty f2 = (0, n)) (hn : Nat.ble n 1000 = true) (hx : (n : Int) = x) (he : s2 = wA s f2 i2 (fun j => if j < n then sA s f i j else sA s f2 i2 j)) (k : X ls [] p2 (pW s2)) : X ls [vI x, vI 0, vR k1, vI 0, vR k0] pc (pW s) := by
  subst hp; subst he; subst hx
  refine hX _ _ _ _ ⟨_, hat, ?_⟩
  refine (show ((2 = 0 ∨ 4 ≤ 2) → ∃ as r2, [vI (n : Int), vI 0, vR k1, vI 0, vR k0] = as.reverse ++ r2 ∧ as.length = b ∧ r2.length ≤ 4 ∧ ∃ v h', C a as (pW s) (.inl v) h' ∧ X ls (v.toList ++ r2) (pc + 3) h')
      ∧ (2 = 1 → ∃ x8 y8 r2, [vI (n : Int), vI 0, vR k1, vI 0, vR k0] = vI y8 :: vI x8 :: r2 ∧ r2.length ≤ 4 ∧ 1 ≤ d ∧ X ls (vI (if x8 < y8 then y8 else x8) :: r2) (pc + 3) (pW s))
      ∧ (2 = 2 → ∃ k8 k9 n8 f8 n9 g8, [vI (n : Int), vI 0, vR k1, vI 0, vR k0] = [vI n8, vI 0, vR k9, vI 0, vR k8] ∧ 1 ≤ d ∧ 0 ≤ n8 ∧ pm_get (pW s) k8 = some (.inl (.int, n8.toNat, .inl f8)) ∧ pm_get (pW s) k9 = some (.inl (.int, n9, .inl g8)) ∧ n8.toNat ≤ n9 ∧ n9 ≤ 1000 ∧ X ls [] (pc + 3) (pm_set (pW s) k9 (.inl (.int, n9, .inl (fun j => if j < n8.toNat then f8 j else g8 j)))))
      ∧ (2 = 3 → ∃ k8 k9 n8 f8 n9 g8, [vI (n : Int), vI 0, vR k1, vI 0, vR k0] = [vI n8, vI 0, vR k9, vI 0, vR k8] ∧ 1 ≤ d ∧ 0 ≤ n8 ∧ pm_get (pW s) k8 = some (.inl (.float, n8.toNat, .inr (.inr (.inl f8)))) ∧ pm_get (pW s) k9 = some (.inl (.float, n9, .inr (.inr (.inl g8)))) ∧ n8.toNat ≤ n9 ∧ n9 ≤ 1000 ∧ X ls [] (pc + 3) (pm_set (pW s) k9 (.inl (.float, n9, .inr (.inr (.inl (fun j => if j < n8.toNat then f8 j else g8 j))))))) ∧ 2 < 6 from ⟨fun hq => absurd hq (by decide), fun hq => absurd hq (by decide), fun _ => ?_, fun hq => absurd hq (by decide), by decide⟩)
  have hs : pm_set (pW s) k1 (.inl (.int, n, .inl (fun j => if j < (n : Int).toNat then sA s f i j else sA s f2 i2 j))) = pW (wA s f2 i2 (fun j => if j < n then sA s f i j else sA s f2 i2 j)) := by
    refine p_A h1 ?_
    rw [arr_int ht2, sA_wA, if_pos ⟨rfl, rfl⟩]
    rfl
  exact ⟨k0, k1, (n : Int), sA s f i, n, sA s f2 i2, rfl, hd, Int.natCast_nonneg _, (pW_get s h0).trans (congrArg some (arr_int ht)), (pW_get s h1).trans (congrArg some (arr_int ht2)), Nat.le_refl _, Nat.le_of_ble_eq_true hn, hs ▸ k⟩
theorem r_copyF {y0 f i f2 i2 k0 k1 n : Nat} {s s2 : pS} {x : Int} (hX : pm_clo L xs C d M E X) (hat : pm_at M.code pc = some (q0, .invokestatic y0, ln, a, b, 3)) (hp : pc + 3 = p2) (hd : 1 ≤ d) (h0 : shpL[k0]? = some (1, f, i)) (h1 : shpL[k1]? = some (1, f2, i2)) (ht : aty f = (3, n)) (ht2 : aty f2 = (3, n)) (hn : Nat.ble n 1000 = true) (hx : (n : Int) = x) (he : s2 = wB s f2 i2 (fun j => if j < n then sB s f i j else sB s f2 i2 j)) (k : X ls [] p2 (pW s2)) : X ls [vI x, vI 0, vR k1, vI 0, vR k0] pc (pW s) := by
  subst hp; subst he; subst hx
  refine hX _ _ _ _ ⟨_, hat, ?_⟩
  refine (show ((3 = 0 ∨ 4 ≤ 3) → ∃ as r2, [vI (n : Int), vI 0, vR k1, vI 0, vR k0] = as.reverse ++ r2 ∧ as.length = b ∧ r2.length ≤ 4 ∧ ∃ v h', C a as (pW s) (.inl v) h' ∧ X ls (v.toList ++ r2) (pc + 3) h')
      ∧ (3 = 1 → ∃ x8 y8 r2, [vI (n : Int), vI 0, vR k1, vI 0, vR k0] = vI y8 :: vI x8 :: r2 ∧ r2.length ≤ 4 ∧ 1 ≤ d ∧ X ls (vI (if x8 < y8 then y8 else x8) :: r2) (pc + 3) (pW s))
      ∧ (3 = 2 → ∃ k8 k9 n8 f8 n9 g8, [vI (n : Int), vI 0, vR k1, vI 0, vR k0] = [vI n8, vI 0, vR k9, vI 0, vR k8] ∧ 1 ≤ d ∧ 0 ≤ n8 ∧ pm_get (pW s) k8 = some (.inl (.int, n8.toNat, .inl f8)) ∧ pm_get (pW s) k9 = some (.inl (.int, n9, .inl g8)) ∧ n8.toNat ≤ n9 ∧ n9 ≤ 1000 ∧ X ls [] (pc + 3) (pm_set (pW s) k9 (.inl (.int, n9, .inl (fun j => if j < n8.toNat then f8 j else g8 j)))))
      ∧ (3 = 3 → ∃ k8 k9 n8 f8 n9 g8, [vI (n : Int), vI 0, vR k1, vI 0, vR k0] = [vI n8, vI 0, vR k9, vI 0, vR k8] ∧ 1 ≤ d ∧ 0 ≤ n8 ∧ pm_get (pW s) k8 = some (.inl (.float, n8.toNat, .inr (.inr (.inl f8)))) ∧ pm_get (pW s) k9 = some (.inl (.float, n9, .inr (.inr (.inl g8)))) ∧ n8.toNat ≤ n9 ∧ n9 ≤ 1000 ∧ X ls [] (pc + 3) (pm_set (pW s) k9 (.inl (.float, n9, .inr (.inr (.inl (fun j => if j < n8.toNat then f8 j else g8 j))))))) ∧ 3 < 6 from ⟨fun hq => absurd hq (by decide), fun hq => absurd hq (by decide), fun hq => absurd hq (by decide), fun _ => ?_, by decide⟩)
  have hs : pm_set (pW s) k1 (.inl (.float, n, .inr (.inr (.inl (fun j => if j < (n : Int).toNat then sB s f i j else sB s f2 i2 j))))) = pW (wB s f2 i2 (fun j => if j < n then sB s f i j else sB s f2 i2 j)) := by
    refine p_B h1 ?_
    rw [arr_float ht2, sB_wB, if_pos ⟨rfl, rfl⟩]
    rfl
  exact ⟨k0, k1, (n : Int), sB s f i, n, sB s f2 i2, rfl, hd, Int.natCast_nonneg _, (pW_get s h0).trans (congrArg some (arr_float ht)), (pW_get s h1).trans (congrArg some (arr_float ht2)), Nat.le_refl _, Nat.le_of_ble_eq_true hn, hs ▸ k⟩
theorem pCall_of {xs : Nat → Int} {d μ : Nat} {as : List pV} {h h' : pH} {o : pO} (M : pM) (h1 : pm_P[μ]? = some M) (h2 : Nat.ble (pm_args as).length M.maxL = true) (h3 : ∀ X, pm_clo 1001 xs (pCall pm_tx 1001 xs pm_P d) d M (fun o2 h2 => o2 = o ∧ h2 = h') X → X (pm_entry M.maxL as) [] 0 h) : pCall pm_tx 1001 xs pm_P (d + 1) μ as h o h' :=
  ⟨M, h1, Nat.le_of_ble_eq_true h2, fun X hX => h3 X hX⟩
end
