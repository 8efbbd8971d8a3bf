/-! ===== LOOPS, ARRAYS, SUMS ===== -/
theorem itJ {σ ρ : Type} (F : Nat → Nat → σ → Option ρ) (J : Nat → σ → Prop) (c : Nat) (P : ρ → Prop)
    (hstep : ∀ n k u, k < c → J k u → (∀ u', J (k + 1) u' → ok (F n (k + 1) u') P) → ok (F (n + 1) k u) P)
    (hend : ∀ n u, J c u → ok (F (n + 1) c u) P) : ∀ n k u, k ≤ c → c < n + k → J k u → ok (F n k u) P
  | 0, k, u, h1, h2, _ => by omega
  | n + 1, k, u, h1, h2, h3 => by
    by_cases h : k = c
    · subst h; exact hend n u h3
    · exact hstep n k u (by omega) h3 (fun u' hu' => itJ F J c P hstep hend n (k + 1) u' (by omega) (by omega) hu')
theorem itS {ρ : Type} (F : Nat → Nat → Option ρ) (c : Nat) (P : ρ → Prop)
    (hstep : ∀ n k, k < c → ok (F n (k + 1)) P → ok (F (n + 1) k) P)
    (hend : ∀ n, ok (F (n + 1) c) P) : ∀ n k, k ≤ c → c < n + k → ok (F n k) P
  | 0, k, h1, h2 => by omega
  | n + 1, k, h1, h2 => by
    by_cases h : k = c
    · subst h; exact hend n
    · exact hstep n k (by omega) (itS F c P hstep hend n (k + 1) (by omega) (by omega))
theorem up2_up2 {α : Type} (g : Nat → Nat → α) (f i : Nat) (v w : α) : up2 (up2 g f i v) f i w = up2 g f i w := by
  funext a b
  unfold up2
  split <;> rfl
theorem up2_self {α : Type} (g : Nat → Nat → α) (f i : Nat) : up2 g f i (g f i) = g := by
  funext a b
  unfold up2
  split
  · rename_i h; rw [h.1, h.2]
  · rfl
theorem up2_comm {α : Type} (g : Nat → Nat → α) {f f' i i' : Nat} (v w : α) (h : f ≠ f') : up2 (up2 g f i v) f' i' w = up2 (up2 g f' i' w) f i v := by
  funext a b
  unfold up2
  by_cases h1 : a = f' ∧ b = i'
  · rw [if_pos h1, if_neg (by omega), if_pos h1]
  · rw [if_neg h1]
    by_cases h2 : a = f ∧ b = i
    · rw [if_pos h2, if_pos h2]
    · rw [if_neg h2, if_neg h2, if_neg h1]
theorem wI_wI (s : pS) (f i : Nat) (v w : Int) : wI (wI s f i v) f i w = wI s f i w := by
  unfold wI; rw [up2_up2]
theorem wF_wF (s : pS) (f i : Nat) (v w : UInt32) : wF (wF s f i v) f i w = wF s f i w := by
  unfold wF; rw [up2_up2]
theorem wA_wA (s : pS) (f i : Nat) (v w : Nat → Int) : wA (wA s f i v) f i w = wA s f i w := by
  unfold wA; rw [up2_up2]
theorem wB_wB (s : pS) (f i : Nat) (v w : Nat → UInt32) : wB (wB s f i v) f i w = wB s f i w := by
  unfold wB; rw [up2_up2]
theorem wI_self (s : pS) (f i : Nat) : wI s f i (sI s f i) = s := by
  unfold wI sI; rw [up2_self]
theorem wF_self (s : pS) (f i : Nat) : wF s f i (sF s f i) = s := by
  unfold wF sF; rw [up2_self]
theorem wA_self (s : pS) (f i : Nat) : wA s f i (sA s f i) = s := by
  unfold wA sA; rw [up2_self]
theorem wB_self (s : pS) (f i : Nat) : wB s f i (sB s f i) = s := by
  unfold wB sB; rw [up2_self]
theorem wA_comm (s : pS) {f f' i i' : Nat} (v w : Nat → Int) (h : f ≠ f') : wA (wA s f i v) f' i' w = wA (wA s f' i' w) f i v := by
  unfold wA; rw [up2_comm _ _ _ h]
theorem wB_comm (s : pS) {f f' i i' : Nat} (v w : Nat → UInt32) (h : f ≠ f') : wB (wB s f i v) f' i' w = wB (wB s f' i' w) f i v := by
  unfold wB; rw [up2_comm _ _ _ h]
theorem up_self {α : Type} (f : Nat → α) (k : Nat) : pm_up f k (f k) = f := by
  funext j
  unfold pm_up
  split
  · rename_i h; rw [h]
  · rfl
theorem up_self' {α : Type} {f : Nat → α} {k : Nat} {v : α} (h : v = f k) : pm_up f k v = f := by rw [h, up_self]
/-- the first k of the places e are new -/
def flE {α : Type} (e : Nat → Nat) (new old : Nat → α) : Nat → Nat → α
  | 0 => old
  | k + 1 => pm_up (flE e new old k) (e k) (new k)
theorem flE_not {α : Type} {e : Nat → Nat} {new old : Nat → α} {q : Nat} : ∀ {k : Nat}, (∀ t, t < k → q ≠ e t) → flE e new old k q = old q
  | 0, _ => rfl
  | k + 1, h => by
    show pm_up (flE e new old k) (e k) (new k) q = old q
    rw [up_ne _ _ (h k (by omega))]
    exact flE_not (fun t ht => h t (by omega))
theorem flE_at {α : Type} {e : Nat → Nat} {new old : Nat → α} (he : ∀ i j, e i = e j → i = j) {t : Nat} : ∀ {k : Nat}, t < k → flE e new old k (e t) = new t
  | 0, h => by omega
  | k + 1, h => by
    show pm_up (flE e new old k) (e k) (new k) (e t) = new t
    by_cases hk : t = k
    · rw [hk, up_eq]
    · rw [up_ne _ _ (fun he' => hk (he _ _ he'))]
      exact flE_at he (by omega)
/-- a slice of twelve of the axis a -/
def pt {α : Type} (a : Nat) (old v : Nat → α) : Nat → α := fun q => if 12 * a ≤ q ∧ q < 12 * a + 12 then v (q - 12 * a) else old q
theorem pt_at {α : Type} {a t : Nat} {old v : Nat → α} (h : t < 12) : pt a old v (12 * a + t) = v t := by
  unfold pt
  rw [if_pos (by omega), show 12 * a + t - 12 * a = t by omega]
theorem pt_up {α : Type} {a t : Nat} {old v : Nat → α} {x : α} (h : t < 12) : pm_up (pt a old v) (12 * a + t) x = pt a old (pm_up v t x) := by
  funext q
  unfold pt pm_up
  by_cases hq : q = 12 * a + t
  · rw [if_pos hq, if_pos (by omega), if_pos (by omega)]
  · rw [if_neg hq]
    show (if 12 * a ≤ q ∧ q < 12 * a + 12 then v (q - 12 * a) else old q) = _
    split
    · rw [if_neg (by omega)]
    · rfl
theorem pt_self {α : Type} (a : Nat) (old : Nat → α) : pt a old (fun t => old (12 * a + t)) = old := by
  funext q
  unfold pt
  split
  · show old (12 * a + (q - 12 * a)) = old q
    rw [show 12 * a + (q - 12 * a) = q by omega]
  · rfl
theorem pt_pt {α : Type} (a : Nat) (old v w : Nat → α) : pt a (pt a old v) w = pt a old w := by
  funext q
  unfold pt
  split <;> rfl
theorem pt_other {α : Type} {a c t : Nat} {old v : Nat → α} (h : t < 12) (hc : c ≠ a) : pt a old v (12 * c + t) = old (12 * c + t) := by
  unfold pt
  rw [if_neg (by omega)]
theorem nnat (k : Nat) : ((k : Int)).toNat = k := Int.toNat_natCast k
theorem i12 (a t : Nat) : (12 * (a : Int) + (t : Int)).toNat = 12 * a + t := by omega
theorem i2 (j a : Nat) : (2 * (j : Int) + (a : Int)).toNat = 2 * j + a := by omega
/-- less b 0, then less b 1 .. -/
def subs (x : UInt32) (b : Nat → UInt32) : Nat → UInt32
  | 0 => x
  | n + 1 => FP.fsub (subs x b n) (b n)
theorem subs_congr {x : UInt32} {b b' : Nat → UInt32} : ∀ {n : Nat}, (∀ t, t < n → b t = b' t) → subs x b n = subs x b' n
  | 0, _ => rfl
  | n + 1, h => by
    show FP.fsub (subs x b n) (b n) = FP.fsub (subs x b' n) (b' n)
    rw [subs_congr (n := n) (fun t ht => h t (by omega)), h n (by omega)]
theorem subs_fb {m : Nat} {x : UInt32} {b : Nat → UInt32} (hx : fb m x) : ∀ {n : Nat}, (∀ t, t < n → fb m (b t)) → m + n ≤ 127 → fb (m + n) (subs x b n)
  | 0, _, _ => hx
  | n + 1, hb, hm => by
    have h := subs_fb hx (n := n) (fun t ht => hb t (by omega)) (by omega)
    exact fb_sub (m := m + n) h (fb_le (hb n (by omega)) (by omega)) (by omega)
theorem subs_le {m : Nat} {x : UInt32} {b : Nat → UInt32} (hx : fb m x) : ∀ {n : Nat}, (∀ t, t < n → fb m (b t) ∧ nn (b t)) → m + n ≤ 127 → fk (subs x b n) ≤ fk x
  | 0, _, _ => Int.le_refl _
  | n + 1, hb, hm => by
    have h := subs_fb hx (n := n) (fun t ht => (hb t (by omega)).1) (by omega)
    have h2 := subs_le hx (n := n) (fun t ht => hb t (by omega)) (by omega)
    exact Int.le_trans (sub_le h (fb_le (hb n (by omega)).1 (by omega)) (by omega) (hb n (by omega)).2) h2
/-- what is positive and no more than x is no greater in magnitude -/
theorem pos_fb {m : Nat} {x y : UInt32} (hx : fb m x) (hn : nn x) (h0 : 0 < fk y) (h : fk y ≤ fk x) : fb m y ∧ nn y := by
  have hy := fk_pos_nn h0
  rw [fk_nn hy, fk_nn hn] at h
  unfold fb at *
  unfold nn at *
  omega
def adds (x : UInt32) (b : Nat → UInt32) : Nat → UInt32
  | 0 => x
  | n + 1 => FP.fadd (adds x b n) (b n)
theorem adds_congr {x : UInt32} {b b' : Nat → UInt32} : ∀ {n : Nat}, (∀ t, t < n → b t = b' t) → adds x b n = adds x b' n
  | 0, _ => rfl
  | n + 1, h => by
    show FP.fadd (adds x b n) (b n) = FP.fadd (adds x b' n) (b' n)
    rw [adds_congr (n := n) (fun t ht => h t (by omega)), h n (by omega)]
theorem adds_fb {m : Nat} {x : UInt32} {b : Nat → UInt32} (hx : fb m x) : ∀ {n : Nat}, (∀ t, t < n → fb m (b t)) → m + n ≤ 127 → fb (m + n) (adds x b n)
  | 0, _, _ => hx
  | n + 1, hb, hm => by
    have h := adds_fb hx (n := n) (fun t ht => hb t (by omega)) (by omega)
    exact fb_add (m := m + n) h (fb_le (hb n (by omega)) (by omega)) (by omega)
theorem adds_nn {m : Nat} {x : UInt32} {b : Nat → UInt32} (hx : fb m x) (hxn : nn x) : ∀ {n : Nat}, (∀ t, t < n → fb m (b t) ∧ nn (b t)) → m + n ≤ 127 → nn (adds x b n)
  | 0, _, _ => hxn
  | n + 1, hb, hm => by
    have h := adds_fb hx (n := n) (fun t ht => (hb t (by omega)).1) (by omega)
    have h2 := adds_nn hx hxn (n := n) (fun t ht => hb t (by omega)) (by omega)
    exact nn_add h (fb_le (hb n (by omega)).1 (by omega)) (by omega) h2 (hb n (by omega)).2
