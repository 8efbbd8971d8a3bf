/-! ===== RULES FOR RESULTS, AND THE INVARIANT ===== -/
def ok {α : Type} (o : Option α) (P : α → Prop) : Prop := ∃ q, o = some q ∧ P q
theorem ok_some {α : Type} {q : α} {P : α → Prop} (h : P q) : ok (some q) P := ⟨q, rfl, h⟩
theorem ok_ck {ρ : Type} {p : Prop} {k : Option ρ} {P : ρ → Prop} (hp : p) (h : ok k P) : ok (ck p k) P := by rw [ck_pos hp]; exact h
theorem ok_bs {σ ρ : Type} {s : σ} {k : σ → Option ρ} {P : ρ → Prop} (h : ok (k s) P) : ok (bs s k) P := h
theorem ok_if {ρ : Type} {c : Prop} {dc : Decidable c} {a b : Option ρ} {P : ρ → Prop} (h1 : c → ok a P) (h2 : ¬ c → ok b P) : ok (@ite _ c dc a b) P := by
  by_cases hc : c
  · rw [if_pos hc]; exact h1 hc
  · rw [if_neg hc]; exact h2 hc
theorem ok_pos {ρ : Type} {c : Prop} {dc : Decidable c} {a b : Option ρ} {P : ρ → Prop} (hc : c) (h1 : ok a P) : ok (@ite _ c dc a b) P := by
  rw [if_pos hc]; exact h1
theorem ok_neg {ρ : Type} {c : Prop} {dc : Decidable c} {a b : Option ρ} {P : ρ → Prop} (hc : ¬ c) (h1 : ok b P) : ok (@ite _ c dc a b) P := by
  rw [if_neg hc]; exact h1
theorem ok_bind {α ρ : Type} {o : Option α} {k : α → Option ρ} {P : ρ → Prop} (h : ok o (fun q => ok (k q) P)) : ok (o.bind k) P := by
  obtain ⟨q, hq, q2, h2, h3⟩ := h
  exact ⟨q2, by rw [hq]; exact h2, h3⟩
theorem ok_mono {α : Type} {o : Option α} {P Q : α → Prop} (h : ok o P) (hpq : ∀ q, P q → Q q) : ok o Q := by
  obtain ⟨q, hq, hp⟩ := h
  exact ⟨q, hq, hpq q hp⟩
theorem ok_seq {α ρ : Type} {o : Option α} {k : α → Option ρ} {P : α → Prop} {Q : ρ → Prop} (h : ok o P) (hk : ∀ q, P q → ok (k q) Q) : ok (o.bind k) Q := ok_bind (ok_mono h hk)
theorem ok_eq {α ρ : Type} {o : Option α} {k : α → Option ρ} {q : α} {P : ρ → Prop} (h : o = some q) (hk : ok (k q) P) : ok (o.bind k) P := by rw [h]; exact hk
theorem ok_of {α : Type} {o : Option α} {q : α} {P : α → Prop} (h : o = some q) (hp : P q) : ok o P := ⟨q, h, hp⟩
theorem of_ok {α : Type} {o : Option α} {q : α} (h : ok o (fun x => x = q)) : o = some q := by
  obtain ⟨x, h1, h2⟩ := h
  rw [h1, h2]
theorem inR_of {x : Int} (h : -2147483648 ≤ x ∧ x ≤ 2147483647) : inR x := h
theorem z32 : FP.fconst0 = (0 : UInt32) := rfl
theorem nn0 : nn FP.fconst0 := by unfold nn; decide
theorem fb0 (m : Nat) : fb m FP.fconst0 := by
  unfold fb
  have h : (FP.fconst0).toNat % 2 ^ 31 = 0 := by decide
  omega
/-! reading behind a writing -/
theorem sI_wF (s : pS) (f i : Nat) (v : UInt32) (g j : Nat) : sI (wF s f i v) g j = sI s g j := rfl
theorem sI_wA (s : pS) (f i : Nat) (v : Nat → Int) (g j : Nat) : sI (wA s f i v) g j = sI s g j := rfl
theorem sI_wB (s : pS) (f i : Nat) (v : Nat → UInt32) (g j : Nat) : sI (wB s f i v) g j = sI s g j := rfl
theorem sI_wD (s : pS) (v : Nat → UInt64) (g j : Nat) : sI (wD s v) g j = sI s g j := rfl
theorem sI_wN (s : pS) (g j : Nat) : sI (wN s) g j = sI s g j := rfl
theorem sF_wI (s : pS) (f i : Nat) (v : Int) (g j : Nat) : sF (wI s f i v) g j = sF s g j := rfl
theorem sF_wA (s : pS) (f i : Nat) (v : Nat → Int) (g j : Nat) : sF (wA s f i v) g j = sF s g j := rfl
theorem sF_wB (s : pS) (f i : Nat) (v : Nat → UInt32) (g j : Nat) : sF (wB s f i v) g j = sF s g j := rfl
theorem sF_wD (s : pS) (v : Nat → UInt64) (g j : Nat) : sF (wD s v) g j = sF s g j := rfl
theorem sF_wN (s : pS) (g j : Nat) : sF (wN s) g j = sF s g j := rfl
theorem sA_wI (s : pS) (f i : Nat) (v : Int) (g j : Nat) : sA (wI s f i v) g j = sA s g j := rfl
theorem sA_wF (s : pS) (f i : Nat) (v : UInt32) (g j : Nat) : sA (wF s f i v) g j = sA s g j := rfl
theorem sA_wB (s : pS) (f i : Nat) (v : Nat → UInt32) (g j : Nat) : sA (wB s f i v) g j = sA s g j := rfl
theorem sA_wD (s : pS) (v : Nat → UInt64) (g j : Nat) : sA (wD s v) g j = sA s g j := rfl
theorem sA_wN (s : pS) (g j : Nat) : sA (wN s) g j = sA s g j := rfl
theorem sB_wI (s : pS) (f i : Nat) (v : Int) (g j : Nat) : sB (wI s f i v) g j = sB s g j := rfl
theorem sB_wF (s : pS) (f i : Nat) (v : UInt32) (g j : Nat) : sB (wF s f i v) g j = sB s g j := rfl
theorem sB_wA (s : pS) (f i : Nat) (v : Nat → Int) (g j : Nat) : sB (wA s f i v) g j = sB s g j := rfl
theorem sB_wD (s : pS) (v : Nat → UInt64) (g j : Nat) : sB (wD s v) g j = sB s g j := rfl
theorem sB_wN (s : pS) (g j : Nat) : sB (wN s) g j = sB s g j := rfl
theorem sN_wI (s : pS) (f i : Nat) (v : Int) : sN (wI s f i v) = sN s := rfl
theorem sN_wF (s : pS) (f i : Nat) (v : UInt32) : sN (wF s f i v) = sN s := rfl
theorem sN_wA (s : pS) (f i : Nat) (v : Nat → Int) : sN (wA s f i v) = sN s := rfl
theorem sN_wB (s : pS) (f i : Nat) (v : Nat → UInt32) : sN (wB s f i v) = sN s := rfl
theorem sN_wD (s : pS) (v : Nat → UInt64) : sN (wD s v) = sN s := rfl
theorem sN_wN (s : pS) : sN (wN s) = sN s + 1 := rfl
theorem up_eq {α : Type} (f : Nat → α) (k : Nat) (v : α) : pm_up f k v k = v := if_pos rfl
theorem up_ne {α : Type} (f : Nat → α) {k j : Nat} (v : α) (h : j ≠ k) : pm_up f k v j = f j := if_neg h
theorem up_at {α : Type} (f : Nat → α) (k j : Nat) (v : α) : pm_up f k v j = if j = k then v else f j := rfl
/-! the invariant -/
def gT (ln ln' : Int) (t t' : Nat → Int) : Prop := ln = ln' ∧ 0 ≤ ln ∧ ln ≤ 40 ∧ ∀ j : Nat, (j : Int) < ln → t j = t' j ∧ 32 ≤ t j ∧ t j ≤ 126
def gP (a : Nat) (cnt : Int) (lo : Nat → Int) (lnu : Nat → UInt32) (hi : Nat → Int) (hn : Nat → UInt32) (many lo' hi' : Nat → Int) (lnu' hn' : Nat → UInt32) : Prop :=
  cnt = many a ∧ 0 ≤ cnt ∧ cnt ≤ 12 ∧ ∀ t : Nat, t < 12 → ((t : Int) < cnt → lo t = lo' (12 * a + t) ∧ hi t = hi' (12 * a + t) ∧ (lo t = 0 → lnu t = lnu' (12 * a + t)) ∧ (hi t = 0 ∨ hi t = 4 ∨ hi t = 5 → hn t = hn' (12 * a + t)))
    ∧ (cnt ≤ (t : Int) → lo t = 3 ∧ hi t = 3) ∧ (lo t ≠ 0 → lnu t = FP.fconst0) ∧ 0 ≤ lo t ∧ lo t ≤ 3 ∧ 0 ≤ hi t ∧ hi t ≤ 5 ∧ nn (lnu t) ∧ fb 14 (lnu t) ∧ nn (hn t) ∧ fb 14 (hn t)
def gI (a : Nat) (n : Int) (st sp : Nat → Int) (le mo : Nat → UInt32) (st' sp' : Nat → Int) (le' mo' : Nat → UInt32) : Prop :=
  ∀ j : Nat, j < 10 → ((j : Int) < n → st j = st' (2 * j + a) ∧ sp j = sp' (2 * j + a) ∧ le j = le' (2 * j + a) ∧ mo j = mo' (2 * j + a) ∧ 0 ≤ st j ∧ st j ≤ 12 ∧ 1 ≤ sp j ∧ sp j ≤ 4 ∧ st j + sp j ≤ 13)
    ∧ (n ≤ (j : Int) → le j = FP.fconst0 ∧ mo j = FP.fconst0) ∧ nn (le j) ∧ fb 12 (le j) ∧ nn (mo j) ∧ fb 12 (mo j)
def gC (n n' : Int) : Prop := n = n' ∧ 0 ≤ n ∧ n ≤ 10
def gF (al pk mn pk' : Int) : Prop := (al = 0 ∧ mn = 1 ∨ al = 1 ∧ mn = 0) ∧ pk = pk' ∧ (pk = 0 ∨ pk = 1)
def gS (a : Nat) (sp gp : UInt32) (how : Int) (sp' gp' : Nat → UInt32) (how' : Nat → Int) : Prop :=
  sp = sp' a ∧ gp = gp' a ∧ how = how' a ∧ 0 ≤ how ∧ how ≤ 3 ∧ nn sp ∧ fb 12 sp ∧ nn gp ∧ fb 12 gp
def gL (a : Nat) (n laid li cnt : Int) (bs ps : Nat → UInt32) (ln : Nat → Int) (ex : Nat → UInt32) (fr : UInt32) (tr' : Nat → Int) (bs' ps' : Nat → UInt32) (ln' : Nat → Int) (ex' fr' : Nat → UInt32) : Prop :=
  (laid = 0 ∧ li = 0 ∧ cnt = -1 ∧ fr = FP.fconst0 ∨ laid = 1 ∧ 0 ≤ cnt ∧ cnt ≤ 12 ∧ cnt = tr' a ∧ fr = fr' a ∧ ∀ t : Nat, (t : Int) < cnt → bs t = bs' (12 * a + t) ∧ ps t = ps' (12 * a + t) ∧ fb 120 (bs t) ∧ fb 120 (ps t))
    ∧ fb 120 fr ∧ 0 ≤ li ∧ li ≤ n ∧ ∀ j : Nat, j < 10 → ((j : Int) < li → ln j = ln' (2 * j + a) ∧ 0 ≤ ln j ∧ ln j ≤ cnt ∧ (ln j ≠ 0 → ex j = ex' (2 * j + a) ∧ fb 120 (ex j))) ∧ (li ≤ (j : Int) → ln j = 0)
def gX (l0 l1 : Nat → Int) : Prop := ∀ j : Nat, j < 10 → (l0 j = 0 ↔ l1 j = 0)
def gPs (s : pS) (a : Nat) : Prop := gP a (sI s 304 a) (sA s 300 a) (sB s 301 a) (sA s 302 a) (sB s 303 a) (sA s 604 0) (sA s 605 0) (sA s 606 0) (sB s 607 0) (sB s 608 0)
def gIs (s : pS) (a : Nat) : Prop := gI a (sI s 504 0) (sA s 4 a) (sA s 5 a) (sB s 6 a) (sB s 7 a) (sA s 620 0) (sA s 621 0) (sB s 622 0) (sB s 623 0)
def gSs (s : pS) (a : Nat) : Prop := gS a (sF s 1 a) (sF s 2 a) (sI s 3 a) (sB s 626 0) (sB s 627 0) (sA s 628 0)
def gLs (s : pS) (a : Nat) : Prop := gL a (sI s 504 0) (sI s 629 0) (sI s 630 0) (sI s 8 a) (sB s 9 a) (sB s 10 a) (sA s 11 a) (sB s 12 a) (sF s 13 a) (sA s 633 0) (sB s 634 0) (sB s 637 0) (sA s 631 0) (sB s 632 0) (sB s 638 0)
def gTs (s : pS) : Prop := gT (sI s 403 0) (sI s 601 0) (sA s 402 0) (sA s 602 0)
def Inv (s : pS) : Prop := gTs s ∧ sI s 505 0 = sI s 603 0 ∧ gPs s 0 ∧ gPs s 1 ∧ gC (sI s 504 0) (sI s 619 0) ∧ gIs s 0 ∧ gIs s 1 ∧ gF (sI s 506 0) (sI s 507 0) (sI s 624 0) (sI s 625 0) ∧ gSs s 0 ∧ gSs s 1 ∧ gLs s 0 ∧ gLs s 1 ∧ gX (sA s 11 0) (sA s 11 1)
/-- a call of the class and then of the reference -/
def opI (A B : pS → Option (Int × pS)) (s : pS) : Prop := ok (A s) (fun q => ok (B q.2) (fun r => q.1 = r.1 ∧ Inv r.2 ∧ sN r.2 ≤ sN s + 1))
