/-! ===== THE START: an interpreter of constructors over plain data ===== -/
/-- 0 an object, 1 an array of whole numbers that was written, 2 an array of zeros, 3 an array of references -/
abbrev C1 : Type := Nat × Nat × List pV
def iv : pV → Int
  | .inl x => x
  | _ => 0
def rv : pV → Option Nat
  | .inr (.inr (.inr (.inr (.inl k)))) => some k
  | _ => none
def n1 : List pV → Int
  | .inl n :: _ => n
  | _ => 0
def tyA : Nat → ArrayType
  | 0 => .int
  | 1 => .boolean
  | 2 => .char
  | 3 => .float
  | 4 => .long
  | _ => .double
def cdA : ArrayType → Option Nat
  | .int => some 0
  | .boolean => some 1
  | .char => some 2
  | .float => some 3
  | .long => some 4
  | .double => some 5
  | _ => none
def zrA : Nat → pA
  | 0 => .inl (fun _ => 0)
  | 1 => .inl (fun _ => 0)
  | 2 => .inl (fun _ => 0)
  | 3 => .inr (.inr (.inl (fun _ => 0)))
  | 4 => .inr (.inl (fun _ => 0))
  | _ => .inr (.inr (.inr (.inl (fun _ => 0))))
def af (l : List pV) : Nat → Int := fun j => iv (l.getD j (vI 0))
def ar (l : List pV) : Nat → Option Nat := fun j => rv (l.getD j (vX 0))
def ab1 : C1 → pC
  | (0, a, l) => .inr (a, l)
  | (1, _, l) => .inl (.int, l.length, .inl (af l))
  | (2, t, l) => .inl (newarray.typeOf (tyA t), (n1 l).toNat, zrA t)
  | (_, a, l) => .inl (.object (pm_cn a), l.length, .inr (.inr (.inr (.inr (ar l)))))
def ab (W : List C1) : pH := (W.map ab1, 0)
theorem ab_get {W : List C1} {k : Nat} {c : C1} (h : W[k]? = some c) : pm_get (ab W) k = some (ab1 c) := by
  show (W.map ab1)[k]? = _
  rw [List.getElem?_map, h]
  rfl
theorem ab_set (W : List C1) (k : Nat) (c : C1) : pm_set (ab W) k (ab1 c) = ab (W.set k c) := by
  unfold pm_set ab
  rw [List.map_set]
theorem ab_push (W : List C1) (c : C1) : pm_push (ab W) (ab1 c) = ab (W ++ [c]) := by
  unfold pm_push ab
  rw [List.map_append]
  rfl
theorem ab_len (W : List C1) : (ab W).1.length = W.length := by
  show (W.map ab1).length = _
  rw [List.length_map]
theorem af_up {l : List pV} {i : Nat} (h : i < l.length) (x : Int) : pm_up (af l) i x = af (l.set i (vI x)) := by
  funext j
  unfold pm_up af
  by_cases e : j = i
  · subst e
    rw [if_pos rfl, List.getD_eq_getElem?_getD, List.getElem?_set_self h]
    rfl
  · rw [if_neg e, List.getD_eq_getElem?_getD, List.getD_eq_getElem?_getD, List.getElem?_set_ne (fun q => e q.symm)]
theorem ar_up {l : List pV} {i : Nat} (h : i < l.length) (y : Nat) : pm_up (ar l) i (some y) = ar (l.set i (vR y)) := by
  funext j
  unfold pm_up ar
  by_cases e : j = i
  · subst e
    rw [if_pos rfl, List.getD_eq_getElem?_getD, List.getElem?_set_self h]
    rfl
  · rw [if_neg e, List.getD_eq_getElem?_getD, List.getD_eq_getElem?_getD, List.getElem?_set_ne (fun q => e q.symm)]
theorem getD_rep {n j : Nat} (v : pV) : (List.replicate n v).getD j v = v := by
  rw [List.getD_eq_getElem?_getD, List.getElem?_replicate]
  split <;> rfl
theorem af_rep (n : Nat) : af (List.replicate n (vI 0)) = fun _ => 0 := by
  funext j
  unfold af
  rw [getD_rep]
  rfl
theorem ar_rep (n : Nat) : ar (List.replicate n (vX 0)) = fun _ => none := by
  funext j
  unfold ar
  rw [getD_rep]
  rfl
def isR : pV → Bool
  | .inr (.inr (.inr (.inr (.inl _)))) => true
  | .inr (.inr (.inr (.inr (.inr (_ + 1))))) => true
  | _ => false
theorem isR_ok : ∀ {v : pV}, isR v = true → ∃ k, v = vR k ∨ v = vX (k + 1)
  | .inr (.inr (.inr (.inr (.inl k)))), _ => ⟨k, Or.inl rfl⟩
  | .inr (.inr (.inr (.inr (.inr (k + 1))))), _ => ⟨k, Or.inr rfl⟩
def fitb : FieldType → pV → Bool
  | .int, .inl _ => true
  | .boolean, .inl x => decide (x = 0) || decide (x = 1)
  | .object _, .inr (.inr (.inr (.inr (.inl _)))) => true
  | .array _, .inr (.inr (.inr (.inr (.inl _)))) => true
  | _, _ => false
theorem fitb_ok : ∀ {t : FieldType} {v : pV}, fitb t v = true → pm_fit t v
  | .int, .inl x, _ => ⟨x, rfl⟩
  | .boolean, .inl x, h => by
    have h : (decide (x = 0) || decide (x = 1)) = true := h
    simp at h
    rcases h with h | h
    · exact Or.inl (by rw [h])
    · exact Or.inr (by rw [h])
  | .object _, .inr (.inr (.inr (.inr (.inl k)))), _ => ⟨k, rfl⟩
  | .array _, .inr (.inr (.inr (.inr (.inl k)))), _ => ⟨k, rfl⟩
abbrev X1 : Type := (List (Option pV) × List pV × Nat × List C1) ⊕ List C1
def xs1 (K : Nat → List pV → List C1 → Option (List C1)) (d : Nat) (ret : Option FieldType) (pc : Nat) (ins : Instr) (a b c : Nat) (ls : List (Option pV)) (st : List pV) (W : List C1) : Option X1 :=
  match ins with
  | .iconst n => if -2147483648 ≤ n ∧ n ≤ 2147483647 then some (.inl (ls, vI n :: st, pc + 1, W)) else none
  | .bipush n => if -128 ≤ n ∧ n ≤ 127 then some (.inl (ls, vI n :: st, pc + 2, W)) else none
  | .sipush n => if -32768 ≤ n ∧ n ≤ 32767 then some (.inl (ls, vI n :: st, pc + 3, W)) else none
  | .fconst n => if n = 0 then some (.inl (ls, vF FP.fconst0 :: st, pc + 1, W)) else none
  | .iload_n i => match ls[i.val]? with
    | some (some (.inl x)) => some (.inl (ls, vI x :: st, pc + 1, W))
    | _ => none
  | .fload_n i => match ls[i.val]? with
    | some (some (.inr (.inr (.inl x)))) => some (.inl (ls, vF x :: st, pc + 1, W))
    | _ => none
  | .aload_n i => match ls[i.val]? with
    | some (some v) => if isR v = true then some (.inl (ls, v :: st, pc + 1, W)) else none
    | _ => none
  | .istore i => match st with
    | .inl x :: r => if i < ls.length then some (.inl (pm_st1 ls i (vI x), r, pc + 2, W)) else none
    | _ => none
  | .istore_n i => match st with
    | .inl x :: r => if i.val < ls.length then some (.inl (pm_st1 ls i.val (vI x), r, pc + 1, W)) else none
    | _ => none
  | .astore i => match st with
    | v :: r => if isR v = true ∧ i < ls.length then some (.inl (pm_st1 ls i v, r, pc + 2, W)) else none
    | _ => none
  | .astore_n i => match st with
    | v :: r => if isR v = true ∧ i.val < ls.length then some (.inl (pm_st1 ls i.val v, r, pc + 1, W)) else none
    | _ => none
  | .iinc i n => match ls[i]? with
    | some (some (.inl x)) => if (-2147483648 ≤ n ∧ n ≤ 2147483647) ∧ (-2147483648 ≤ x + n ∧ x + n ≤ 2147483647) then some (.inl (pm_st1 ls i (vI (x + n)), st, pc + 3, W)) else none
    | _ => none
  | .dup => match st with
    | v :: r => if pm_cat2 v = false then some (.inl (ls, v :: v :: r, pc + 1, W)) else none
    | _ => none
  | .goto off => if 0 ≤ (pc : Int) + off then some (.inl (ls, st, ((pc : Int) + off).toNat, W)) else none
  | .if_icmp .ge off => match st with
    | .inl y :: .inl x :: r => if 0 ≤ (pc : Int) + off then (if y ≤ x then some (.inl (ls, r, ((pc : Int) + off).toNat, W)) else some (.inl (ls, r, pc + 3, W))) else none
    | _ => none
  | .getfield _ => match st with
    | .inr (.inr (.inr (.inr (.inl k)))) :: r => match W[k]? with
      | some (0, a', fs) => if a' = a ∧ a < 7 ∧ b < pm_N a then (match fs[b]? with
        | some v => some (.inl (ls, v :: r, pc + 3, W))
        | none => none) else none
      | _ => none
    | _ => none
  | .putfield _ => match st with
    | v :: .inr (.inr (.inr (.inr (.inl k)))) :: r => match W[k]? with
      | some (0, a', fs) => if a' = a ∧ a < 7 ∧ b < pm_N a ∧ b < fs.length ∧ fitb (pm_ty a b) v = true then some (.inl (ls, r, pc + 3, W.set k (0, a, fs.set b v))) else none
      | _ => none
    | _ => none
  | .new _ => if c = 0 ∧ a < 7 then some (.inl (ls, vR W.length :: st, pc + 3, W ++ [(0, a, pm_new a)])) else none
  | .newarray ty => match st with
    | .inl n :: r => if 0 ≤ n ∧ n ≤ 1000 then (match cdA ty with
      | some t => some (.inl (ls, vR W.length :: r, pc + 2, W ++ [(2, t, [vI n])]))
      | none => none) else none
    | _ => none
  | .anewarray _ => match st with
    | .inl n :: r => if 0 ≤ n ∧ n ≤ 1000 ∧ a < 7 then some (.inl (ls, vR W.length :: r, pc + 3, W ++ [(3, a, List.replicate n.toNat (vX 0))])) else none
    | _ => none
  | .arraylength => match st with
    | .inr (.inr (.inr (.inr (.inl k)))) :: r => match W[k]? with
      | some (1, _, l) => if l.length ≤ 1000 then some (.inl (ls, vI l.length :: r, pc + 1, W)) else none
      | some (2, _, l) => if (n1 l).toNat ≤ 1000 then some (.inl (ls, vI (n1 l).toNat :: r, pc + 1, W)) else none
      | _ => none
    | _ => none
  | .iastore => match st with
    | .inl x :: .inl i :: .inr (.inr (.inr (.inr (.inl k)))) :: r => match W[k]? with
      | some (1, _, l) => if l.length ≤ 1000 ∧ 0 ≤ i ∧ i < l.length then some (.inl (ls, r, pc + 1, W.set k (1, 0, l.set i.toNat (vI x)))) else none
      | some (2, 0, l) => if (n1 l).toNat ≤ 1000 ∧ 0 ≤ i ∧ i < (n1 l).toNat then some (.inl (ls, r, pc + 1, W.set k (1, 0, (List.replicate (n1 l).toNat (vI 0)).set i.toNat (vI x)))) else none
      | _ => none
    | _ => none
  | .fastore => match st with
    | .inr (.inr (.inl x)) :: .inl i :: .inr (.inr (.inr (.inr (.inl k)))) :: r => match W[k]? with
      | some (2, 3, l) => if (n1 l).toNat ≤ 1000 ∧ 0 ≤ i ∧ i < (n1 l).toNat ∧ x = 0 then some (.inl (ls, r, pc + 1, W.set k (2, 3, l))) else none
      | _ => none
    | _ => none
  | .aaload => match st with
    | .inl i :: .inr (.inr (.inr (.inr (.inl k)))) :: r => match W[k]? with
      | some (3, _, l) => if l.length ≤ 1000 ∧ 0 ≤ i ∧ i < l.length then (match ar l i.toNat with
        | some y => some (.inl (ls, vR y :: r, pc + 1, W))
        | none => none) else none
      | _ => none
    | _ => none
  | .aastore => match st with
    | .inr (.inr (.inr (.inr (.inl y)))) :: .inl i :: .inr (.inr (.inr (.inr (.inl k)))) :: r => match W[k]?, W[y]? with
      | some (3, a1, l), some (0, a2, _) => if a < 7 ∧ a1 = a ∧ a2 = a ∧ l.length ≤ 1000 ∧ 0 ≤ i ∧ i < l.length then some (.inl (ls, r, pc + 1, W.set k (3, a, l.set i.toNat (vR y)))) else none
      | _, _ => none
    | _ => none
  | .return_ => if ret = none ∧ st = [] then some (.inr W) else none
  | .invokespecial _ => if c = 1 then (match st with
      | .inr (.inr (.inr (.inr (.inl _)))) :: r => if r.length ≤ 4 ∧ 1 ≤ d then some (.inl (ls, r, pc + 3, W)) else none
      | _ => none) else (match st.drop b with
      | .inr (.inr (.inr (.inr (.inl k)))) :: r => if pm_c8 r ≤ 8 ∧ c < 3 then (match K a (vR k :: (st.take b).reverse) W with
        | some W' => some (.inl (ls, r, pc + 3, W'))
        | none => none) else none
      | _ => none)
  | .invokevirtual _ => match st.drop (b % 8) with
      | .inr (.inr (.inr (.inr (.inl k)))) :: r => match W[k]? with
        | some (0, a', _) => if c = 0 ∧ r.length ≤ 4 ∧ b / 8 < 7 ∧ a' = b / 8 then (match K a (vR k :: (st.take (b % 8)).reverse) W with
          | some W' => some (.inl (ls, r, pc + 3, W'))
          | none => none) else none
        | _ => none
      | _ => none
  | .invokestatic _ => if c = 0 ∧ (st.take b).length = b ∧ (st.drop b).length ≤ 4 then (match K a (st.take b).reverse W with
      | some W' => some (.inl (ls, st.drop b, pc + 3, W'))
      | none => none) else none
  | _ => none
/-- what the interpreter's step stands for -/
def xto (X : List (Option pV) → List pV → Nat → pH → Prop) (E : pO → pH → Prop) : X1 → Prop
  | .inl (ls, st, pc, W) => X ls st pc (ab W)
  | .inr W => E (.inl none) (ab W)
theorem drop_ok {st : List pV} {b : Nat} {v : pV} {r : List pV} (h : st.drop b = v :: r) : st = (st.take b).reverse.reverse ++ v :: r ∧ (st.take b).reverse.length = b := by
  refine ⟨by rw [List.reverse_reverse, ← h, List.take_append_drop], ?_⟩
  rw [List.length_reverse, List.length_take]
  have : (st.drop b).length = (v :: r).length := by rw [h]
  rw [List.length_drop, List.length_cons] at this
  omega
theorem cdA_ok : ∀ {ty : ArrayType} {t : Nat}, cdA ty = some t → ∀ n : Int, ∃ z, pm_zero ty = some z ∧ (.inl (newarray.typeOf ty, n.toNat, z) : pC) = ab1 (2, t, [vI n])
  | .int, t, h, n => by cases h; exact ⟨_, rfl, rfl⟩
  | .boolean, t, h, n => by cases h; exact ⟨_, rfl, rfl⟩
  | .char, t, h, n => by cases h; exact ⟨_, rfl, rfl⟩
  | .float, t, h, n => by cases h; exact ⟨_, rfl, rfl⟩
  | .long, t, h, n => by cases h; exact ⟨_, rfl, rfl⟩
  | .double, t, h, n => by cases h; exact ⟨_, rfl, rfl⟩
  | .byte, t, h, n => by cases h
  | .short, t, h, n => by cases h
set_option maxHeartbeats 4000000 in
theorem xs1_ok {L : Nat} {xs : Nat → Int} {C : Nat → List pV → pH → pO → pH → Prop} {d : Nat} {M : pM} {X : List (Option pV) → List pV → Nat → pH → Prop} {E : pO → pH → Prop} {K : Nat → List pV → List C1 → Option (List C1)} (hK : ∀ μ as W W', K μ as W = some W' → C μ as (ab W) (.inl none) (ab W'))
    {pc : Nat} {ins : Instr} {a b c : Nat} {ls : List (Option pV)} {st : List pV} {W : List C1} {x : X1} (h : xs1 K d M.ret pc ins a b c ls st W = some x) (hx : xto X E x) : pm_i pm_tx L xs C d M a b c ls st pc (ab W) X E ins := by
  unfold xs1 at h
  split at h
  · split at h
    · rename_i h1; cases h; exact ⟨h1, hx⟩
    · cases h
  · split at h
    · rename_i h1; cases h; exact ⟨h1, hx⟩
    · cases h
  · split at h
    · rename_i h1; cases h; exact ⟨h1, hx⟩
    · cases h
  · split at h
    · rename_i h1; cases h
      exact ⟨fun _ => hx, fun q => by rw [h1] at q; exact absurd q (by decide), fun q => by rw [h1] at q; exact absurd q (by decide)⟩
    · cases h
  · split at h
    · rename_i x h1; cases h; exact ⟨x, h1, hx⟩
    · cases h
  · split at h
    · rename_i x h1; cases h; exact ⟨x, h1, hx⟩
    · cases h
  · split at h
    · rename_i v h1
      split at h
      · rename_i h2; cases h; exact ⟨v, h1, isR_ok h2, hx⟩
      · cases h
    · cases h
  · split at h
    · rename_i x r
      split at h
      · rename_i h2; cases h; exact ⟨x, r, rfl, h2, hx⟩
      · cases h
    · cases h
  · split at h
    · rename_i x r
      split at h
      · rename_i h2; cases h; exact ⟨x, r, rfl, h2, hx⟩
      · cases h
    · cases h
  · split at h
    · rename_i v r
      split at h
      · rename_i h2; cases h; exact ⟨v, r, rfl, isR_ok h2.1, h2.2, hx⟩
      · cases h
    · cases h
  · split at h
    · rename_i v r
      split at h
      · rename_i h2; cases h; exact ⟨v, r, rfl, isR_ok h2.1, h2.2, hx⟩
      · cases h
    · cases h
  · split at h
    · rename_i x h1
      split at h
      · rename_i h2; cases h; exact ⟨x, h1, h2.1, h2.2, hx⟩
      · cases h
    · cases h
  · split at h
    · rename_i v r
      split at h
      · rename_i h2; cases h; exact ⟨v, r, rfl, h2, hx⟩
      · cases h
    · cases h
  · split at h
    · rename_i h1; cases h
      exact ⟨_, (Int.toNat_of_nonneg h1).symm, hx⟩
    · cases h
  · split at h
    · rename_i y x r
      split at h
      · rename_i h1
        refine ⟨x, y, r, rfl, _, (Int.toNat_of_nonneg h1).symm, ?_, ?_⟩
        · intro hc
          rw [if_pos (show y ≤ x from hc)] at h
          cases h; exact hx
        · intro hc
          rw [if_neg (show ¬ y ≤ x from hc)] at h
          cases h; exact hx
      · cases h
    · cases h
  · split at h
    · rename_i k r
      split at h
      · rename_i a' fs h1
        split at h
        · rename_i h2
          split at h
          · rename_i v h3
            cases h
            obtain ⟨rfl, h4, h5⟩ := h2
            exact ⟨k, r, rfl, fs, v, ab_get h1, h4, h5, h3, hx⟩
          · cases h
        · cases h
      · cases h
    · cases h
  · split at h
    · rename_i v k r
      split at h
      · rename_i a' fs h1
        split at h
        · rename_i h2
          cases h
          obtain ⟨rfl, h4, h5, h6, h7⟩ := h2
          refine ⟨v, k, r, rfl, fs, ab_get h1, h4, h5, h6, fitb_ok h7, ?_⟩
          have e := ab_set W k (0, a', fs.set b v)
          rw [show pm_set (ab W) k (.inr (a', fs.set b v)) = ab (W.set k (0, a', fs.set b v)) from e]
          exact hx
        · cases h
      · cases h
    · cases h
  · split at h
    · rename_i h1
      cases h
      refine ⟨fun _ => ⟨h1.2, ?_⟩, fun q => by omega, by omega⟩
      rw [ab_len, show pm_push (ab W) (.inr (a, pm_new a)) = ab (W ++ [(0, a, pm_new a)]) from ab_push W (0, a, pm_new a)]
      exact hx
    · cases h
  · split at h
    · rename_i n r
      split at h
      · rename_i h1
        split at h
        · rename_i t h2
          cases h
          obtain ⟨z, hz1, hz2⟩ := cdA_ok h2 n
          refine ⟨n, r, z, rfl, h1.1, h1.2, hz1, ?_⟩
          rw [ab_len, hz2, ab_push]
          exact hx
        · cases h
      · cases h
    · cases h
  · split at h
    · rename_i n r
      split at h
      · rename_i h1
        cases h
        refine ⟨n, r, rfl, h1.1, h1.2.1, h1.2.2, ?_⟩
        have e : (.inl (.object (pm_cn a), n.toNat, .inr (.inr (.inr (.inr (fun _ => none))))) : pC) = ab1 (3, a, List.replicate n.toNat (vX 0)) := by
          show _ = (.inl (.object (pm_cn a), (List.replicate n.toNat (vX 0)).length, .inr (.inr (.inr (.inr (ar (List.replicate n.toNat (vX 0))))))) : pC)
          rw [ar_rep, List.length_replicate]
        rw [ab_len, e, ab_push]
        exact hx
      · cases h
    · cases h
  · split at h
    · rename_i k r
      split at h
      · rename_i a' l h1
        split at h
        · rename_i h2
          cases h
          exact ⟨_, r, rfl, Or.inl ⟨k, _, _, _, rfl, ab_get h1, h2, hx⟩⟩
        · cases h
      · rename_i a' l h1
        split at h
        · rename_i h2
          cases h
          exact ⟨_, r, rfl, Or.inl ⟨k, _, _, _, rfl, ab_get h1, h2, hx⟩⟩
        · cases h
      · cases h
    · cases h
  · split at h
    · rename_i x i k r
      split at h
      · rename_i a' l h1
        split at h
        · rename_i h2
          cases h
          refine ⟨x, i, k, r, l.length, af l, rfl, ab_get h1, h2.1, h2.2.1, h2.2.2, ?_⟩
          have e : (.inl (.int, l.length, .inl (pm_up (af l) i.toNat x)) : pC) = ab1 (1, 0, l.set i.toNat (vI x)) := by
            show _ = (.inl (.int, (l.set i.toNat (vI x)).length, .inl (af (l.set i.toNat (vI x)))) : pC)
            rw [List.length_set, af_up (by omega)]
          rw [e, ab_set]
          exact hx
        · cases h
      · rename_i l h1
        split at h
        · rename_i h2
          cases h
          refine ⟨x, i, k, r, (n1 l).toNat, (fun _ => 0), rfl, ab_get h1, h2.1, h2.2.1, h2.2.2, ?_⟩
          have e : (.inl (.int, (n1 l).toNat, .inl (pm_up (fun _ => 0) i.toNat x)) : pC) = ab1 (1, 0, (List.replicate (n1 l).toNat (vI 0)).set i.toNat (vI x)) := by
            show _ = (.inl (.int, ((List.replicate (n1 l).toNat (vI 0)).set i.toNat (vI x)).length, .inl (af ((List.replicate (n1 l).toNat (vI 0)).set i.toNat (vI x)))) : pC)
            rw [List.length_set, List.length_replicate, ← af_up (by rw [List.length_replicate]; omega), af_rep]
          rw [e, ab_set]
          exact hx
        · cases h
      · cases h
    · cases h
  · split at h
    · rename_i x i k r
      split at h
      · rename_i l h1
        split at h
        · rename_i h2
          cases h
          obtain ⟨g1, g2, g3, rfl⟩ := h2
          refine ⟨0, i, k, r, (n1 l).toNat, (fun _ => 0), rfl, ab_get h1, g1, g2, g3, ?_⟩
          have e : (.inl (.float, (n1 l).toNat, .inr (.inr (.inl (pm_up (fun _ => (0 : UInt32)) i.toNat 0)))) : pC) = ab1 (2, 3, l) := by
            have e2 : pm_up (fun _ => (0 : UInt32)) i.toNat 0 = fun _ => 0 := by
              funext j
              unfold pm_up
              split <;> rfl
            rw [e2]
            rfl
          rw [e, ab_set]
          exact hx
        · cases h
      · cases h
    · cases h
  · split at h
    · rename_i i k r
      split at h
      · rename_i a' l h1
        split at h
        · rename_i h2
          split at h
          · rename_i y h3
            cases h
            exact ⟨i, k, r, _, _, _, y, rfl, ab_get h1, h2.1, h2.2.1, h2.2.2, h3, hx⟩
          · cases h
        · cases h
      · cases h
    · cases h
  · split at h
    · rename_i y i k r
      split at h
      · rename_i a1 l a2 fs h1 h1'
        split at h
        · rename_i h2
          cases h
          obtain ⟨g1, rfl, rfl, g2, g3, g4⟩ := h2
          refine ⟨y, i, k, r, l.length, ar l, fs, rfl, g1, ab_get h1, ab_get h1', g2, g3, g4, ?_⟩
          have e : (.inl (.object (pm_cn a2), l.length, .inr (.inr (.inr (.inr (pm_up (ar l) i.toNat (some y)))))) : pC) = ab1 (3, a2, l.set i.toNat (vR y)) := by
            show _ = (.inl (.object (pm_cn a2), (l.set i.toNat (vR y)).length, .inr (.inr (.inr (.inr (ar (l.set i.toNat (vR y))))))) : pC)
            rw [List.length_set, ar_up (by omega)]
          rw [e, ab_set]
          exact hx
        · cases h
      · cases h
    · cases h
  · split at h
    · rename_i h1; cases h; exact ⟨h1.1, h1.2, hx⟩
    · cases h
  · split at h
    · rename_i h0
      split at h
      · rename_i k r
        split at h
        · rename_i h1
          cases h
          exact ⟨fun _ => ⟨k, r, rfl, h1.1, h1.2, hx⟩, fun q => absurd h0 q, by omega⟩
        · cases h
      · cases h
    · rename_i h0
      split at h
      · rename_i k r h3
        split at h
        · rename_i h1
          split at h
          · rename_i W' h2
            cases h
            obtain ⟨e1, e2⟩ := drop_ok h3
            exact ⟨fun q => absurd q h0, fun _ => ⟨_, k, r, e1, e2, h1.1, ab W', hK _ _ _ _ h2, hx⟩, h1.2⟩
          · cases h
        · cases h
      · cases h
  · split at h
    · rename_i k r h3
      split at h
      · rename_i a' fs h4
        split at h
        · rename_i h1
          split at h
          · rename_i W' h2
            cases h
            obtain ⟨e1, e2⟩ := drop_ok h3
            obtain ⟨g1, g2, g3, rfl⟩ := h1
            exact ⟨fun _ => ⟨_, k, r, fs, e1, e2, g3, ab_get h4, g2, .inl none, ab W', hK _ _ _ _ h2, hx⟩, fun q => by omega, fun q => by omega, by omega⟩
          · cases h
        · cases h
      · cases h
    · cases h
  · split at h
    · rename_i h1
      split at h
      · rename_i W' h2
        cases h
        obtain ⟨g1, g2, g3⟩ := h1
        exact ⟨fun _ => ⟨_, st.drop b, by rw [List.reverse_reverse, List.take_append_drop], by rw [List.length_reverse]; exact g2, g3, none, ab W', hK _ _ _ _ h2, hx⟩, fun q => by omega, fun q => by omega, fun q => by omega, by omega⟩
      · cases h
    · cases h
  · cases h
def xrun (K : Nat → List pV → List C1 → Option (List C1)) (d : Nat) (M : pM) : Nat → List (Option pV) → List pV → Nat → List C1 → Option (List C1)
  | 0, _, _, _, _ => none
  | n + 1, ls, st, pc, W => match pm_at M.code pc with
    | none => none
    | some (p0, ins, _, a, b, c) => match xs1 K d M.ret p0 ins a b c ls st W with
      | none => none
      | some (.inl (ls', st', pc', W')) => xrun K d M n ls' st' pc' W'
      | some (.inr W') => some W'
def xpre (K : Nat → List pV → List C1 → Option (List C1)) (d : Nat) (M : pM) : Nat → List (Option pV) → List pV → Nat → List C1 → Option (List (Option pV) × List pV × Nat × List C1)
  | 0, ls, st, pc, W => some (ls, st, pc, W)
  | n + 1, ls, st, pc, W => match pm_at M.code pc with
    | none => none
    | some (p0, ins, _, a, b, c) => match xs1 K d M.ret p0 ins a b c ls st W with
      | some (.inl (ls', st', pc', W')) => xpre K d M n ls' st' pc' W'
      | _ => none
def xcall : Nat → Nat → List pV → List C1 → Option (List C1)
  | 0, _, _, _ => none
  | d + 1, μ, as, W => match pm_P[μ]? with
    | none => none
    | some M => if (pm_args as).length ≤ M.maxL then xrun (xcall d) d M 300 (pm_entry M.maxL as) [] 0 W else none
theorem at_pc {code : List pE} {pc : Nat} {q : pE} (h : pm_at code pc = some q) : q.1 = pc := by
  have := List.find?_some h
  simpa using this
theorem xrun_ok {L : Nat} {xs : Nat → Int} {C : Nat → List pV → pH → pO → pH → Prop} {d : Nat} {M : pM} {X : List (Option pV) → List pV → Nat → pH → Prop} {E : pO → pH → Prop} {K : Nat → List pV → List C1 → Option (List C1)} (hK : ∀ μ as W W', K μ as W = some W' → C μ as (ab W) (.inl none) (ab W')) (hX : pm_clo L xs C d M E X) {W' : List C1} (hE : E (.inl none) (ab W')) :
    ∀ (n : Nat) (ls : List (Option pV)) (st : List pV) (pc : Nat) (W : List C1), xrun K d M n ls st pc W = some W' → X ls st pc (ab W)
  | 0, _, _, _, _, h => by cases h
  | n + 1, ls, st, pc, W, h => by
    rw [xrun] at h
    split at h
    · cases h
    · rename_i p0 ins ln a b c h1
      have e := at_pc h1
      have e : p0 = pc := e
      subst e
      split at h
      · cases h
      · rename_i ls2 st2 pc2 W2 h2
        exact hX _ _ _ _ ⟨_, h1, xs1_ok hK h2 (xrun_ok hK hX hE n ls2 st2 pc2 W2 h)⟩
      · rename_i W2 h2
        cases h
        exact hX _ _ _ _ ⟨_, h1, xs1_ok hK h2 hE⟩
theorem xpre_ok {L : Nat} {xs : Nat → Int} {C : Nat → List pV → pH → pO → pH → Prop} {d : Nat} {M : pM} {X : List (Option pV) → List pV → Nat → pH → Prop} {E : pO → pH → Prop} {K : Nat → List pV → List C1 → Option (List C1)} (hK : ∀ μ as W W', K μ as W = some W' → C μ as (ab W) (.inl none) (ab W')) (hX : pm_clo L xs C d M E X) {ls' : List (Option pV)} {st' : List pV} {pc' : Nat} {W' : List C1} (hE : X ls' st' pc' (ab W')) :
    ∀ (n : Nat) (ls : List (Option pV)) (st : List pV) (pc : Nat) (W : List C1), xpre K d M n ls st pc W = some (ls', st', pc', W') → X ls st pc (ab W)
  | 0, _, _, _, _, h => by cases h; exact hE
  | n + 1, ls, st, pc, W, h => by
    rw [xpre] at h
    split at h
    · cases h
    · rename_i p0 ins ln a b c h1
      have e := at_pc h1
      have e : p0 = pc := e
      subst e
      split at h
      · rename_i ls2 st2 pc2 W2 h2
        exact hX _ _ _ _ ⟨_, h1, xs1_ok (E := E) hK h2 (xpre_ok hK hX hE n ls2 st2 pc2 W2 h)⟩
      · cases h
theorem xcall_ok {L : Nat} {xs : Nat → Int} : ∀ (d μ : Nat) (as : List pV) (W W' : List C1), xcall d μ as W = some W' → pCall pm_tx L xs pm_P d μ as (ab W) (.inl none) (ab W')
  | 0, _, _, _, _, h => by cases h
  | d + 1, μ, as, W, W', h => by
    rw [xcall] at h
    split at h
    · cases h
    · rename_i M h1
      split at h
      · rename_i h2
        refine ⟨M, h1, h2, fun X hX => ?_⟩
        exact xrun_ok (L := L) (xs := xs) (xcall_ok d) hX ⟨rfl, rfl⟩ 300 _ _ _ _ h
      · cases h
/-! the state at the law's first round -/
def L3 : List pV := [vI 3, vI 3, vI 3, vI 3, vI 3, vI 3, vI 3, vI 3, vI 3, vI 3, vI 3, vI 3]
def s00 : pS := (fun f _ => if f = 8 ∨ f = 505 ∨ f = 603 then -1 else if f = 100 ∨ f = 624 then 1 else 0, fun _ _ => 0, fun f _ => if f = 300 ∨ f = 302 then af L3 else fun _ => 0, fun _ _ _ => 0, fun _ => 0, 0)
def w1 (q : Nat × Nat × Nat) : C1 := match q.1 with
  | 0 => (0, q.2.1, flds q.2.1 q.2.2 s00)
  | 1 => if q.2.1 = 300 ∨ q.2.1 = 302 then (1, 0, L3) else (2, (aty q.2.1).1, [vI (aty q.2.1).2])
  | _ => if q.2.1 = 501 then (3, 0, [vR 9, vR 23]) else (3, 2, [vR 38, vR 41])
def dq1 : DecidableEq (Nat ⊕ Nat) := inferInstance
def dq2 : DecidableEq (UInt64 ⊕ (Nat ⊕ Nat)) := letI := dq1; inferInstance
def dq3 : DecidableEq (UInt32 ⊕ (UInt64 ⊕ (Nat ⊕ Nat))) := letI := dq2; inferInstance
def dq4 : DecidableEq (Int ⊕ (UInt32 ⊕ (UInt64 ⊕ (Nat ⊕ Nat)))) := letI := dq3; inferInstance
def dqV : DecidableEq pV := letI := dq4; inferInstance
def dqL : DecidableEq (List pV) := letI := dqV; inferInstance
def dqC : DecidableEq C1 := letI := dqL; inferInstance
def dqO : DecidableEq (Option pV) := letI := dqV; inferInstance
def dqT : DecidableEq (List (Option pV)) := letI := dqO; inferInstance
def dqW : DecidableEq (List C1) := letI := dqC; inferInstance
def dqR : DecidableEq (Option (List (Option pV) × List pV × Nat × List C1)) := letI := dqW; letI := dqT; letI := dqL; inferInstance
theorem dq_of {a b : Option (List (Option pV) × List pV × Nat × List C1)} (h : @decide (a = b) (dqR a b) = true) : a = b := @of_decide_eq_true _ (dqR a b) h
theorem boot_ev : xpre (xcall 14) 14 mL_law 16 (pm_entry 10 [vX 2]) [] 0 [] = some ([some (vX 2), some (vR 0), some (vR 47), some (vR 73), some (vR 74), some (vI 0), none, none, none, none], [], 28, shpL.map w1) := dq_of (by decide +kernel)
