/-! ===== THE PURE MACHINE: values, cells, worlds, and the meaning of the instructions that the program uses, over whole numbers ===== -/
abbrev pV : Type := Int ⊕ (Int ⊕ (UInt32 ⊕ (UInt64 ⊕ (Nat ⊕ Nat))))
abbrev vI (x : Int) : pV := .inl x
abbrev vL (x : Int) : pV := .inr (.inl x)
abbrev vF (x : UInt32) : pV := .inr (.inr (.inl x))
abbrev vD (x : UInt64) : pV := .inr (.inr (.inr (.inl x)))
/-- the cell k of the world -/
abbrev vR (k : Nat) : pV := .inr (.inr (.inr (.inr (.inl k))))
/-- 0 null, 1 some reference, 2 the script, 3 + i the text i -/
abbrev vX (k : Nat) : pV := .inr (.inr (.inr (.inr (.inr k))))
abbrev pA : Type := (Nat → Int) ⊕ ((Nat → Int) ⊕ ((Nat → UInt32) ⊕ ((Nat → UInt64) ⊕ (Nat → Option Nat))))
abbrev pC : Type := (FieldType × Nat × pA) ⊕ (Nat × List pV)
/-- the cells, and how many exceptions have been made -/
abbrev pH : Type := List pC × Nat
/-- an answer, or the number of the class of what was thrown -/
abbrev pO : Type := Option pV ⊕ Nat
/-- pc, instruction, its length, three numbers that say what it is linked to -/
abbrev pE : Type := Nat × Instr × Nat × Nat × Nat × Nat
/-- name, bytes, locals, answer, handlers (from, to, at, the class's entry; the class's number), kind (0 static, 1 virtual, 2 a constructor), code -/
abbrev pM : Type := MethodName × ByteArray × Nat × Option FieldType × List (Nat × Nat × Nat × Nat × Nat) × Nat × List pE
abbrev pM.y (M : pM) : MethodName := M.1
abbrev pM.bytes (M : pM) : ByteArray := M.2.1
abbrev pM.maxL (M : pM) : Nat := M.2.2.1
abbrev pM.ret (M : pM) : Option FieldType := M.2.2.2.1
abbrev pM.hs (M : pM) : List (Nat × Nat × Nat × Nat × Nat) := M.2.2.2.2.1
abbrev pM.kind (M : pM) : Nat := M.2.2.2.2.2.1
abbrev pM.code (M : pM) : List pE := M.2.2.2.2.2.2
def inR (x : Int) : Prop := -2147483648 ≤ x ∧ x ≤ 2147483647
def inL (x : Int) : Prop := -9223372036854775808 ≤ x ∧ x ≤ 9223372036854775807
def pm_ty (ci : Nat) : Nat → FieldType := match ci with
  | 0 => tyX0
  | 1 => tyX1
  | 2 => tyX2
  | 3 => tyX3
  | 4 => tyX4
  | 5 => tyX5
  | _ => tyX6
def pm_N (ci : Nat) : Nat := match ci with
  | 0 => 14
  | 1 => 9
  | 2 => 6
  | 3 => 5
  | 4 => 9
  | 5 => 8
  | _ => 46
def pm_cn (ci : Nat) : String := match ci with
  | 0 => RX0
  | 1 => RX1
  | 2 => RX2
  | 3 => RX3
  | 4 => RX4
  | 5 => RX5
  | _ => RX6
def pm_T (ci : Nat) : u_T := match ci with
  | 0 => TX0
  | 1 => TX1
  | 2 => TX2
  | 3 => TX3
  | 4 => TX4
  | 5 => TX5
  | _ => TX6
def pm_dv : FieldType → pV
  | .float => vF 0
  | .int => vI 0
  | .boolean => vI 0
  | .char => vI 0
  | _ => vX 0
def pm_new (ci : Nat) : List pV := (List.range (pm_N ci)).map (fun k => pm_dv (pm_ty ci k))
def pm_fit : FieldType → pV → Prop
  | .int, v => ∃ x, v = vI x
  | .boolean, v => v = vI 0 ∨ v = vI 1
  | .char, v => ∃ x, v = vI x ∧ 0 ≤ x ∧ x < 65536
  | .float, v => ∃ x, v = vF x
  | .long, v => ∃ x, v = vL x
  | .double, v => ∃ x, v = vD x
  | .object _, v => ∃ k, v = vR k
  | .array _, v => ∃ k, v = vR k
  | _, _ => False
def pm_cat2 : pV → Bool
  | .inr (.inl _) => true
  | .inr (.inr (.inr (.inl _))) => true
  | _ => false
/-- how many words a stack takes -/
def pm_c8 : List pV → Nat
  | [] => 0
  | v :: r => (if pm_cat2 v then 2 else 1) + pm_c8 r
def pm_clr (ls : List (Option pV)) (i : Nat) : List (Option pV) := match i with
  | 0 => ls
  | j + 1 => match ls[j]? with
    | some (some v) => if pm_cat2 v then ls.set j none else ls
    | _ => ls
def pm_st1 (ls : List (Option pV)) (i : Nat) (v : pV) : List (Option pV) := (pm_clr ls i).set i (some v)
def pm_st2 (ls : List (Option pV)) (i : Nat) (v : pV) : List (Option pV) := ((pm_clr ls i).set i (some v)).set (i + 1) none
def pm_c1 : ClassFile.Cond → Int → Prop
  | .eq, x => x = 0
  | .ne, x => x ≠ 0
  | .lt, x => x < 0
  | .ge, x => 0 ≤ x
  | .gt, x => 0 < x
  | .le, x => x ≤ 0
def pm_c2 : ClassFile.Cond → Int → Int → Prop
  | .eq, x, y => x = y
  | .ne, x, y => x ≠ y
  | .lt, x, y => x < y
  | .ge, x, y => y ≤ x
  | .gt, x, y => y < x
  | .le, x, y => x ≤ y
def pm_fc (op : CmpOp) (x y : UInt32) : Int := (Op.cmpValue (FP.fcmp x y) op).toInt
def pm_dc (op : CmpOp) (x y : UInt64) : Int := (Op.cmpValue (FP.dcmp x y) op).toInt
def pm_lc (x y : Int) : Int := if x < y then -1 else if x = y then 0 else 1
def pm_up {α : Type} (f : Nat → α) (k : Nat) (v : α) : Nat → α := fun j => if j = k then v else f j
def pm_zero : ArrayType → Option pA
  | .boolean => some (.inl (fun _ => 0))
  | .char => some (.inl (fun _ => 0))
  | .int => some (.inl (fun _ => 0))
  | .long => some (.inr (.inl (fun _ => 0)))
  | .float => some (.inr (.inr (.inl (fun _ => 0))))
  | .double => some (.inr (.inr (.inr (.inl (fun _ => 0)))))
  | _ => none
def pm_get (h : pH) (k : Nat) : Option pC := h.1[k]?
def pm_set (h : pH) (k : Nat) (c : pC) : pH := (h.1.set k c, h.2)
def pm_push (h : pH) (c : pC) : pH := (h.1 ++ [c], h.2)
section
variable (txt : Nat → List Int) (L : Nat) (xs : Nat → Int)
variable (C : Nat → List pV → pH → pO → pH → Prop) (d : Nat) (M : pM)
variable (a b c : Nat) (ls : List (Option pV)) (st : List pV) (pc : Nat) (h : pH)
variable (K : List (Option pV) → List pV → Nat → pH → Prop) (E : pO → pH → Prop)
def pm_load1 (i n : Nat) : Prop := ∃ v, ls[i]? = some (some v) ∧ pm_cat2 v = false ∧ K ls (v :: st) (pc + n) h
def pm_load2 (i n : Nat) : Prop := ∃ v, ls[i]? = some (some v) ∧ pm_cat2 v = true ∧ K ls (v :: st) (pc + n) h
/-- what comes behind a call: the answer on the stack, or the handler -/
def pm_back (o : pO) (rest : List pV) (h' : pH) : Prop := match o with
  | .inl v => K ls (v.toList ++ rest) (pc + 3) h'
  | .inr e => ∃ q, M.hs.find? (fun q => decide (q.1 ≤ pc) && decide (pc < q.2.1) && decide (q.2.2.2.2 = e)) = some q ∧ K ls [vX 1] q.2.2.1 h'
def pm_i (ins : Instr) : Prop := match ins with
  | .iconst n => inR n ∧ K ls (vI n :: st) (pc + 1) h
  | .bipush n => (-128 ≤ n ∧ n ≤ 127) ∧ K ls (vI n :: st) (pc + 2) h
  | .sipush n => (-32768 ≤ n ∧ n ≤ 32767) ∧ K ls (vI n :: st) (pc + 3) h
  | .lconst n => K ls (vL (n.val : Int) :: st) (pc + 1) h
  | .fconst n => (n = 0 → K ls (vF FP.fconst0 :: st) (pc + 1) h) ∧ (n = 1 → K ls (vF FP.fconst1 :: st) (pc + 1) h) ∧ (n = 2 → K ls (vF FP.fconst2 :: st) (pc + 1) h)
  | .ldc _ => (c = 0 → a < 4294967296 ∧ K ls (vF (UInt32.ofNat a) :: st) (pc + 2) h) ∧ (c = 1 → K ls (vX (3 + a) :: st) (pc + 2) h) ∧ c < 2
  | .ldc2_w _ => inL ((a : Int) - b) ∧ K ls (vL ((a : Int) - b) :: st) (pc + 3) h
  | .iload i => (∃ x, ls[i]? = some (some (vI x)) ∧ K ls (vI x :: st) (pc + 2) h)
  | .iload_n i => (∃ x, ls[i.val]? = some (some (vI x)) ∧ K ls (vI x :: st) (pc + 1) h)
  | .fload i => (∃ x, ls[i]? = some (some (vF x)) ∧ K ls (vF x :: st) (pc + 2) h)
  | .fload_n i => (∃ x, ls[i.val]? = some (some (vF x)) ∧ K ls (vF x :: st) (pc + 1) h)
  | .aload i => (∃ v, ls[i]? = some (some v) ∧ (∃ k, v = vR k ∨ v = vX (k + 1)) ∧ K ls (v :: st) (pc + 2) h)
  | .aload_n i => (∃ v, ls[i.val]? = some (some v) ∧ (∃ k, v = vR k ∨ v = vX (k + 1)) ∧ K ls (v :: st) (pc + 1) h)
  | .lload i => (∃ x, ls[i]? = some (some (vL x)) ∧ K ls (vL x :: st) (pc + 2) h)
  | .lload_n i => (∃ x, ls[i.val]? = some (some (vL x)) ∧ K ls (vL x :: st) (pc + 1) h)
  | .dload i => (∃ x, ls[i]? = some (some (vD x)) ∧ K ls (vD x :: st) (pc + 2) h)
  | .dload_n i => (∃ x, ls[i.val]? = some (some (vD x)) ∧ K ls (vD x :: st) (pc + 1) h)
  | .istore i => ∃ x r, st = vI x :: r ∧ i < ls.length ∧ K (pm_st1 ls i (vI x)) r (pc + 2) h
  | .istore_n i => ∃ x r, st = vI x :: r ∧ i.val < ls.length ∧ K (pm_st1 ls i.val (vI x)) r (pc + 1) h
  | .fstore i => ∃ x r, st = vF x :: r ∧ i < ls.length ∧ K (pm_st1 ls i (vF x)) r (pc + 2) h
  | .fstore_n i => ∃ x r, st = vF x :: r ∧ i.val < ls.length ∧ K (pm_st1 ls i.val (vF x)) r (pc + 1) h
  | .astore i => ∃ v r, st = v :: r ∧ (∃ k, v = vR k ∨ v = vX (k + 1)) ∧ i < ls.length ∧ K (pm_st1 ls i v) r (pc + 2) h
  | .astore_n i => ∃ v r, st = v :: r ∧ (∃ k, v = vR k ∨ v = vX (k + 1)) ∧ i.val < ls.length ∧ K (pm_st1 ls i.val v) r (pc + 1) h
  | .lstore i => ∃ x r, st = vL x :: r ∧ i + 1 < ls.length ∧ K (pm_st2 ls i (vL x)) r (pc + 2) h
  | .lstore_n i => ∃ x r, st = vL x :: r ∧ i.val + 1 < ls.length ∧ K (pm_st2 ls i.val (vL x)) r (pc + 1) h
  | .dstore i => ∃ x r, st = vD x :: r ∧ i + 1 < ls.length ∧ K (pm_st2 ls i (vD x)) r (pc + 2) h
  | .dstore_n i => ∃ x r, st = vD x :: r ∧ i.val + 1 < ls.length ∧ K (pm_st2 ls i.val (vD x)) r (pc + 1) h
  | .iinc i n => ∃ x, ls[i]? = some (some (vI x)) ∧ inR n ∧ inR (x + n) ∧ K (pm_st1 ls i (vI (x + n))) st (pc + 3) h
  | .dup => ∃ v r, st = v :: r ∧ pm_cat2 v = false ∧ K ls (v :: v :: r) (pc + 1) h
  | .iadd => ∃ x y r, st = vI y :: vI x :: r ∧ inR (x + y) ∧ K ls (vI (x + y) :: r) (pc + 1) h
  | .isub => ∃ x y r, st = vI y :: vI x :: r ∧ inR (x - y) ∧ K ls (vI (x - y) :: r) (pc + 1) h
  | .imul => ∃ x y r, st = vI y :: vI x :: r ∧ inR (x * y) ∧ K ls (vI (x * y) :: r) (pc + 1) h
  | .iand => ∃ x r, st = vI 15 :: vI x :: r ∧ K ls (vI (x % 16) :: r) (pc + 1) h
  | .ladd => ∃ x y r, st = vL y :: vL x :: r ∧ inL (x + y) ∧ K ls (vL (x + y) :: r) (pc + 1) h
  | .lsub => ∃ x y r, st = vL y :: vL x :: r ∧ inL (x - y) ∧ K ls (vL (x - y) :: r) (pc + 1) h
  | .lmul => ∃ x y r, st = vL y :: vL x :: r ∧ inL (x * y) ∧ K ls (vL (x * y) :: r) (pc + 1) h
  | .ldiv => ∃ x y r, st = vL y :: vL x :: r ∧ 0 ≤ x ∧ 0 < y ∧ K ls (vL (x / y) :: r) (pc + 1) h
  | .lcmp => ∃ x y r, st = vL y :: vL x :: r ∧ K ls (vI (pm_lc x y) :: r) (pc + 1) h
  | .i2l => ∃ x r, st = vI x :: r ∧ K ls (vL x :: r) (pc + 1) h
  | .i2c => ∃ x r, st = vI x :: r ∧ K ls (vI (x % 65536) :: r) (pc + 1) h
  | .i2f => ∃ x r, st = vI x :: r ∧ K ls (vF (FP.i2f (Int32.ofInt x)) :: r) (pc + 1) h
  | .f2d => ∃ x r, st = vF x :: r ∧ vf_n64 (FP.f2d x) ∧ K ls (vD (FP.f2d x) :: r) (pc + 1) h
  | .fadd => ∃ x y r, st = vF y :: vF x :: r ∧ vf_n32 (FP.fadd x y) ∧ K ls (vF (FP.fadd x y) :: r) (pc + 1) h
  | .fsub => ∃ x y r, st = vF y :: vF x :: r ∧ vf_n32 (FP.fsub x y) ∧ K ls (vF (FP.fsub x y) :: r) (pc + 1) h
  | .fmul => ∃ x y r, st = vF y :: vF x :: r ∧ vf_n32 (FP.fmul x y) ∧ K ls (vF (FP.fmul x y) :: r) (pc + 1) h
  | .fdiv => ∃ x y r, st = vF y :: vF x :: r ∧ vf_n32 (FP.fdiv x y) ∧ K ls (vF (FP.fdiv x y) :: r) (pc + 1) h
  | .fcmp op => ∃ x y r, st = vF y :: vF x :: r ∧ K ls (vI (pm_fc op x y) :: r) (pc + 1) h
  | .dcmp op => ∃ x y r, st = vD y :: vD x :: r ∧ K ls (vI (pm_dc op x y) :: r) (pc + 1) h
  | .goto off => ∃ tgt : Nat, (pc : Int) + off = (tgt : Int) ∧ K ls st tgt h
  | .ifCond q off => ∃ x r, st = vI x :: r ∧ ∃ tgt : Nat, (pc : Int) + off = (tgt : Int) ∧ (pm_c1 q x → K ls r tgt h) ∧ (¬ pm_c1 q x → K ls r (pc + 3) h)
  | .if_icmp q off => ∃ x y r, st = vI y :: vI x :: r ∧ ∃ tgt : Nat, (pc : Int) + off = (tgt : Int) ∧ (pm_c2 q x y → K ls r tgt h) ∧ (¬ pm_c2 q x y → K ls r (pc + 3) h)
  | .tableswitch _ lo hi offs => ∃ x r, st = vI x :: r ∧ lo ≤ x ∧ x ≤ hi ∧ ∃ off, offs[(x - lo).toNat]? = some off ∧ ∃ tgt : Nat, (pc : Int) + off = (tgt : Int) ∧ K ls r tgt h
  | .getfield _ => ∃ k r, st = vR k :: r ∧ ∃ fs v, pm_get h k = some (.inr (a, fs)) ∧ a < 7 ∧ b < pm_N a ∧ fs[b]? = some v ∧ K ls (v :: r) (pc + 3) h
  | .putfield _ => ∃ v k r, st = v :: vR k :: r ∧ ∃ fs, pm_get h k = some (.inr (a, fs)) ∧ a < 7 ∧ b < pm_N a ∧ b < fs.length ∧ pm_fit (pm_ty a b) v ∧ K ls r (pc + 3) (pm_set h k (.inr (a, fs.set b v)))
  | .new _ => (c = 0 → a < 7 ∧ K ls (vR h.1.length :: st) (pc + 3) (pm_push h (.inr (a, pm_new a)))) ∧ (c = 1 → 7 ≤ d ∧ M.hs = [] ∧ st = [] ∧ E (.inr a) (h.1, h.2 + 1)) ∧ c < 2
  | .newarray ty => ∃ n r z, st = vI n :: r ∧ 0 ≤ n ∧ n ≤ 1000 ∧ pm_zero ty = some z ∧ K ls (vR h.1.length :: r) (pc + 2) (pm_push h (.inl (newarray.typeOf ty, n.toNat, z)))
  | .anewarray _ => ∃ n r, st = vI n :: r ∧ 0 ≤ n ∧ n ≤ 1000 ∧ a < 7 ∧ K ls (vR h.1.length :: r) (pc + 3) (pm_push h (.inl (.object (pm_cn a), n.toNat, .inr (.inr (.inr (.inr (fun _ => none)))))))
  | .arraylength => ∃ v r, st = v :: r ∧ ((∃ k ty n z, v = vR k ∧ pm_get h k = some (.inl (ty, n, z)) ∧ n ≤ 1000 ∧ K ls (vI n :: r) (pc + 1) h) ∨ (v = vX 2 ∧ L ≤ 1000 ∧ K ls (vI L :: r) (pc + 1) h))
  | .iaload => ∃ i v r, st = vI i :: v :: r ∧ ((∃ k n f, v = vR k ∧ pm_get h k = some (.inl (.int, n, .inl f)) ∧ n ≤ 1000 ∧ 0 ≤ i ∧ i < n ∧ K ls (vI (f i.toNat) :: r) (pc + 1) h) ∨ (v = vX 2 ∧ L ≤ 1000 ∧ 0 ≤ i ∧ i < L ∧ K ls (vI (xs i.toNat) :: r) (pc + 1) h))
  | .baload => ∃ i k r n f, st = vI i :: vR k :: r ∧ pm_get h k = some (.inl (.boolean, n, .inl f)) ∧ n ≤ 1000 ∧ 0 ≤ i ∧ i < n ∧ K ls (vI (f i.toNat) :: r) (pc + 1) h
  | .caload => ∃ i k r n f, st = vI i :: vR k :: r ∧ pm_get h k = some (.inl (.char, n, .inl f)) ∧ n ≤ 1000 ∧ 0 ≤ i ∧ i < n ∧ K ls (vI (f i.toNat) :: r) (pc + 1) h
  | .laload => ∃ i k r n f, st = vI i :: vR k :: r ∧ pm_get h k = some (.inl (.long, n, .inr (.inl f))) ∧ n ≤ 1000 ∧ 0 ≤ i ∧ i < n ∧ K ls (vL (f i.toNat) :: r) (pc + 1) h
  | .faload => ∃ i k r n f, st = vI i :: vR k :: r ∧ pm_get h k = some (.inl (.float, n, .inr (.inr (.inl f)))) ∧ n ≤ 1000 ∧ 0 ≤ i ∧ i < n ∧ K ls (vF (f i.toNat) :: r) (pc + 1) h
  | .daload => ∃ i k r n f, st = vI i :: vR k :: r ∧ pm_get h k = some (.inl (.double, n, .inr (.inr (.inr (.inl f))))) ∧ n ≤ 1000 ∧ 0 ≤ i ∧ i < n ∧ K ls (vD (f i.toNat) :: r) (pc + 1) h
  | .aaload => ∃ i k r cn n f y, st = vI i :: vR k :: r ∧ pm_get h k = some (.inl (.object cn, n, .inr (.inr (.inr (.inr f))))) ∧ n ≤ 1000 ∧ 0 ≤ i ∧ i < n ∧ f i.toNat = some y ∧ K ls (vR y :: r) (pc + 1) h
  | .iastore => ∃ x i k r n f, st = vI x :: vI i :: vR k :: r ∧ pm_get h k = some (.inl (.int, n, .inl f)) ∧ n ≤ 1000 ∧ 0 ≤ i ∧ i < n ∧ K ls r (pc + 1) (pm_set h k (.inl (.int, n, .inl (pm_up f i.toNat x))))
  | .bastore => ∃ x i k r n f, st = vI x :: vI i :: vR k :: r ∧ pm_get h k = some (.inl (.boolean, n, .inl f)) ∧ n ≤ 1000 ∧ 0 ≤ i ∧ i < n ∧ (x = 0 ∨ x = 1) ∧ K ls r (pc + 1) (pm_set h k (.inl (.boolean, n, .inl (pm_up f i.toNat x))))
  | .castore => ∃ x i k r n f, st = vI x :: vI i :: vR k :: r ∧ pm_get h k = some (.inl (.char, n, .inl f)) ∧ n ≤ 1000 ∧ 0 ≤ i ∧ i < n ∧ 0 ≤ x ∧ x < 65536 ∧ K ls r (pc + 1) (pm_set h k (.inl (.char, n, .inl (pm_up f i.toNat x))))
  | .lastore => ∃ x i k r n f, st = vL x :: vI i :: vR k :: r ∧ pm_get h k = some (.inl (.long, n, .inr (.inl f))) ∧ n ≤ 1000 ∧ 0 ≤ i ∧ i < n ∧ K ls r (pc + 1) (pm_set h k (.inl (.long, n, .inr (.inl (pm_up f i.toNat x)))))
  | .fastore => ∃ x i k r n f, st = vF x :: vI i :: vR k :: r ∧ pm_get h k = some (.inl (.float, n, .inr (.inr (.inl f)))) ∧ n ≤ 1000 ∧ 0 ≤ i ∧ i < n ∧ K ls r (pc + 1) (pm_set h k (.inl (.float, n, .inr (.inr (.inl (pm_up f i.toNat x))))))
  | .dastore => ∃ x i k r n f, st = vD x :: vI i :: vR k :: r ∧ pm_get h k = some (.inl (.double, n, .inr (.inr (.inr (.inl f))))) ∧ n ≤ 1000 ∧ 0 ≤ i ∧ i < n ∧ K ls r (pc + 1) (pm_set h k (.inl (.double, n, .inr (.inr (.inr (.inl (pm_up f i.toNat x)))))))
  | .aastore => ∃ y i k r n f fs, st = vR y :: vI i :: vR k :: r ∧ a < 7 ∧ pm_get h k = some (.inl (.object (pm_cn a), n, .inr (.inr (.inr (.inr f))))) ∧ pm_get h y = some (.inr (a, fs)) ∧ n ≤ 1000 ∧ 0 ≤ i ∧ i < n ∧ K ls r (pc + 1) (pm_set h k (.inl (.object (pm_cn a), n, .inr (.inr (.inr (.inr (pm_up f i.toNat (some y))))))))
  | .ireturn => ∃ x r, st = vI x :: r ∧ (∃ t, M.ret = some t ∧ (t = .int ∨ (t = .boolean ∧ (x = 0 ∨ x = 1)) ∨ (t = .char ∧ 0 ≤ x ∧ x < 65536))) ∧ r = [] ∧ E (.inl (some (vI x))) h
  | .freturn => ∃ x r, st = vF x :: r ∧ M.ret = some .float ∧ r = [] ∧ E (.inl (some (vF x))) h
  | .lreturn => ∃ x r, st = vL x :: r ∧ M.ret = some .long ∧ r = [] ∧ E (.inl (some (vL x))) h
  | .return_ => M.ret = none ∧ st = [] ∧ E (.inl none) h
  | .invokespecial _ => (c = 1 → ∃ k r, st = vR k :: r ∧ r.length ≤ 4 ∧ 1 ≤ d ∧ K ls r (pc + 3) h) ∧ (c ≠ 1 → ∃ as k r, st = as.reverse ++ vR k :: r ∧ as.length = b ∧ pm_c8 r ≤ 8 ∧ ∃ h', C a (vR k :: as) h (.inl none) h' ∧ K ls r (pc + 3) h') ∧ c < 3
  | .invokevirtual _ => (c = 0 → ∃ as k r fs, st = as.reverse ++ vR k :: r ∧ as.length = b % 8 ∧ b / 8 < 7 ∧ pm_get h k = some (.inr (b / 8, fs)) ∧ r.length ≤ 4 ∧ ∃ o h', C a (vR k :: as) h o h' ∧ pm_back M ls pc K o r h')
      ∧ (c = 1 → ∃ i r, st = vX (3 + i) :: r ∧ r.length ≤ 4 ∧ i < 13 ∧ 4 ≤ d ∧ K ls (vI (txt i).length :: r) (pc + 3) h)
      ∧ (c = 2 → ∃ i j r x, st = vI j :: vX (3 + i) :: r ∧ r.length ≤ 4 ∧ i < 13 ∧ 4 ≤ d ∧ 0 ≤ j ∧ (txt i)[j.toNat]? = some x ∧ K ls (vI x :: r) (pc + 3) h) ∧ c < 3
  | .invokestatic _ => ((c = 0 ∨ 4 ≤ c) → ∃ as r, st = as.reverse ++ r ∧ as.length = b ∧ r.length ≤ 4 ∧ ∃ v h', C a as h (.inl v) h' ∧ K ls (v.toList ++ r) (pc + 3) h')
      ∧ (c = 1 → ∃ x y r, st = vI y :: vI x :: r ∧ r.length ≤ 4 ∧ 1 ≤ d ∧ K ls (vI (if x < y then y else x) :: r) (pc + 3) h)
      ∧ (c = 2 → ∃ k0 k1 n f n1 g, st = [vI n, vI 0, vR k1, vI 0, vR k0] ∧ 1 ≤ d ∧ 0 ≤ n ∧ pm_get h k0 = some (.inl (.int, n.toNat, .inl f)) ∧ pm_get h k1 = some (.inl (.int, n1, .inl g)) ∧ n.toNat ≤ n1 ∧ n1 ≤ 1000 ∧ K ls [] (pc + 3) (pm_set h k1 (.inl (.int, n1, .inl (fun j => if j < n.toNat then f j else g j)))))
      ∧ (c = 3 → ∃ k0 k1 n f n1 g, st = [vI n, vI 0, vR k1, vI 0, vR k0] ∧ 1 ≤ d ∧ 0 ≤ n ∧ pm_get h k0 = some (.inl (.float, n.toNat, .inr (.inr (.inl f)))) ∧ pm_get h k1 = some (.inl (.float, n1, .inr (.inr (.inl g)))) ∧ n.toNat ≤ n1 ∧ n1 ≤ 1000 ∧ K ls [] (pc + 3) (pm_set h k1 (.inl (.float, n1, .inr (.inr (.inl (fun j => if j < n.toNat then f j else g j))))))) ∧ c < 6
  | _ => False
end
/-- the entry of a code at a place -/
def pm_at (code : List pE) (pc : Nat) : Option pE := code.find? (fun q => q.1 == pc)
/-- one step: the instruction that stands at pc -/
def pm_step (txt : Nat → List Int) (L : Nat) (xs : Nat → Int) (C : Nat → List pV → pH → pO → pH → Prop) (d : Nat) (M : pM) (E : pO → pH → Prop) (X : List (Option pV) → List pV → Nat → pH → Prop) (ls : List (Option pV)) (st : List pV) (pc : Nat) (h : pH) : Prop :=
  ∃ q : pE, pm_at M.code pc = some q ∧ pm_i txt L xs C d M q.2.2.2.1 q.2.2.2.2.1 q.2.2.2.2.2 ls st pc h X E q.2.1
/-- the run of a frame from here comes to an end that E allows: the least such thing -/
def pR (txt : Nat → List Int) (L : Nat) (xs : Nat → Int) (C : Nat → List pV → pH → pO → pH → Prop) (d : Nat) (M : pM) (E : pO → pH → Prop) (ls : List (Option pV)) (st : List pV) (pc : Nat) (h : pH) : Prop :=
  ∀ X : List (Option pV) → List pV → Nat → pH → Prop, (∀ ls st pc h, pm_step txt L xs C d M E X ls st pc h → X ls st pc h) → X ls st pc h
/-- the locals at a method's entry -/
def pm_args : List pV → List (Option pV)
  | [] => []
  | v :: r => if pm_cat2 v then some v :: none :: pm_args r else some v :: pm_args r
def pm_entry (n : Nat) (as : List pV) : List (Option pV) := pm_args as ++ List.replicate (n - (pm_args as).length) none
/-- a call of method μ of the program P, at most d calls deep: it ends, so -/
def pCall (txt : Nat → List Int) (L : Nat) (xs : Nat → Int) (P : List pM) : Nat → Nat → List pV → pH → pO → pH → Prop
  | 0, _, _, _, _, _ => False
  | d + 1, μ, as, h, o, h' => ∃ M, P[μ]? = some M ∧ (pm_args as).length ≤ M.maxL ∧ pR txt L xs (pCall txt L xs P d) d M (fun o2 h2 => o2 = o ∧ h2 = h') (pm_entry M.maxL as) [] 0 h
