/-! ===== THE PURE MACHINE IS SOUND: branches, comparisons, conversions (written by wip/whole/gen_sx2.py) ===== -/
theorem i32_nat (z : Int32) (k : Nat) (hk : 0 < k) (hd : k ∣ 4294967296) : ((z.toBitVec.toNat % k : Nat) : Int) = z.toInt % (k : Int) := by
  have h1 : z.toInt = z.toBitVec.toInt := rfl
  obtain ⟨j, hj⟩ := hd
  rw [h1, BitVec.toInt_eq_toNat_cond]
  have hlt := z.toBitVec.isLt
  split
  · exact Int.natCast_emod _ _
  · rw [Int.natCast_emod]
    have e1 : ((2 ^ 32 : Nat) : Int) = (k : Int) * (j : Int) := by rw [show (2 ^ 32 : Nat) = 4294967296 from rfl, hj]; exact Int.natCast_mul _ _
    rw [e1, Int.sub_emod, Int.mul_emod_right, Int.sub_zero, Int.emod_emod]
theorem i32_and15 (z : Int32) : (z &&& 15).toInt = z.toInt % 16 := by
  rw [pk_and z (m := 15) 4 (by decide), nI_toInt (by omega)]
  exact i32_nat z 16 (by decide) (by decide)
theorem i32_c16 (z : Int32) : ((z.toUInt32 % 65536).toInt32).toInt = z.toInt % 65536 := by
  rw [pk_char, nI_toInt (by omega)]
  exact i32_nat z 65536 (by decide) (by decide)
theorem i32_lt {a b : Int32} : a < b ↔ a.toInt < b.toInt := Int32.lt_iff_toInt_lt
theorem i32_le {a b : Int32} : a ≤ b ↔ a.toInt ≤ b.toInt := Int32.le_iff_toInt_le
theorem i32_eq {a b : Int32} : a = b ↔ a.toInt = b.toInt := Int32.toInt_inj.symm
theorem i64_div {a b : Int64} (h1 : 0 ≤ a.toInt) (h2 : 0 < b.toInt) : (a / b).toInt = a.toInt / b.toInt := by
  rw [Int64.toInt_div, Int.tdiv_eq_ediv_of_nonneg h1]
  refine bm64 ⟨?_, ?_⟩
  · have := Int.ediv_nonneg h1 (Int.le_of_lt h2); omega
  · have := Int.ediv_le_self b.toInt h1; have := (i64_R a).2; omega
theorem lg_cmp_int (x y : Int64) : (lg_cmp x y).toInt = pm_lc x.toInt y.toInt := by
  unfold lg_cmp pm_lc
  by_cases h1 : y < x
  · have h2 : y.toInt < x.toInt := Int64.lt_iff_toInt_lt.mp h1
    rw [if_pos h1, if_neg (by omega), if_neg (by omega)]
    rfl
  · have h2 : ¬ y.toInt < x.toInt := fun q => h1 (Int64.lt_iff_toInt_lt.mpr q)
    rw [if_neg h1]
    by_cases h3 : x = y
    · subst h3
      rw [if_pos rfl, if_neg (by omega), if_pos rfl]
      rfl
    · have h4 : ¬ x.toInt = y.toInt := fun q => h3 (Int64.toInt_inj.mp q)
      rw [if_neg h3, if_pos (by omega)]
      rfl
section SX2
variable {p : Program} {l : Launch} {e : Env} {R : Room} {s : State} {m : MethodId} {args : Array Value} {below : List Frame} {meth : Method} {c : Code} {Q : State → Prop} {D : va_G} {V : Nat → Nat} {A : Nat → Prop} {ad0 : List Nat} {u0 v0 : Nat} {hF : pH} {ls : List (Option pV)} {st : List pV} {pc : Nat} {h : pH} {cc : ByteArray}
theorem sx_iand (hx : p.tables.exec = Jvm.exec) (hb : c.code = cc) (hdg : decode cc pc = .ok (.iand, 1)) (q : ∃ x r, st = vI 15 :: vI x :: r ∧ pm_X p l e R s m args below meth c Q D V A ad0 u0 v0 hF ls (vI (x % 16) :: r) (pc + 1) h) : pm_X p l e R s m args below meth c Q D V A ad0 u0 v0 hF ls st pc h := by
  obtain ⟨x, r, rfl, hK⟩ := q
  refine ⟨hK.1, fun H locs cells slots lsM stM hS => ?_⟩
  obtain ⟨ws, tys, ext, k1, k2, k3, k4, k5, k6, k7, k8, k9, k10⟩ := hS
  obtain ⟨w2, r2, rfl, ⟨z2, rfl, e2⟩, w1, r1, rfl, ⟨z1, rfl, e1⟩, k8⟩ := k8
  have hz : z2 = 15 := Int32.toInt_inj.mp (by rw [e2]; rfl)
  subst hz; subst e1
  exact lv_iand hx hb hdg (hK.2 _ _ _ _ _ _ ⟨ws, tys, ext, k1, k2, k3, k4, k5, k6, k7, ⟨_, _, rfl, ⟨_, rfl, i32_and15 z1⟩, k8⟩, k9, k10⟩)
theorem sx_ldiv (hx : p.tables.exec = Jvm.exec) (hb : c.code = cc) (hdg : decode cc pc = .ok (.ldiv, 1)) (q : ∃ x y r, st = vL y :: vL x :: r ∧ 0 ≤ x ∧ 0 < y ∧ pm_X p l e R s m args below meth c Q D V A ad0 u0 v0 hF ls (vL (x / y) :: r) (pc + 1) h) : pm_X p l e R s m args below meth c Q D V A ad0 u0 v0 hF ls st pc h := by
  obtain ⟨x, y, r, rfl, h1, h2, hK⟩ := q
  refine ⟨hK.1, fun H locs cells slots lsM stM hS => ?_⟩
  obtain ⟨ws, tys, ext, k1, k2, k3, k4, k5, k6, k7, k8, k9, k10⟩ := hS
  obtain ⟨w2, r2, rfl, ⟨z2, rfl, e2⟩, w1, r1, rfl, ⟨z1, rfl, e1⟩, k8⟩ := k8
  subst e1; subst e2
  exact lv_ldiv hx hb hdg (fun hq => by rw [hq] at h2; exact absurd h2 (by decide)) (hK.2 _ _ _ _ _ _ ⟨ws, tys, ext, k1, k2, k3, k4, k5, k6, k7, ⟨_, _, rfl, ⟨_, rfl, i64_div h1 h2⟩, k8⟩, k9, k10⟩)
theorem sx_lcmp (hx : p.tables.exec = Jvm.exec) (hb : c.code = cc) (hdg : decode cc pc = .ok (.lcmp, 1)) (q : ∃ x y r, st = vL y :: vL x :: r ∧ pm_X p l e R s m args below meth c Q D V A ad0 u0 v0 hF ls (vI (pm_lc x y) :: r) (pc + 1) h) : pm_X p l e R s m args below meth c Q D V A ad0 u0 v0 hF ls st pc h := by
  obtain ⟨x, y, r, rfl, hK⟩ := q
  refine ⟨hK.1, fun H locs cells slots lsM stM hS => ?_⟩
  obtain ⟨ws, tys, ext, k1, k2, k3, k4, k5, k6, k7, k8, k9, k10⟩ := hS
  obtain ⟨w2, r2, rfl, ⟨z2, rfl, e2⟩, w1, r1, rfl, ⟨z1, rfl, e1⟩, k8⟩ := k8
  subst e1; subst e2
  exact W.lcmp hx hb hdg (hK.2 _ _ _ _ _ _ ⟨ws, tys, ext, k1, k2, k3, k4, k5, k6, k7, ⟨_, _, rfl, ⟨_, rfl, lg_cmp_int _ _⟩, k8⟩, k9, k10⟩)
theorem sx_i2l (hx : p.tables.exec = Jvm.exec) (hb : c.code = cc) (hdg : decode cc pc = .ok (.i2l, 1)) (q : ∃ x r, st = vI x :: r ∧ pm_X p l e R s m args below meth c Q D V A ad0 u0 v0 hF ls (vL x :: r) (pc + 1) h) : pm_X p l e R s m args below meth c Q D V A ad0 u0 v0 hF ls st pc h := by
  obtain ⟨x, r, rfl, hK⟩ := q
  refine ⟨hK.1, fun H locs cells slots lsM stM hS => ?_⟩
  obtain ⟨ws, tys, ext, k1, k2, k3, k4, k5, k6, k7, k8, k9, k10⟩ := hS
  obtain ⟨w1, r1, rfl, ⟨z1, rfl, e1⟩, k8⟩ := k8
  subst e1
  exact lv_i2l hx hb hdg rfl (hK.2 _ _ _ _ _ _ ⟨ws, tys, ext, k1, k2, k3, k4, k5, k6, k7, ⟨_, _, rfl, ⟨_, rfl, Int32.toInt_toInt64 _⟩, k8⟩, k9, k10⟩)
theorem sx_i2c (hx : p.tables.exec = Jvm.exec) (hb : c.code = cc) (hdg : decode cc pc = .ok (.i2c, 1)) (q : ∃ x r, st = vI x :: r ∧ pm_X p l e R s m args below meth c Q D V A ad0 u0 v0 hF ls (vI (x % 65536) :: r) (pc + 1) h) : pm_X p l e R s m args below meth c Q D V A ad0 u0 v0 hF ls st pc h := by
  obtain ⟨x, r, rfl, hK⟩ := q
  refine ⟨hK.1, fun H locs cells slots lsM stM hS => ?_⟩
  obtain ⟨ws, tys, ext, k1, k2, k3, k4, k5, k6, k7, k8, k9, k10⟩ := hS
  obtain ⟨w1, r1, rfl, ⟨z1, rfl, e1⟩, k8⟩ := k8
  subst e1
  exact lv_i2c hx hb hdg rfl (hK.2 _ _ _ _ _ _ ⟨ws, tys, ext, k1, k2, k3, k4, k5, k6, k7, ⟨_, _, rfl, ⟨_, rfl, i32_c16 _⟩, k8⟩, k9, k10⟩)
theorem sx_i2f (hx : p.tables.exec = Jvm.exec) (hb : c.code = cc) (hdg : decode cc pc = .ok (.i2f, 1)) (q : ∃ x r, st = vI x :: r ∧ pm_X p l e R s m args below meth c Q D V A ad0 u0 v0 hF ls (vF (FP.i2f (Int32.ofInt x)) :: r) (pc + 1) h) : pm_X p l e R s m args below meth c Q D V A ad0 u0 v0 hF ls st pc h := by
  obtain ⟨x, r, rfl, hK⟩ := q
  refine ⟨hK.1, fun H locs cells slots lsM stM hS => ?_⟩
  obtain ⟨ws, tys, ext, k1, k2, k3, k4, k5, k6, k7, k8, k9, k10⟩ := hS
  obtain ⟨w1, r1, rfl, ⟨z1, rfl, e1⟩, k8⟩ := k8
  subst e1
  exact lv_i2f hx hb hdg (hK.2 _ _ _ _ _ _ ⟨ws, tys, ext, k1, k2, k3, k4, k5, k6, k7, ⟨_, _, rfl, by rw [i32_back]; rfl, k8⟩, k9, k10⟩)
theorem sx_f2d (hx : p.tables.exec = Jvm.exec) (hb : c.code = cc) (hdg : decode cc pc = .ok (.f2d, 1)) (q : ∃ x r, st = vF x :: r ∧ vf_n64 (FP.f2d x) ∧ pm_X p l e R s m args below meth c Q D V A ad0 u0 v0 hF ls (vD (FP.f2d x) :: r) (pc + 1) h) : pm_X p l e R s m args below meth c Q D V A ad0 u0 v0 hF ls st pc h := by
  obtain ⟨x, r, rfl, hc, hK⟩ := q
  refine ⟨hK.1, fun H locs cells slots lsM stM hS => ?_⟩
  obtain ⟨ws, tys, ext, k1, k2, k3, k4, k5, k6, k7, k8, k9, k10⟩ := hS
  obtain ⟨w1, r1, rfl, rfl, k8⟩ := k8
  exact lv_f2d hx hb hdg hc (hK.2 _ _ _ _ _ _ ⟨ws, tys, ext, k1, k2, k3, k4, k5, k6, k7, ⟨_, _, rfl, rfl, k8⟩, k9, k10⟩)
theorem sx_fcmp (hx : p.tables.exec = Jvm.exec) (hb : c.code = cc) {op : CmpOp} (hdg : decode cc pc = .ok (.fcmp op, 1)) (q : ∃ x y r, st = vF y :: vF x :: r ∧ pm_X p l e R s m args below meth c Q D V A ad0 u0 v0 hF ls (vI (pm_fc op x y) :: r) (pc + 1) h) : pm_X p l e R s m args below meth c Q D V A ad0 u0 v0 hF ls st pc h := by
  obtain ⟨x, y, r, rfl, hK⟩ := q
  refine ⟨hK.1, fun H locs cells slots lsM stM hS => ?_⟩
  obtain ⟨ws, tys, ext, k1, k2, k3, k4, k5, k6, k7, k8, k9, k10⟩ := hS
  obtain ⟨w2, r2, rfl, rfl, w1, r1, rfl, rfl, k8⟩ := k8
  exact lv_fcmp hx hb hdg (hK.2 _ _ _ _ _ _ ⟨ws, tys, ext, k1, k2, k3, k4, k5, k6, k7, ⟨_, _, rfl, ⟨_, rfl, rfl⟩, k8⟩, k9, k10⟩)
theorem sx_dcmp (hx : p.tables.exec = Jvm.exec) (hb : c.code = cc) {op : CmpOp} (hdg : decode cc pc = .ok (.dcmp op, 1)) (q : ∃ x y r, st = vD y :: vD x :: r ∧ pm_X p l e R s m args below meth c Q D V A ad0 u0 v0 hF ls (vI (pm_dc op x y) :: r) (pc + 1) h) : pm_X p l e R s m args below meth c Q D V A ad0 u0 v0 hF ls st pc h := by
  obtain ⟨x, y, r, rfl, hK⟩ := q
  refine ⟨hK.1, fun H locs cells slots lsM stM hS => ?_⟩
  obtain ⟨ws, tys, ext, k1, k2, k3, k4, k5, k6, k7, k8, k9, k10⟩ := hS
  obtain ⟨w2, r2, rfl, rfl, w1, r1, rfl, rfl, k8⟩ := k8
  exact lv_dcmp hx hb hdg (hK.2 _ _ _ _ _ _ ⟨ws, tys, ext, k1, k2, k3, k4, k5, k6, k7, ⟨_, _, rfl, ⟨_, rfl, rfl⟩, k8⟩, k9, k10⟩)
theorem sx_goto (hx : p.tables.exec = Jvm.exec) (hb : c.code = cc) {off : Int} (hdg : decode cc pc = .ok (.goto off, 3)) (q : ∃ tgt : Nat, (pc : Int) + off = (tgt : Int) ∧ pm_X p l e R s m args below meth c Q D V A ad0 u0 v0 hF ls st tgt h) : pm_X p l e R s m args below meth c Q D V A ad0 u0 v0 hF ls st pc h := by
  obtain ⟨tgt, ht, hK⟩ := q
  refine ⟨hK.1, fun H locs cells slots lsM stM hS => ?_⟩
  obtain ⟨ws, tys, ext, k1, k2, k3, k4, k5, k6, k7, k8, k9, k10⟩ := hS
  exact lv_goto hx hb hdg ht (hK.2 _ _ _ _ _ _ ⟨ws, tys, ext, k1, k2, k3, k4, k5, k6, k7, k8, k9, k10⟩)
theorem sx_tsw (hx : p.tables.exec = Jvm.exec) (hb : c.code = cc) {df lo hi : Int} {offs : Array Int} {len : Nat} (hdg : decode cc pc = .ok (.tableswitch df lo hi offs, len)) (q : ∃ x r, st = vI x :: r ∧ lo ≤ x ∧ x ≤ hi ∧ ∃ off, offs[(x - lo).toNat]? = some off ∧ ∃ tgt : Nat, (pc : Int) + off = (tgt : Int) ∧ pm_X p l e R s m args below meth c Q D V A ad0 u0 v0 hF ls r tgt h) : pm_X p l e R s m args below meth c Q D V A ad0 u0 v0 hF ls st pc h := by
  obtain ⟨x, r, rfl, h1, h2, off, ho, tgt, ht, hK⟩ := q
  refine ⟨hK.1, fun H locs cells slots lsM stM hS => ?_⟩
  obtain ⟨ws, tys, ext, k1, k2, k3, k4, k5, k6, k7, k8, k9, k10⟩ := hS
  obtain ⟨w1, r1, rfl, ⟨z1, rfl, e1⟩, k8⟩ := k8
  subst e1
  exact lv_tableIn hx hb hdg (by omega) (by omega) ho ht (hK.2 _ _ _ _ _ _ ⟨ws, tys, ext, k1, k2, k3, k4, k5, k6, k7, k8, k9, k10⟩)
theorem sx_if (hx : p.tables.exec = Jvm.exec) (hb : c.code = cc) {k : ClassFile.Cond} {off : Int} (hdg : decode cc pc = .ok (.ifCond k off, 3)) (q : ∃ x r, st = vI x :: r ∧ ∃ tgt : Nat, (pc : Int) + off = (tgt : Int) ∧ (pm_c1 k x → pm_X p l e R s m args below meth c Q D V A ad0 u0 v0 hF ls r tgt h) ∧ (¬ pm_c1 k x → pm_X p l e R s m args below meth c Q D V A ad0 u0 v0 hF ls r (pc + 3) h)) : pm_X p l e R s m args below meth c Q D V A ad0 u0 v0 hF ls st pc h := by
  obtain ⟨x, r, rfl, tgt, ht, hT, hN⟩ := q
  refine ⟨(Classical.byCases (fun z => (hT z).1) (fun z => (hN z).1) : _), fun H locs cells slots lsM stM hS => ?_⟩
  obtain ⟨ws, tys, ext, k1, k2, k3, k4, k5, k6, k7, k8, k9, k10⟩ := hS
  obtain ⟨w1, r1, rfl, ⟨z1, rfl, e1⟩, k8⟩ := k8
  subst e1
  have e0 : (0 : Int32).toInt = 0 := rfl
  have HT : pm_c1 k z1.toInt → W p l e R s m args below meth c H locs cells slots Q (F0 m tgt lsM r1) := fun z => (hT z).2 _ _ _ _ _ _ ⟨ws, tys, ext, k1, k2, k3, k4, k5, k6, k7, k8, k9, k10⟩
  have HN : ¬ pm_c1 k z1.toInt → W p l e R s m args below meth c H locs cells slots Q (F0 m (pc + 3) lsM r1) := fun z => (hN z).2 _ _ _ _ _ _ ⟨ws, tys, ext, k1, k2, k3, k4, k5, k6, k7, k8, k9, k10⟩
  cases k with
  | eq => exact lv_if_eq hx hb hdg ht (fun z => HT (by rw [z]; rfl)) (fun z => HN (fun y => z (i32_eq.mpr (y.trans e0.symm))))
  | ne => exact lv_if_ne hx hb hdg ht (fun z => HT (fun y => z (i32_eq.mpr (y.trans e0.symm)))) (fun z => HN (fun y => y (by rw [z]; rfl)))
  | lt => exact lv_if_lt hx hb hdg ht (fun z => HT (by have := i32_lt.mp z; rw [e0] at this; exact this)) (fun z => HN (fun y => z (i32_lt.mpr (by rw [e0]; exact y))))
  | ge => exact lv_if_ge hx hb hdg ht (fun z => HT (by have := i32_le.mp z; rw [e0] at this; exact this)) (fun z => HN (fun y => z (i32_le.mpr (by rw [e0]; exact y))))
  | gt => exact lv_if_gt hx hb hdg ht (fun z => HT (by have := i32_lt.mp z; rw [e0] at this; exact this)) (fun z => HN (fun y => z (i32_lt.mpr (by rw [e0]; exact y))))
  | le => exact lv_if_le hx hb hdg ht (fun z => HT (by have := i32_le.mp z; rw [e0] at this; exact this)) (fun z => HN (fun y => z (i32_le.mpr (by rw [e0]; exact y))))
theorem sx_icmp (hx : p.tables.exec = Jvm.exec) (hb : c.code = cc) {k : ClassFile.Cond} {off : Int} (hdg : decode cc pc = .ok (.if_icmp k off, 3)) (q : ∃ x y r, st = vI y :: vI x :: r ∧ ∃ tgt : Nat, (pc : Int) + off = (tgt : Int) ∧ (pm_c2 k x y → pm_X p l e R s m args below meth c Q D V A ad0 u0 v0 hF ls r tgt h) ∧ (¬ pm_c2 k x y → pm_X p l e R s m args below meth c Q D V A ad0 u0 v0 hF ls r (pc + 3) h)) : pm_X p l e R s m args below meth c Q D V A ad0 u0 v0 hF ls st pc h := by
  obtain ⟨x, y, r, rfl, tgt, ht, hT, hN⟩ := q
  refine ⟨(Classical.byCases (fun z => (hT z).1) (fun z => (hN z).1) : _), fun H locs cells slots lsM stM hS => ?_⟩
  obtain ⟨ws, tys, ext, k1, k2, k3, k4, k5, k6, k7, k8, k9, k10⟩ := hS
  obtain ⟨w2, r2, rfl, ⟨z2, rfl, e2⟩, w1, r1, rfl, ⟨z1, rfl, e1⟩, k8⟩ := k8
  subst e1; subst e2
  have HT : pm_c2 k z1.toInt z2.toInt → W p l e R s m args below meth c H locs cells slots Q (F0 m tgt lsM r1) := fun z => (hT z).2 _ _ _ _ _ _ ⟨ws, tys, ext, k1, k2, k3, k4, k5, k6, k7, k8, k9, k10⟩
  have HN : ¬ pm_c2 k z1.toInt z2.toInt → W p l e R s m args below meth c H locs cells slots Q (F0 m (pc + 3) lsM r1) := fun z => (hN z).2 _ _ _ _ _ _ ⟨ws, tys, ext, k1, k2, k3, k4, k5, k6, k7, k8, k9, k10⟩
  cases k with
  | eq => exact lv_icmp_eq hx hb hdg ht (fun z => HT (by rw [z]; rfl)) (fun z => HN (fun y => z (i32_eq.mpr y)))
  | ne => exact lv_icmp_ne hx hb hdg ht (fun z => HT (fun y => z (i32_eq.mpr y))) (fun z => HN (fun y => y (by rw [z])))
  | lt => exact lv_icmp_lt hx hb hdg ht (fun z => HT (i32_lt.mp z)) (fun z => HN (fun y => z (i32_lt.mpr y)))
  | ge => exact lv_icmp_ge hx hb hdg ht (fun z => HT (i32_le.mp z)) (fun z => HN (fun y => z (i32_le.mpr y)))
  | gt => exact lv_icmp_gt hx hb hdg ht (fun z => HT (i32_lt.mp z)) (fun z => HN (fun y => z (i32_lt.mpr y)))
  | le => exact lv_icmp_le hx hb hdg ht (fun z => HT (i32_le.mp z)) (fun z => HN (fun y => z (i32_le.mpr y)))
end SX2
