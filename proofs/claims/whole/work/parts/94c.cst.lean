/-! ===== NORMAL FORMS OF THE TWO READERS (written by wip/whole/gen_cst.py) ===== -/
def cS (b : pS) (p k ir fi ti c : Int) (u : UInt32) (D : Dr) : pS := (fun f i => if f = 401 ∧ i = 0 then p else if f = 404 ∧ i = 0 then k else if f = 406 ∧ i = 0 then ir else if f = 407 ∧ i = 0 then fi else if f = 408 ∧ i = 0 then ti else if f = 304 ∧ i = 2 then c else b.1 f i, fun f i => if f = 405 ∧ i = 0 then u else b.2.1 f i, fun f i => if f = 300 ∧ i = 2 then D.1 else if f = 302 ∧ i = 2 then D.2.2.1 else b.2.2.1 f i, fun f i => if f = 301 ∧ i = 2 then D.2.1 else if f = 303 ∧ i = 2 then D.2.2.2 else b.2.2.2.1 f i, b.2.2.2.2)
section
variable {b : pS} {p k ir fi ti c : Int} {u : UInt32} {D : Dr}
theorem cS_I401 : sI (cS b p k ir fi ti c u D) 401 0 = p := by unfold sI cS; simp
theorem cS_I401w (v : Int) : wI (cS b p k ir fi ti c u D) 401 0 v = cS b v k ir fi ti c u D := by
  unfold wI cS up2
  refine Prod.ext ?_ rfl
  funext f i
  by_cases h : f = 401 ∧ i = 0
  · obtain ⟨rfl, rfl⟩ := h; simp
  · simp only [if_neg h]
theorem cS_I404 : sI (cS b p k ir fi ti c u D) 404 0 = k := by unfold sI cS; simp
theorem cS_I404w (v : Int) : wI (cS b p k ir fi ti c u D) 404 0 v = cS b p v ir fi ti c u D := by
  unfold wI cS up2
  refine Prod.ext ?_ rfl
  funext f i
  by_cases h : f = 404 ∧ i = 0
  · obtain ⟨rfl, rfl⟩ := h; simp
  · simp only [if_neg h]
theorem cS_I406 : sI (cS b p k ir fi ti c u D) 406 0 = ir := by unfold sI cS; simp
theorem cS_I406w (v : Int) : wI (cS b p k ir fi ti c u D) 406 0 v = cS b p k v fi ti c u D := by
  unfold wI cS up2
  refine Prod.ext ?_ rfl
  funext f i
  by_cases h : f = 406 ∧ i = 0
  · obtain ⟨rfl, rfl⟩ := h; simp
  · simp only [if_neg h]
theorem cS_I407 : sI (cS b p k ir fi ti c u D) 407 0 = fi := by unfold sI cS; simp
theorem cS_I407w (v : Int) : wI (cS b p k ir fi ti c u D) 407 0 v = cS b p k ir v ti c u D := by
  unfold wI cS up2
  refine Prod.ext ?_ rfl
  funext f i
  by_cases h : f = 407 ∧ i = 0
  · obtain ⟨rfl, rfl⟩ := h; simp
  · simp only [if_neg h]
theorem cS_I408 : sI (cS b p k ir fi ti c u D) 408 0 = ti := by unfold sI cS; simp
theorem cS_I408w (v : Int) : wI (cS b p k ir fi ti c u D) 408 0 v = cS b p k ir fi v c u D := by
  unfold wI cS up2
  refine Prod.ext ?_ rfl
  funext f i
  by_cases h : f = 408 ∧ i = 0
  · obtain ⟨rfl, rfl⟩ := h; simp
  · simp only [if_neg h]
theorem cS_I304 : sI (cS b p k ir fi ti c u D) 304 2 = c := by unfold sI cS; simp
theorem cS_I304w (v : Int) : wI (cS b p k ir fi ti c u D) 304 2 v = cS b p k ir fi ti v u D := by
  unfold wI cS up2
  refine Prod.ext ?_ rfl
  funext f i
  by_cases h : f = 304 ∧ i = 2
  · obtain ⟨rfl, rfl⟩ := h; simp
  · simp only [if_neg h]
theorem cS_F405 : sF (cS b p k ir fi ti c u D) 405 0 = u := by unfold sF cS; simp
theorem cS_F405w (v : UInt32) : wF (cS b p k ir fi ti c u D) 405 0 v = cS b p k ir fi ti c v D := by
  unfold wF cS up2
  refine Prod.ext rfl (Prod.ext ?_ rfl)
  funext f i
  by_cases h : f = 405 ∧ i = 0
  · obtain ⟨rfl, rfl⟩ := h; simp
  · simp only [if_neg h]
theorem cS_A300 : sA (cS b p k ir fi ti c u D) 300 2 = D.1 := by unfold sA cS; simp
theorem cS_A300w (v : Nat → Int) : wA (cS b p k ir fi ti c u D) 300 2 v = cS b p k ir fi ti c u (v, D.2) := by
  unfold wA cS up2
  refine Prod.ext rfl (Prod.ext rfl (Prod.ext ?_ rfl))
  funext f i
  by_cases h : f = 300 ∧ i = 2
  · obtain ⟨rfl, rfl⟩ := h; simp
  · simp only [if_neg h]
theorem cS_A302 : sA (cS b p k ir fi ti c u D) 302 2 = D.2.2.1 := by unfold sA cS; simp
theorem cS_A302w (v : Nat → Int) : wA (cS b p k ir fi ti c u D) 302 2 v = cS b p k ir fi ti c u (D.1, D.2.1, v, D.2.2.2) := by
  unfold wA cS up2
  refine Prod.ext rfl (Prod.ext rfl (Prod.ext ?_ rfl))
  funext f i
  by_cases h : f = 302 ∧ i = 2
  · obtain ⟨rfl, rfl⟩ := h; simp
  · simp only [if_neg h]
theorem cS_B301 : sB (cS b p k ir fi ti c u D) 301 2 = D.2.1 := by unfold sB cS; simp
theorem cS_B301w (v : Nat → UInt32) : wB (cS b p k ir fi ti c u D) 301 2 v = cS b p k ir fi ti c u (D.1, v, D.2.2) := by
  unfold wB cS up2
  refine Prod.ext rfl (Prod.ext rfl (Prod.ext rfl (Prod.ext ?_ rfl)))
  funext f i
  by_cases h : f = 301 ∧ i = 2
  · obtain ⟨rfl, rfl⟩ := h; simp
  · simp only [if_neg h]
theorem cS_B303 : sB (cS b p k ir fi ti c u D) 303 2 = D.2.2.2 := by unfold sB cS; simp
theorem cS_B303w (v : Nat → UInt32) : wB (cS b p k ir fi ti c u D) 303 2 v = cS b p k ir fi ti c u (D.1, D.2.1, D.2.2.1, v) := by
  unfold wB cS up2
  refine Prod.ext rfl (Prod.ext rfl (Prod.ext rfl (Prod.ext ?_ rfl)))
  funext f i
  by_cases h : f = 303 ∧ i = 2
  · obtain ⟨rfl, rfl⟩ := h; simp
  · simp only [if_neg h]
theorem cS_Io {f i : Nat} (h : (¬ (f = 401 ∧ i = 0) ∧ ¬ (f = 404 ∧ i = 0) ∧ ¬ (f = 406 ∧ i = 0) ∧ ¬ (f = 407 ∧ i = 0) ∧ ¬ (f = 408 ∧ i = 0) ∧ ¬ (f = 304 ∧ i = 2))) : sI (cS b p k ir fi ti c u D) f i = sI b f i := by
  obtain ⟨h0, h1, h2, h3, h4, h5⟩ := h
  unfold sI cS
  simp only [if_neg h0, if_neg h1, if_neg h2, if_neg h3, if_neg h4, if_neg h5]
theorem cS_Fo {f i : Nat} (h : (¬ (f = 405 ∧ i = 0))) : sF (cS b p k ir fi ti c u D) f i = sF b f i := by
  have h0 := h
  unfold sF cS
  simp only [if_neg h0]
theorem cS_Ao {f i : Nat} (h : (¬ (f = 300 ∧ i = 2) ∧ ¬ (f = 302 ∧ i = 2))) : sA (cS b p k ir fi ti c u D) f i = sA b f i := by
  obtain ⟨h0, h1⟩ := h
  unfold sA cS
  simp only [if_neg h0, if_neg h1]
theorem cS_Bo {f i : Nat} (h : (¬ (f = 301 ∧ i = 2) ∧ ¬ (f = 303 ∧ i = 2))) : sB (cS b p k ir fi ti c u D) f i = sB b f i := by
  obtain ⟨h0, h1⟩ := h
  unfold sB cS
  simp only [if_neg h0, if_neg h1]
theorem cS_N : sN (cS b p k ir fi ti c u D) = sN b := rfl
theorem cS_self (b : pS) : cS b (sI b 401 0) (sI b 404 0) (sI b 406 0) (sI b 407 0) (sI b 408 0) (sI b 304 2) (sF b 405 0) (sA b 300 2, sB b 301 2, sA b 302 2, sB b 303 2) = b := by
  unfold cS sI sF sA sB
  refine Prod.ext (funext fun f => funext fun i => ?_) (Prod.ext (funext fun f => funext fun i => ?_) (Prod.ext (funext fun f => funext fun i => ?_) (Prod.ext (funext fun f => funext fun i => ?_) rfl)))
  · dsimp only
    by_cases h0 : f = 401 ∧ i = 0
    · obtain ⟨rfl, rfl⟩ := h0; simp
    by_cases h1 : f = 404 ∧ i = 0
    · obtain ⟨rfl, rfl⟩ := h1; simp
    by_cases h2 : f = 406 ∧ i = 0
    · obtain ⟨rfl, rfl⟩ := h2; simp
    by_cases h3 : f = 407 ∧ i = 0
    · obtain ⟨rfl, rfl⟩ := h3; simp
    by_cases h4 : f = 408 ∧ i = 0
    · obtain ⟨rfl, rfl⟩ := h4; simp
    by_cases h5 : f = 304 ∧ i = 2
    · obtain ⟨rfl, rfl⟩ := h5; simp
    simp only [if_neg h0, if_neg h1, if_neg h2, if_neg h3, if_neg h4, if_neg h5]
  · dsimp only
    by_cases h0 : f = 405 ∧ i = 0
    · obtain ⟨rfl, rfl⟩ := h0; simp
    simp only [if_neg h0]
  · dsimp only
    by_cases h0 : f = 300 ∧ i = 2
    · obtain ⟨rfl, rfl⟩ := h0; simp
    by_cases h1 : f = 302 ∧ i = 2
    · obtain ⟨rfl, rfl⟩ := h1; simp
    simp only [if_neg h0, if_neg h1]
  · dsimp only
    by_cases h0 : f = 301 ∧ i = 2
    · obtain ⟨rfl, rfl⟩ := h0; simp
    by_cases h1 : f = 303 ∧ i = 2
    · obtain ⟨rfl, rfl⟩ := h1; simp
    simp only [if_neg h0, if_neg h1]
end
def rS (b : pS) (p en st rd kd lk hk : Int) (nu lu hu : UInt32) (D : Dr) : pS := (fun f i => if f = 609 ∧ i = 0 then p else if f = 610 ∧ i = 0 then en else if f = 611 ∧ i = 0 then st else if f = 612 ∧ i = 0 then rd else if f = 613 ∧ i = 0 then kd else if f = 615 ∧ i = 0 then lk else if f = 616 ∧ i = 0 then hk else b.1 f i, fun f i => if f = 614 ∧ i = 0 then nu else if f = 617 ∧ i = 0 then lu else if f = 618 ∧ i = 0 then hu else b.2.1 f i, fun f i => if f = 605 ∧ i = 0 then D.1 else if f = 606 ∧ i = 0 then D.2.2.1 else b.2.2.1 f i, fun f i => if f = 607 ∧ i = 0 then D.2.1 else if f = 608 ∧ i = 0 then D.2.2.2 else b.2.2.2.1 f i, b.2.2.2.2)
section
variable {b : pS} {p en st rd kd lk hk : Int} {nu lu hu : UInt32} {D : Dr}
theorem rS_I609 : sI (rS b p en st rd kd lk hk nu lu hu D) 609 0 = p := by unfold sI rS; simp
theorem rS_I609w (v : Int) : wI (rS b p en st rd kd lk hk nu lu hu D) 609 0 v = rS b v en st rd kd lk hk nu lu hu D := by
  unfold wI rS up2
  refine Prod.ext ?_ rfl
  funext f i
  by_cases h : f = 609 ∧ i = 0
  · obtain ⟨rfl, rfl⟩ := h; simp
  · simp only [if_neg h]
theorem rS_I610 : sI (rS b p en st rd kd lk hk nu lu hu D) 610 0 = en := by unfold sI rS; simp
theorem rS_I610w (v : Int) : wI (rS b p en st rd kd lk hk nu lu hu D) 610 0 v = rS b p v st rd kd lk hk nu lu hu D := by
  unfold wI rS up2
  refine Prod.ext ?_ rfl
  funext f i
  by_cases h : f = 610 ∧ i = 0
  · obtain ⟨rfl, rfl⟩ := h; simp
  · simp only [if_neg h]
theorem rS_I611 : sI (rS b p en st rd kd lk hk nu lu hu D) 611 0 = st := by unfold sI rS; simp
theorem rS_I611w (v : Int) : wI (rS b p en st rd kd lk hk nu lu hu D) 611 0 v = rS b p en v rd kd lk hk nu lu hu D := by
  unfold wI rS up2
  refine Prod.ext ?_ rfl
  funext f i
  by_cases h : f = 611 ∧ i = 0
  · obtain ⟨rfl, rfl⟩ := h; simp
  · simp only [if_neg h]
theorem rS_I612 : sI (rS b p en st rd kd lk hk nu lu hu D) 612 0 = rd := by unfold sI rS; simp
theorem rS_I612w (v : Int) : wI (rS b p en st rd kd lk hk nu lu hu D) 612 0 v = rS b p en st v kd lk hk nu lu hu D := by
  unfold wI rS up2
  refine Prod.ext ?_ rfl
  funext f i
  by_cases h : f = 612 ∧ i = 0
  · obtain ⟨rfl, rfl⟩ := h; simp
  · simp only [if_neg h]
theorem rS_I613 : sI (rS b p en st rd kd lk hk nu lu hu D) 613 0 = kd := by unfold sI rS; simp
theorem rS_I613w (v : Int) : wI (rS b p en st rd kd lk hk nu lu hu D) 613 0 v = rS b p en st rd v lk hk nu lu hu D := by
  unfold wI rS up2
  refine Prod.ext ?_ rfl
  funext f i
  by_cases h : f = 613 ∧ i = 0
  · obtain ⟨rfl, rfl⟩ := h; simp
  · simp only [if_neg h]
theorem rS_I615 : sI (rS b p en st rd kd lk hk nu lu hu D) 615 0 = lk := by unfold sI rS; simp
theorem rS_I615w (v : Int) : wI (rS b p en st rd kd lk hk nu lu hu D) 615 0 v = rS b p en st rd kd v hk nu lu hu D := by
  unfold wI rS up2
  refine Prod.ext ?_ rfl
  funext f i
  by_cases h : f = 615 ∧ i = 0
  · obtain ⟨rfl, rfl⟩ := h; simp
  · simp only [if_neg h]
theorem rS_I616 : sI (rS b p en st rd kd lk hk nu lu hu D) 616 0 = hk := by unfold sI rS; simp
theorem rS_I616w (v : Int) : wI (rS b p en st rd kd lk hk nu lu hu D) 616 0 v = rS b p en st rd kd lk v nu lu hu D := by
  unfold wI rS up2
  refine Prod.ext ?_ rfl
  funext f i
  by_cases h : f = 616 ∧ i = 0
  · obtain ⟨rfl, rfl⟩ := h; simp
  · simp only [if_neg h]
theorem rS_F614 : sF (rS b p en st rd kd lk hk nu lu hu D) 614 0 = nu := by unfold sF rS; simp
theorem rS_F614w (v : UInt32) : wF (rS b p en st rd kd lk hk nu lu hu D) 614 0 v = rS b p en st rd kd lk hk v lu hu D := by
  unfold wF rS up2
  refine Prod.ext rfl (Prod.ext ?_ rfl)
  funext f i
  by_cases h : f = 614 ∧ i = 0
  · obtain ⟨rfl, rfl⟩ := h; simp
  · simp only [if_neg h]
theorem rS_F617 : sF (rS b p en st rd kd lk hk nu lu hu D) 617 0 = lu := by unfold sF rS; simp
theorem rS_F617w (v : UInt32) : wF (rS b p en st rd kd lk hk nu lu hu D) 617 0 v = rS b p en st rd kd lk hk nu v hu D := by
  unfold wF rS up2
  refine Prod.ext rfl (Prod.ext ?_ rfl)
  funext f i
  by_cases h : f = 617 ∧ i = 0
  · obtain ⟨rfl, rfl⟩ := h; simp
  · simp only [if_neg h]
theorem rS_F618 : sF (rS b p en st rd kd lk hk nu lu hu D) 618 0 = hu := by unfold sF rS; simp
theorem rS_F618w (v : UInt32) : wF (rS b p en st rd kd lk hk nu lu hu D) 618 0 v = rS b p en st rd kd lk hk nu lu v D := by
  unfold wF rS up2
  refine Prod.ext rfl (Prod.ext ?_ rfl)
  funext f i
  by_cases h : f = 618 ∧ i = 0
  · obtain ⟨rfl, rfl⟩ := h; simp
  · simp only [if_neg h]
theorem rS_A605 : sA (rS b p en st rd kd lk hk nu lu hu D) 605 0 = D.1 := by unfold sA rS; simp
theorem rS_A605w (v : Nat → Int) : wA (rS b p en st rd kd lk hk nu lu hu D) 605 0 v = rS b p en st rd kd lk hk nu lu hu (v, D.2) := by
  unfold wA rS up2
  refine Prod.ext rfl (Prod.ext rfl (Prod.ext ?_ rfl))
  funext f i
  by_cases h : f = 605 ∧ i = 0
  · obtain ⟨rfl, rfl⟩ := h; simp
  · simp only [if_neg h]
theorem rS_A606 : sA (rS b p en st rd kd lk hk nu lu hu D) 606 0 = D.2.2.1 := by unfold sA rS; simp
theorem rS_A606w (v : Nat → Int) : wA (rS b p en st rd kd lk hk nu lu hu D) 606 0 v = rS b p en st rd kd lk hk nu lu hu (D.1, D.2.1, v, D.2.2.2) := by
  unfold wA rS up2
  refine Prod.ext rfl (Prod.ext rfl (Prod.ext ?_ rfl))
  funext f i
  by_cases h : f = 606 ∧ i = 0
  · obtain ⟨rfl, rfl⟩ := h; simp
  · simp only [if_neg h]
theorem rS_B607 : sB (rS b p en st rd kd lk hk nu lu hu D) 607 0 = D.2.1 := by unfold sB rS; simp
theorem rS_B607w (v : Nat → UInt32) : wB (rS b p en st rd kd lk hk nu lu hu D) 607 0 v = rS b p en st rd kd lk hk nu lu hu (D.1, v, D.2.2) := by
  unfold wB rS up2
  refine Prod.ext rfl (Prod.ext rfl (Prod.ext rfl (Prod.ext ?_ rfl)))
  funext f i
  by_cases h : f = 607 ∧ i = 0
  · obtain ⟨rfl, rfl⟩ := h; simp
  · simp only [if_neg h]
theorem rS_B608 : sB (rS b p en st rd kd lk hk nu lu hu D) 608 0 = D.2.2.2 := by unfold sB rS; simp
theorem rS_B608w (v : Nat → UInt32) : wB (rS b p en st rd kd lk hk nu lu hu D) 608 0 v = rS b p en st rd kd lk hk nu lu hu (D.1, D.2.1, D.2.2.1, v) := by
  unfold wB rS up2
  refine Prod.ext rfl (Prod.ext rfl (Prod.ext rfl (Prod.ext ?_ rfl)))
  funext f i
  by_cases h : f = 608 ∧ i = 0
  · obtain ⟨rfl, rfl⟩ := h; simp
  · simp only [if_neg h]
theorem rS_Io {f i : Nat} (h : (¬ (f = 609 ∧ i = 0) ∧ ¬ (f = 610 ∧ i = 0) ∧ ¬ (f = 611 ∧ i = 0) ∧ ¬ (f = 612 ∧ i = 0) ∧ ¬ (f = 613 ∧ i = 0) ∧ ¬ (f = 615 ∧ i = 0) ∧ ¬ (f = 616 ∧ i = 0))) : sI (rS b p en st rd kd lk hk nu lu hu D) f i = sI b f i := by
  obtain ⟨h0, h1, h2, h3, h4, h5, h6⟩ := h
  unfold sI rS
  simp only [if_neg h0, if_neg h1, if_neg h2, if_neg h3, if_neg h4, if_neg h5, if_neg h6]
theorem rS_Fo {f i : Nat} (h : (¬ (f = 614 ∧ i = 0) ∧ ¬ (f = 617 ∧ i = 0) ∧ ¬ (f = 618 ∧ i = 0))) : sF (rS b p en st rd kd lk hk nu lu hu D) f i = sF b f i := by
  obtain ⟨h0, h1, h2⟩ := h
  unfold sF rS
  simp only [if_neg h0, if_neg h1, if_neg h2]
theorem rS_Ao {f i : Nat} (h : (¬ (f = 605 ∧ i = 0) ∧ ¬ (f = 606 ∧ i = 0))) : sA (rS b p en st rd kd lk hk nu lu hu D) f i = sA b f i := by
  obtain ⟨h0, h1⟩ := h
  unfold sA rS
  simp only [if_neg h0, if_neg h1]
theorem rS_Bo {f i : Nat} (h : (¬ (f = 607 ∧ i = 0) ∧ ¬ (f = 608 ∧ i = 0))) : sB (rS b p en st rd kd lk hk nu lu hu D) f i = sB b f i := by
  obtain ⟨h0, h1⟩ := h
  unfold sB rS
  simp only [if_neg h0, if_neg h1]
theorem rS_N : sN (rS b p en st rd kd lk hk nu lu hu D) = sN b := rfl
theorem rS_self (b : pS) : rS b (sI b 609 0) (sI b 610 0) (sI b 611 0) (sI b 612 0) (sI b 613 0) (sI b 615 0) (sI b 616 0) (sF b 614 0) (sF b 617 0) (sF b 618 0) (sA b 605 0, sB b 607 0, sA b 606 0, sB b 608 0) = b := by
  unfold rS sI sF sA sB
  refine Prod.ext (funext fun f => funext fun i => ?_) (Prod.ext (funext fun f => funext fun i => ?_) (Prod.ext (funext fun f => funext fun i => ?_) (Prod.ext (funext fun f => funext fun i => ?_) rfl)))
  · dsimp only
    by_cases h0 : f = 609 ∧ i = 0
    · obtain ⟨rfl, rfl⟩ := h0; simp
    by_cases h1 : f = 610 ∧ i = 0
    · obtain ⟨rfl, rfl⟩ := h1; simp
    by_cases h2 : f = 611 ∧ i = 0
    · obtain ⟨rfl, rfl⟩ := h2; simp
    by_cases h3 : f = 612 ∧ i = 0
    · obtain ⟨rfl, rfl⟩ := h3; simp
    by_cases h4 : f = 613 ∧ i = 0
    · obtain ⟨rfl, rfl⟩ := h4; simp
    by_cases h5 : f = 615 ∧ i = 0
    · obtain ⟨rfl, rfl⟩ := h5; simp
    by_cases h6 : f = 616 ∧ i = 0
    · obtain ⟨rfl, rfl⟩ := h6; simp
    simp only [if_neg h0, if_neg h1, if_neg h2, if_neg h3, if_neg h4, if_neg h5, if_neg h6]
  · dsimp only
    by_cases h0 : f = 614 ∧ i = 0
    · obtain ⟨rfl, rfl⟩ := h0; simp
    by_cases h1 : f = 617 ∧ i = 0
    · obtain ⟨rfl, rfl⟩ := h1; simp
    by_cases h2 : f = 618 ∧ i = 0
    · obtain ⟨rfl, rfl⟩ := h2; simp
    simp only [if_neg h0, if_neg h1, if_neg h2]
  · dsimp only
    by_cases h0 : f = 605 ∧ i = 0
    · obtain ⟨rfl, rfl⟩ := h0; simp
    by_cases h1 : f = 606 ∧ i = 0
    · obtain ⟨rfl, rfl⟩ := h1; simp
    simp only [if_neg h0, if_neg h1]
  · dsimp only
    by_cases h0 : f = 607 ∧ i = 0
    · obtain ⟨rfl, rfl⟩ := h0; simp
    by_cases h1 : f = 608 ∧ i = 0
    · obtain ⟨rfl, rfl⟩ := h1; simp
    simp only [if_neg h0, if_neg h1]
end
