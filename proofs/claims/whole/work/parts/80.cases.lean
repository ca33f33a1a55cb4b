/-! ===== each case of the switch: both answer alike, and what holds is kept ===== -/
/-- what holds where a turn of the law's loop begins: one museum for the class and the reference -/
def LI (a1 a2 a3 a4 : Nat) (S : St) : Prop := ∃ (A : Nat → Nat → Nat) (V : VV) (M : MM), Rep S A V M ∧ CV V M ∧ MV V M ∧ Iv V ∧ A 10 0 = a1 ∧ A 11 0 = a2 ∧ A 29 0 = a3 ∧ A 30 0 = a4
section CS
variable {S : St} {A : Nat → Nat → Nat} {V : VV} {M : MM}
theorem Kf_cv {M' : MM} {k : Nat} (h : Kf M M' k) (C : CV V M) : CV V M' := by
  have e := h.1
  unfold CV
  rw [e 7 (by decide) (by decide), e 5 (by decide) (by decide), e 9 (by decide) (by decide), e 3 (by decide) (by decide), e 22 (by decide) (by decide), e 24 (by decide) (by decide), e 10 (by decide) (by decide), e 26 (by decide) (by decide)]
  exact C
theorem caseX {ρ : Type} {SP : Nat → ρ → VV → Prop} {OUT : ρ → St → Prop} {WL : (Int32 → St → Prop) → Prop} {WM : St → Nat → (ρ → St → Prop) → Prop} {T : Int32 → ρ → St → Prop}
    (hL : ∀ g : Int32 → St → Prop, (∀ (k : Nat) (r : ρ) (V' : VV) (S' : St), SP k r V' → k ≤ 4 → Dn A M V' S' → (k = 0 → OUT r S') → g (z k) S') → WL g)
    (hM : ∀ (S' : St) (A' : Nat → Nat → Nat) (U : VV) (M' : MM) (G : (Nat → Nat → Int64) × (Nat → Nat → UInt64)) (f : ρ → St → Prop), Rq G S' A' U M' → MV V M' → (∀ (k : Nat) (r : ρ) (V' : VV) (S'' : St) (M'' : MM), SP k r V' → Rq G S'' A' U M'' → MV V' M'' → Iv V' → Kf M' M'' k → f r S'') → WM S' (A' 11 0) f)
    (det : ∀ k r V' k' r' V'', SP k r V' → SP k' r' V'' → k = k' ∧ (k = 0 → r = r') ∧ V' = V'')
    (hout : ∀ r S S', OUT r S → sJ S' = sJ S → sE S' = sE S → OUT r S')
    (m : MV V M)
    (hT : ∀ (k : Nat) (r : ρ) (S : St), k ≤ 4 → LI (A 10 0) (A 11 0) (A 29 0) (A 30 0) S → sI S (A 11 0) 23 = z k → ok S (A 11 0) 11 → (k = 0 → OUT r S) → T (z k) r S) :
    WL (fun k S1 => ok S1 (A 11 0) 11 ∧ WM S1 (A 11 0) (fun r S2 => T k r S2)) := by
  refine hL _ (fun k r V' S' p hk4 D ho => ?_)
  obtain ⟨A', M', R', C', K', F', q10, q11, _, q29, q30, _⟩ := D
  have hm : WM S' (A' 11 0) (fun r2 S2 => T (z k) r2 S2) := by
    refine hM S' A' V' M' (sJ S', sE S') _ ⟨R', rfl, rfl⟩ (F'.mv m) (fun k' r' V'' S'' M'' p' R'' m'' i'' kf => ?_)
    obtain ⟨e1, e2, e3⟩ := det _ _ _ _ _ _ p p'
    subst e1 e3
    have h11 := o11 R''.1
    have h23 : sI S'' (A' 11 0) 23 = z k := by rw [i11 R''.1]; exact kf.2
    rw [q11] at h11 h23
    refine hT k r' S'' hk4 ⟨A', V', M'', R''.1, Kf_cv kf C', m'', i'', q10, q11, q29, q30⟩ h23 h11 (fun h => ?_)
    rw [← e2 h]
    exact hout r S' S'' (ho h) R''.2.1 R''.2.2
  have h11 := o11 R'
  rw [q11] at hm h11
  exact ⟨h11, hm⟩
theorem k0_of {k : Nat} (hk : k ≤ 4) (h : z k = 0) : k = 0 := (z_eq (a := k) (b := 0) (by omega) (by decide)).1 h
theorem LI29 {a1 a2 a3 a4 : Nat} (h : LI a1 a2 a3 a4 S) : ok S a3 103 ∧ vp_in 0 (sN S a3) := by
  obtain ⟨A, V, M, R, C, m, I, rfl, rfl, rfl, rfl⟩ := h
  exact out29 (Dn.same R C I.2.2.2.2.2.1.1)
theorem LI30 {a1 a2 a3 a4 : Nat} (h : LI a1 a2 a3 a4 S) : ok S a4 104 ∧ vp_in 0 (sN S a4) := by
  obtain ⟨A, V, M, R, C, m, I, rfl, rfl, rfl, rfl⟩ := h
  exact out30 (Dn.same R C I.2.2.2.2.2.1.1)
theorem tailI {a1 a2 a3 a4 k : Nat} {r : Int32} (hk : k ≤ 4) (hl : LI a1 a2 a3 a4 S) (h23 : sI S a2 23 = z k) (hok : ok S a2 11) (ho : k = 0 → sJ S a3 0 = Int32.toInt64 r) :
    ok S a2 11 ∧ w_X10_thrown S a2 (fun (r9 : Int32) (S10 : St) => (((r9 = z k) → (((¬ z k = 0) → LI a1 a2 a3 a4 S10) ∧ ((z k = 0) → ok S10 a3 103 ∧ vp_in 0 (sN S10 a3) ∧ ((((lg_cmp (sJ S10 a3 (Int32.toNatClampNeg 0)) (Int32.toInt64 r)) = 0) → LI a1 a2 a3 a4 S10) ∧ ((¬ (lg_cmp (sJ S10 a3 (Int32.toNatClampNeg 0)) (Int32.toInt64 r)) = 0) → False))))) ∧ ((¬ r9 = z k) → False))) := by
  obtain ⟨a, b⟩ := LI29 hl
  unfold w_X10_thrown
  refine ⟨hok, hok, fun _ => ⟨fun _ => hl, fun h => ⟨a, b, fun _ => hl, fun h2 => h2 ?_⟩⟩, fun h => h h23⟩
  rw [ndx0, ho (k0_of hk h)]
  exact lg_same _
theorem tailB {a1 a2 a3 a4 k : Nat} {r : Int32} (hk : k ≤ 4) (hl : LI a1 a2 a3 a4 S) (h23 : sI S a2 23 = z k) (hok : ok S a2 11) (ho : k = 0 → (sJ S a3 0 = Int32.toInt64 r ∧ (r = 0 ∨ r = 1))) :
    ok S a2 11 ∧ w_X10_thrown S a2 (fun (r9 : Int32) (S10 : St) => (((r9 = z k) → (((¬ z k = 0) → LI a1 a2 a3 a4 S10) ∧ ((z k = 0) → ok S10 a3 103 ∧ vp_in 0 (sN S10 a3) ∧ (((r = 0) → ((((lg_cmp (sJ S10 a3 (Int32.toNatClampNeg 0)) 0) = 0) → LI a1 a2 a3 a4 S10) ∧ ((¬ (lg_cmp (sJ S10 a3 (Int32.toNatClampNeg 0)) 0) = 0) → False))) ∧ ((¬ r = 0) → ((((lg_cmp (sJ S10 a3 (Int32.toNatClampNeg 0)) 1) = 0) → LI a1 a2 a3 a4 S10) ∧ ((¬ (lg_cmp (sJ S10 a3 (Int32.toNatClampNeg 0)) 1) = 0) → False))))))) ∧ ((¬ r9 = z k) → False))) := by
  obtain ⟨a, b⟩ := LI29 hl
  unfold w_X10_thrown
  refine ⟨hok, hok, fun _ => ⟨fun _ => hl, fun h => ⟨a, b, fun e => ⟨fun _ => hl, fun h2 => h2 ?_⟩, fun e => ⟨fun _ => hl, fun h2 => h2 ?_⟩⟩⟩, fun h => h h23⟩
  · rw [ndx0, (ho (k0_of hk h)).1, e]
    decide
  · rw [ndx0, (ho (k0_of hk h)).1, (ho (k0_of hk h)).2.resolve_left e]
    decide
theorem tailD {a1 a2 a3 a4 k : Nat} {r : UInt64} (hk : k ≤ 4) (hl : LI a1 a2 a3 a4 S) (h23 : sI S a2 23 = z k) (hok : ok S a2 11) (ho : k = 0 → (sE S a4 0 = r ∧ vf_n64 r)) :
    ok S a2 11 ∧ w_X10_thrown S a2 (fun (r9 : Int32) (S10 : St) => (((r9 = z k) → (((¬ z k = 0) → LI a1 a2 a3 a4 S10) ∧ ((z k = 0) → ok S10 a4 104 ∧ vp_in 0 (sN S10 a4) ∧ ((((Op.cmpValue (FP.dcmp (sE S10 a4 (Int32.toNatClampNeg 0)) r) .l) = 0) → LI a1 a2 a3 a4 S10) ∧ ((¬ (Op.cmpValue (FP.dcmp (sE S10 a4 (Int32.toNatClampNeg 0)) r) .l) = 0) → False))))) ∧ ((¬ r9 = z k) → False))) := by
  obtain ⟨a, b⟩ := LI30 hl
  unfold w_X10_thrown
  refine ⟨hok, hok, fun _ => ⟨fun _ => hl, fun h => ⟨a, b, fun _ => hl, fun h2 => h2 ?_⟩⟩, fun h => h h23⟩
  rw [ndx0, (ho (k0_of hk h)).1]
  exact dcmp_same (ho (k0_of hk h)).2
theorem tailF {a1 a2 a3 a4 k : Nat} {r : UInt32} (hk : k ≤ 4) (hl : LI a1 a2 a3 a4 S) (h23 : sI S a2 23 = z k) (hok : ok S a2 11) (ho : k = 0 → (sE S a4 0 = FP.f2d r ∧ vf_n64 (FP.f2d r))) :
    ok S a2 11 ∧ w_X10_thrown S a2 (fun (r9 : Int32) (S10 : St) => (((r9 = z k) → (((¬ z k = 0) → LI a1 a2 a3 a4 S10) ∧ ((z k = 0) → ok S10 a4 104 ∧ vp_in 0 (sN S10 a4) ∧ vf_n64 (FP.f2d r) ∧ ((((Op.cmpValue (FP.dcmp (sE S10 a4 (Int32.toNatClampNeg 0)) (FP.f2d r)) .l) = 0) → LI a1 a2 a3 a4 S10) ∧ ((¬ (Op.cmpValue (FP.dcmp (sE S10 a4 (Int32.toNatClampNeg 0)) (FP.f2d r)) .l) = 0) → False))))) ∧ ((¬ r9 = z k) → False))) := by
  obtain ⟨a, b⟩ := LI30 hl
  unfold w_X10_thrown
  refine ⟨hok, hok, fun _ => ⟨fun _ => hl, fun h => ⟨a, b, (ho (k0_of hk h)).2, fun _ => hl, fun h2 => h2 ?_⟩⟩, fun h => h h23⟩
  rw [ndx0, (ho (k0_of hk h)).1]
  exact dcmp_same (ho (k0_of hk h)).2
variable {a1 a2 a3 a4 : Nat} {xs : Nat → Int32} {i : Int32}
theorem cs_0 (h : LI a1 a2 a3 a4 S) : lw_0 S a1 a2 a3 a4 xs i (LI a1 a2 a3 a4) := by
  obtain ⟨A, V, M, R, C, m, I, rfl, rfl, rfl, rfl⟩ := h
  unfold lw_0
  generalize xs (Int32.toNatClampNeg (i + 1)) = x1
  generalize xs (Int32.toNatClampNeg (i + 2)) = x2
  generalize xs (Int32.toNatClampNeg (i + 3)) = x3
  generalize xs (Int32.toNatClampNeg (i + 4)) = x4
  exact caseX (A := A) (V := V) (M := M) (ρ := Int32) (SP := fun k r V' => spR V x1 x2 x3 x4 k r V') (OUT := fun r S => sJ S (A 29 0) 0 = Int32.toInt64 r) (WL := fun g => w_L_addRoom S (A 10 0) x1 x2 x3 x4 (A 29 0) g) (WM := fun S a f => w_X10_addRoom S a x1 x2 x3 x4 f) (fun g hf => e_addRoom R C I hf) (fun S' A' U M' G f R' m' hf => t_addRoom R' m' I hf) (fun k r V' k' r' V'' p p' => spR_det p p') (fun r S S' h e _ => by rw [e]; exact h) m (fun k r S hk hl h1 h2 ho => tailI hk hl h1 h2 ho)
theorem cs_1 (h : LI a1 a2 a3 a4 S) : lw_1 S a1 a2 a3 a4 xs i (LI a1 a2 a3 a4) := by
  obtain ⟨A, V, M, R, C, m, I, rfl, rfl, rfl, rfl⟩ := h
  unfold lw_1
  generalize xs (Int32.toNatClampNeg (i + 1)) = x1
  generalize xs (Int32.toNatClampNeg (i + 2)) = x2
  generalize xs (Int32.toNatClampNeg (i + 3)) = x3
  exact caseX (A := A) (V := V) (M := M) (ρ := Int32) (SP := fun k r V' => spClim V x1 x2 x3 k r V') (OUT := fun r S => sJ S (A 29 0) 0 = Int32.toInt64 r) (WL := fun g => w_L_setClimate S (A 10 0) x1 x2 x3 (A 29 0) g) (WM := fun S a f => w_X10_setClimate S a x1 x2 x3 f) (fun g hf => e_setClimate R C I hf) (fun S' A' U M' G f R' m' hf => t_setClimate R' m' I hf) (fun k r V' k' r' V'' p p' => spClim_det p p') (fun r S S' h e _ => by rw [e]; exact h) m (fun k r S hk hl h1 h2 ho => tailI hk hl h1 h2 ho)
theorem cs_2 (h : LI a1 a2 a3 a4 S) : lw_2 S a1 a2 a3 a4 xs i (LI a1 a2 a3 a4) := by
  obtain ⟨A, V, M, R, C, m, I, rfl, rfl, rfl, rfl⟩ := h
  unfold lw_2
  generalize xs (Int32.toNatClampNeg (i + 1)) = x1
  generalize xs (Int32.toNatClampNeg (i + 2)) = x2
  generalize xs (Int32.toNatClampNeg (i + 3)) = x3
  exact caseX (A := A) (V := V) (M := M) (ρ := Int32) (SP := fun k r V' => spL V x1 x2 x3 k r V') (OUT := fun r S => sJ S (A 29 0) 0 = Int32.toInt64 r) (WL := fun g => w_L_addLender S (A 10 0) x1 x2 x3 (A 29 0) g) (WM := fun S a f => w_X10_addLender S a x1 x2 x3 f) (fun g hf => e_addLender R C I hf) (fun S' A' U M' G f R' m' hf => t_addLender R' m' I.1 (fun k r V' S'' M'' p R'' m'' kf => hf k r V' S'' M'' p R'' m'' (spL_Iv I p) kf)) (fun k r V' k' r' V'' p p' => spL_det p p') (fun r S S' h e _ => by rw [e]; exact h) m (fun k r S hk hl h1 h2 ho => tailI hk hl h1 h2 ho)
theorem cs_3 (h : LI a1 a2 a3 a4 S) : lw_3 S a1 a2 a3 a4 xs i (LI a1 a2 a3 a4) := by
  obtain ⟨A, V, M, R, C, m, I, rfl, rfl, rfl, rfl⟩ := h
  unfold lw_3
  generalize xs (Int32.toNatClampNeg (i + 1)) = x1
  generalize xs (Int32.toNatClampNeg (i + 2)) = x2
  generalize xs (Int32.toNatClampNeg (i + 3)) = x3
  generalize xs (Int32.toNatClampNeg (i + 4)) = x4
  generalize xs (Int32.toNatClampNeg (i + 5)) = x5
  generalize xs (Int32.toNatClampNeg (i + 6)) = x6
  exact caseX (A := A) (V := V) (M := M) (ρ := Int32) (SP := fun k r V' => spW V x1 x2 x3 x4 x5 x6 k r V') (OUT := fun r S => sJ S (A 29 0) 0 = Int32.toInt64 r) (WL := fun g => w_L_addWork S (A 10 0) x1 x2 x3 x4 x5 x6 (A 29 0) g) (WM := fun S a f => w_X10_addWork S a x1 x2 x3 x4 x5 x6 f) (fun g hf => e_addWork R C I hf) (fun S' A' U M' G f R' m' hf => t_addWork R' m' I.1 (fun k r V' S'' M'' p R'' m'' kf => hf k r V' S'' M'' p R'' m'' (spW_Iv I p) kf)) (fun k r V' k' r' V'' p p' => spW_det p p') (fun r S S' h e _ => by rw [e]; exact h) m (fun k r S hk hl h1 h2 ho => tailI hk hl h1 h2 ho)
theorem cs_4 (h : LI a1 a2 a3 a4 S) : lw_4 S a1 a2 a3 a4 xs i (LI a1 a2 a3 a4) := by
  obtain ⟨A, V, M, R, C, m, I, rfl, rfl, rfl, rfl⟩ := h
  unfold lw_4
  generalize xs (Int32.toNatClampNeg (i + 1)) = x1
  generalize xs (Int32.toNatClampNeg (i + 2)) = x2
  generalize cof (xs (Int32.toNatClampNeg (i + 3))) = x3
  exact caseX (A := A) (V := V) (M := M) (ρ := Int32) (SP := fun k r V' => spSep V x1 x2 x3 k r V') (OUT := fun r S => sJ S (A 29 0) 0 = Int32.toInt64 r) (WL := fun g => w_L_separate S (A 10 0) x1 x2 x3 (A 29 0) g) (WM := fun S a f => w_X10_separate S a x1 x2 x3 f) (fun g hf => e_separate R C I hf) (fun S' A' U M' G f R' m' hf => t_separate R' m' I hf) (fun k r V' k' r' V'' p p' => spSep_det p p') (fun r S S' h e _ => by rw [e]; exact h) m (fun k r S hk hl h1 h2 ho => tailI hk hl h1 h2 ho)
theorem cs_7 (h : LI a1 a2 a3 a4 S) : lw_7 S a1 a2 a3 a4 xs i (LI a1 a2 a3 a4) := by
  obtain ⟨A, V, M, R, C, m, I, rfl, rfl, rfl, rfl⟩ := h
  unfold lw_7
  generalize xs (Int32.toNatClampNeg (i + 1)) = x1
  generalize xs (Int32.toNatClampNeg (i + 2)) = x2
  exact caseX (A := A) (V := V) (M := M) (ρ := Int32) (SP := fun k r V' => spSpn V x1 x2 k r ∧ V' = V) (OUT := fun r S => sJ S (A 29 0) 0 = Int32.toInt64 r) (WL := fun g => w_L_separation S (A 10 0) x1 x2 (A 29 0) g) (WM := fun S a f => w_X10_separation S a x1 x2 f) (fun g hf => e_separation R C I hf) (fun S' A' U M' G f R' m' hf => t_separation R' m' I.1 I.2.2.2.2.2.1.1 (fun k r S'' M'' p R'' m'' kf => hf k r V S'' M'' ⟨p, rfl⟩ R'' m'' I kf)) (fun k r V' k' r' V'' p p' => ⟨(spSpn_det p.1 p'.1).1, (spSpn_det p.1 p'.1).2, p.2.trans p'.2.symm⟩) (fun r S S' h e _ => by rw [e]; exact h) m (fun k r S hk hl h1 h2 ho => tailI hk hl h1 h2 ho)
theorem cs_8 (h : LI a1 a2 a3 a4 S) : lw_8 S a1 a2 a3 a4 xs i (LI a1 a2 a3 a4) := by
  obtain ⟨A, V, M, R, C, m, I, rfl, rfl, rfl, rfl⟩ := h
  unfold lw_8
  generalize xs (Int32.toNatClampNeg (i + 1)) = x1
  generalize xs (Int32.toNatClampNeg (i + 2)) = x2
  exact caseX (A := A) (V := V) (M := M) (ρ := Int32) (SP := fun k r V' => spCH V x1 x2 k r ∧ V' = V) (OUT := fun r S => sJ S (A 29 0) 0 = Int32.toInt64 r ∧ (r = 0 ∨ r = 1)) (WL := fun g => w_L_canHang S (A 10 0) x1 x2 (A 29 0) g) (WM := fun S a f => w_X10_canHang S a x1 x2 f) (fun g hf => e_canHang R C I (fun k r V' S' p hk D ho => hf k r V' S' p hk D (fun h => ⟨ho h, CH01 (h ▸ p.1)⟩))) (fun S' A' U M' G f R' m' hf => t_canHang R' m' I.1 (fun k r S'' M'' p R'' m'' kf => hf k r V S'' M'' ⟨p, rfl⟩ R'' m'' I kf)) (fun k r V' k' r' V'' p p' => ⟨(spCH_det p.1 p'.1).1, (spCH_det p.1 p'.1).2, p.2.trans p'.2.symm⟩) (fun r S S' h e _ => by rw [e]; exact h) m (fun k r S hk hl h1 h2 ho => tailB hk hl h1 h2 ho)
theorem cs_9 (h : LI a1 a2 a3 a4 S) : lw_9 S a1 a2 a3 a4 xs i (LI a1 a2 a3 a4) := by
  obtain ⟨A, V, M, R, C, m, I, rfl, rfl, rfl, rfl⟩ := h
  unfold lw_9
  generalize xs (Int32.toNatClampNeg (i + 1)) = x1
  generalize xs (Int32.toNatClampNeg (i + 2)) = x2
  generalize xs (Int32.toNatClampNeg (i + 3)) = x3
  exact caseX (A := A) (V := V) (M := M) (ρ := Int32) (SP := fun k r V' => spE V x1 x2 x3 k r V') (OUT := fun r S => sJ S (A 29 0) 0 = Int32.toInt64 r) (WL := fun g => w_L_addExhibition S (A 10 0) x1 x2 x3 (A 29 0) g) (WM := fun S a f => w_X10_addExhibition S a x1 x2 x3 f) (fun g hf => e_addExhibition R C I hf) (fun S' A' U M' G f R' m' hf => t_addExhibition R' m' I.1 (fun k r V' S'' M'' p R'' m'' kf => hf k r V' S'' M'' p R'' m'' (spE_Iv I p) kf)) (fun k r V' k' r' V'' p p' => spE_det p p') (fun r S S' h e _ => by rw [e]; exact h) m (fun k r S hk hl h1 h2 ho => tailI hk hl h1 h2 ho)
theorem cs_10 (h : LI a1 a2 a3 a4 S) : lw_10 S a1 a2 a3 a4 xs i (LI a1 a2 a3 a4) := by
  obtain ⟨A, V, M, R, C, m, I, rfl, rfl, rfl, rfl⟩ := h
  unfold lw_10
  generalize xs (Int32.toNatClampNeg (i + 1)) = x1
  generalize xs (Int32.toNatClampNeg (i + 2)) = x2
  exact caseX (A := A) (V := V) (M := M) (ρ := Int32) (SP := fun k r V' => spInc V x1 x2 k r V') (OUT := fun r S => sJ S (A 29 0) 0 = Int32.toInt64 r) (WL := fun g => w_L_include S (A 10 0) x1 x2 (A 29 0) g) (WM := fun S a f => w_X10_include S a x1 x2 f) (fun g hf => e_include R C I hf) (fun S' A' U M' G f R' m' hf => t_include R' m' I.1 I.2.1 (fun k r V' S'' M'' p R'' m'' kf => hf k r V' S'' M'' p R'' m'' (spInc_Iv I p) kf)) (fun k r V' k' r' V'' p p' => spInc_det p p') (fun r S S' h e _ => by rw [e]; exact h) m (fun k r S hk hl h1 h2 ho => tailI hk hl h1 h2 ho)
theorem cs_11 (h : LI a1 a2 a3 a4 S) : lw_11 S a1 a2 a3 a4 xs i (LI a1 a2 a3 a4) := by
  obtain ⟨A, V, M, R, C, m, I, rfl, rfl, rfl, rfl⟩ := h
  unfold lw_11
  generalize xs (Int32.toNatClampNeg (i + 1)) = x1
  exact caseX (A := A) (V := V) (M := M) (ρ := Int32) (SP := fun k r V' => spReq V x1 k r V') (OUT := fun r S => sJ S (A 29 0) 0 = Int32.toInt64 r) (WL := fun g => w_L_request S (A 10 0) x1 (A 29 0) g) (WM := fun S a f => w_X10_request S a x1 f) (fun g hf => e_request R C I hf) (fun S' A' U M' G f R' m' hf => t_request R' m' I hf) (fun k r V' k' r' V'' p p' => spReq_det p p') (fun r S S' h e _ => by rw [e]; exact h) m (fun k r S hk hl h1 h2 ho => tailI hk hl h1 h2 ho)
theorem cs_12 (h : LI a1 a2 a3 a4 S) : lw_12 S a1 a2 a3 a4 xs i (LI a1 a2 a3 a4) := by
  obtain ⟨A, V, M, R, C, m, I, rfl, rfl, rfl, rfl⟩ := h
  unfold lw_12
  generalize xs (Int32.toNatClampNeg (i + 1)) = x1
  exact caseX (A := A) (V := V) (M := M) (ρ := Int32) (SP := fun k r V' => spCan V x1 k r V') (OUT := fun r S => sJ S (A 29 0) 0 = Int32.toInt64 r) (WL := fun g => w_L_cancel S (A 10 0) x1 (A 29 0) g) (WM := fun S a f => w_X10_cancel S a x1 f) (fun g hf => e_cancel R C I hf) (fun S' A' U M' G f R' m' hf => t_cancel R' m' I hf) (fun k r V' k' r' V'' p p' => spCan_det p p') (fun r S S' h e _ => by rw [e]; exact h) m (fun k r S hk hl h1 h2 ho => tailI hk hl h1 h2 ho)
theorem cs_13 (h : LI a1 a2 a3 a4 S) : lw_13 S a1 a2 a3 a4 xs i (LI a1 a2 a3 a4) := by
  obtain ⟨A, V, M, R, C, m, I, rfl, rfl, rfl, rfl⟩ := h
  unfold lw_13
  generalize xs (Int32.toNatClampNeg (i + 1)) = x1
  exact caseX (A := A) (V := V) (M := M) (ρ := Int32) (SP := fun k r V' => spSt V x1 k r ∧ V' = V) (OUT := fun r S => sJ S (A 29 0) 0 = Int32.toInt64 r) (WL := fun g => w_L_stateOf S (A 10 0) x1 (A 29 0) g) (WM := fun S a f => w_X10_stateOf S a x1 f) (fun g hf => e_stateOf R C I hf) (fun S' A' U M' G f R' m' hf => t_stateOf R' m' I.1 I.2.2.2.2.1.1 (fun k r S'' M'' p R'' m'' kf => hf k r V S'' M'' ⟨p, rfl⟩ R'' m'' I kf)) (fun k r V' k' r' V'' p p' => ⟨(spSt_det p.1 p'.1).1, (spSt_det p.1 p'.1).2, p.2.trans p'.2.symm⟩) (fun r S S' h e _ => by rw [e]; exact h) m (fun k r S hk hl h1 h2 ho => tailI hk hl h1 h2 ho)
theorem cs_14 (h : LI a1 a2 a3 a4 S) : lw_14 S a1 a2 a3 a4 xs i (LI a1 a2 a3 a4) := by
  obtain ⟨A, V, M, R, C, m, I, rfl, rfl, rfl, rfl⟩ := h
  unfold lw_14
  generalize xs (Int32.toNatClampNeg (i + 1)) = x1
  exact caseX (A := A) (V := V) (M := M) (ρ := Int32) (SP := fun k r V' => spWs V x1 k r ∧ V' = V) (OUT := fun r S => sJ S (A 29 0) 0 = Int32.toInt64 r) (WL := fun g => w_L_worksOf S (A 10 0) x1 (A 29 0) g) (WM := fun S a f => w_X10_worksOf S a x1 f) (fun g hf => e_worksOf R C I hf) (fun S' A' U M' G f R' m' hf => t_worksOf R' m' I.1 I.2.1 (fun k r S'' M'' p R'' m'' kf => hf k r V S'' M'' ⟨p, rfl⟩ R'' m'' I kf)) (fun k r V' k' r' V'' p p' => ⟨(spWs_det p.1 p'.1).1, (spWs_det p.1 p'.1).2, p.2.trans p'.2.symm⟩) (fun r S S' h e _ => by rw [e]; exact h) m (fun k r S hk hl h1 h2 ho => tailI hk hl h1 h2 ho)
theorem cs_15 (h : LI a1 a2 a3 a4 S) : lw_15 S a1 a2 a3 a4 xs i (LI a1 a2 a3 a4) := by
  obtain ⟨A, V, M, R, C, m, I, rfl, rfl, rfl, rfl⟩ := h
  unfold lw_15
  generalize xs (Int32.toNatClampNeg (i + 1)) = x1
  generalize xs (Int32.toNatClampNeg (i + 2)) = x2
  exact caseX (A := A) (V := V) (M := M) (ρ := Int32) (SP := fun k r V' => spWk V x1 x2 k r ∧ V' = V) (OUT := fun r S => sJ S (A 29 0) 0 = Int32.toInt64 r) (WL := fun g => w_L_workOf S (A 10 0) x1 x2 (A 29 0) g) (WM := fun S a f => w_X10_workOf S a x1 x2 f) (fun g hf => e_workOf R C I hf) (fun S' A' U M' G f R' m' hf => t_workOf R' m' I.1 I.2.1 (fun k r S'' M'' p R'' m'' kf => hf k r V S'' M'' ⟨p, rfl⟩ R'' m'' I kf)) (fun k r V' k' r' V'' p p' => ⟨(spWk_det p.1 p'.1).1, (spWk_det p.1 p'.1).2, p.2.trans p'.2.symm⟩) (fun r S S' h e _ => by rw [e]; exact h) m (fun k r S hk hl h1 h2 ho => tailI hk hl h1 h2 ho)
theorem cs_16 (h : LI a1 a2 a3 a4 S) : lw_16 S a1 a2 a3 a4 xs i (LI a1 a2 a3 a4) := by
  obtain ⟨A, V, M, R, C, m, I, rfl, rfl, rfl, rfl⟩ := h
  unfold lw_16
  generalize xs (Int32.toNatClampNeg (i + 1)) = x1
  generalize xs (Int32.toNatClampNeg (i + 2)) = x2
  exact caseX (A := A) (V := V) (M := M) (ρ := Int32) (SP := fun k r V' => spWl V x1 x2 k r ∧ V' = V) (OUT := fun r S => sJ S (A 29 0) 0 = Int32.toInt64 r) (WL := fun g => w_L_wallOf S (A 10 0) x1 x2 (A 29 0) g) (WM := fun S a f => w_X10_wallOf S a x1 x2 f) (fun g hf => e_wallOf R C I hf) (fun S' A' U M' G f R' m' hf => t_wallOf R' m' I.1 I.2.1 (fun k r S'' M'' p R'' m'' kf => hf k r V S'' M'' ⟨p, rfl⟩ R'' m'' I kf)) (fun k r V' k' r' V'' p p' => ⟨(spWl_det p.1 p'.1).1, (spWl_det p.1 p'.1).2, p.2.trans p'.2.symm⟩) (fun r S S' h e _ => by rw [e]; exact h) m (fun k r S hk hl h1 h2 ho => tailI hk hl h1 h2 ho)
theorem cs_17 (h : LI a1 a2 a3 a4 S) : lw_17 S a1 a2 a3 a4 xs i (LI a1 a2 a3 a4) := by
  obtain ⟨A, V, M, R, C, m, I, rfl, rfl, rfl, rfl⟩ := h
  unfold lw_17
  generalize xs (Int32.toNatClampNeg (i + 1)) = x1
  generalize xs (Int32.toNatClampNeg (i + 2)) = x2
  exact caseX (A := A) (V := V) (M := M) (ρ := Int32) (SP := fun k r V' => spCT V x1 x2 k r ∧ V' = V) (OUT := fun r S => sJ S (A 29 0) 0 = Int32.toInt64 r ∧ (r = 0 ∨ r = 1)) (WL := fun g => w_L_canTake S (A 10 0) x1 x2 (A 29 0) g) (WM := fun S a f => w_X10_canTake S a x1 x2 f) (fun g hf => e_canTake R C I (fun k r V' S' p hk D ho => hf k r V' S' p hk D (fun h => ⟨ho h, CT01 (h ▸ p.1)⟩))) (fun S' A' U M' G f R' m' hf => t_canTake R' m' I.1 I.2.1 I.2.2.1 I.2.2.2.1 (fun k r S'' M'' p R'' m'' kf => hf k r V S'' M'' ⟨p, rfl⟩ R'' m'' I kf)) (fun k r V' k' r' V'' p p' => ⟨(spCT_det p.1 p'.1).1, (spCT_det p.1 p'.1).2, p.2.trans p'.2.symm⟩) (fun r S S' h e _ => by rw [e]; exact h) m (fun k r S hk hl h1 h2 ho => tailB hk hl h1 h2 ho)
theorem cs_18 (h : LI a1 a2 a3 a4 S) : lw_18 S a1 a2 a3 a4 xs i (LI a1 a2 a3 a4) := by
  obtain ⟨A, V, M, R, C, m, I, rfl, rfl, rfl, rfl⟩ := h
  unfold lw_18
  generalize xs (Int32.toNatClampNeg (i + 1)) = x1
  generalize xs (Int32.toNatClampNeg (i + 2)) = x2
  exact caseX (A := A) (V := V) (M := M) (ρ := Int32) (SP := fun k r V' => spWF V x1 x2 k r ∧ V' = V) (OUT := fun r S => sJ S (A 29 0) 0 = Int32.toInt64 r) (WL := fun g => w_L_wallFor S (A 10 0) x1 x2 (A 29 0) g) (WM := fun S a f => w_X10_wallFor S a x1 x2 f) (fun g hf => e_wallFor R C I hf) (fun S' A' U M' G f R' m' hf => t_wallFor R' m' I.1 I.2.1 I.2.2.1 I.2.2.2.1 (fun k r S'' M'' p R'' m'' kf => hf k r V S'' M'' ⟨p, rfl⟩ R'' m'' I kf)) (fun k r V' k' r' V'' p p' => ⟨(spWF_det p.1 p'.1).1, (spWF_det p.1 p'.1).2, p.2.trans p'.2.symm⟩) (fun r S S' h e _ => by rw [e]; exact h) m (fun k r S hk hl h1 h2 ho => tailI hk hl h1 h2 ho)
theorem cs_19 (h : LI a1 a2 a3 a4 S) : lw_19 S a1 a2 a3 a4 xs i (LI a1 a2 a3 a4) := by
  obtain ⟨A, V, M, R, C, m, I, rfl, rfl, rfl, rfl⟩ := h
  unfold lw_19
  generalize xs (Int32.toNatClampNeg (i + 1)) = x1
  generalize xs (Int32.toNatClampNeg (i + 2)) = x2
  exact caseX (A := A) (V := V) (M := M) (ρ := Int32) (SP := fun k r V' => spWF V x1 x2 k r ∧ V' = V) (OUT := fun r S => sJ S (A 29 0) 0 = Int32.toInt64 r) (WL := fun g => w_L_wallForBySearch S (A 10 0) x1 x2 (A 29 0) g) (WM := fun S a f => w_X10_wallForBySearch S a x1 x2 f) (fun g hf => e_wallForBySearch R C I hf) (fun S' A' U M' G f R' m' hf => t_wallForS R' m' I.1 I.2.1 I.2.2.1 I.2.2.2.1 (fun k r S'' M'' p R'' m'' kf => hf k r V S'' M'' ⟨p, rfl⟩ R'' m'' I kf)) (fun k r V' k' r' V'' p p' => ⟨(spWF_det p.1 p'.1).1, (spWF_det p.1 p'.1).2, p.2.trans p'.2.symm⟩) (fun r S S' h e _ => by rw [e]; exact h) m (fun k r S hk hl h1 h2 ho => tailI hk hl h1 h2 ho)
theorem cs_20 (h : LI a1 a2 a3 a4 S) : lw_20 S a1 a2 a3 a4 xs i (LI a1 a2 a3 a4) := by
  obtain ⟨A, V, M, R, C, m, I, rfl, rfl, rfl, rfl⟩ := h
  unfold lw_20
  generalize xs (Int32.toNatClampNeg (i + 1)) = x1
  generalize xs (Int32.toNatClampNeg (i + 2)) = x2
  exact caseX (A := A) (V := V) (M := M) (ρ := Int32) (SP := fun k r V' => spTr V x1 x2 k r ∧ V' = V) (OUT := fun r S => sJ S (A 29 0) 0 = Int32.toInt64 r) (WL := fun g => w_L_trips S (A 10 0) x1 x2 (A 29 0) g) (WM := fun S a f => w_X10_trips S a x1 x2 f) (fun g hf => e_trips R C I hf) (fun S' A' U M' G f R' m' hf => t_trips R' m' I.1 I.2.1 I.2.2.1 I.2.2.2.1 (fun k r S'' M'' p R'' m'' kf => hf k r V S'' M'' ⟨p, rfl⟩ R'' m'' I kf)) (fun k r V' k' r' V'' p p' => ⟨(spTr_det p.1 p'.1).1, (spTr_det p.1 p'.1).2, p.2.trans p'.2.symm⟩) (fun r S S' h e _ => by rw [e]; exact h) m (fun k r S hk hl h1 h2 ho => tailI hk hl h1 h2 ho)
theorem cs_21 (h : LI a1 a2 a3 a4 S) : lw_21 S a1 a2 a3 a4 xs i (LI a1 a2 a3 a4) := by
  obtain ⟨A, V, M, R, C, m, I, rfl, rfl, rfl, rfl⟩ := h
  unfold lw_21
  generalize xs (Int32.toNatClampNeg (i + 1)) = x1
  generalize xs (Int32.toNatClampNeg (i + 2)) = x2
  exact caseX (A := A) (V := V) (M := M) (ρ := Int32) (SP := fun k r V' => spTr V x1 x2 k r ∧ V' = V) (OUT := fun r S => sJ S (A 29 0) 0 = Int32.toInt64 r) (WL := fun g => w_L_tripsByTrying S (A 10 0) x1 x2 (A 29 0) g) (WM := fun S a f => w_X10_tripsByTrying S a x1 x2 f) (fun g hf => e_tripsByTrying R C I hf) (fun S' A' U M' G f R' m' hf => t_tripsT R' m' I.1 I.2.1 I.2.2.1 I.2.2.2.1 (fun k r S'' M'' p R'' m'' kf => hf k r V S'' M'' ⟨p, rfl⟩ R'' m'' I kf)) (fun k r V' k' r' V'' p p' => ⟨(spTr_det p.1 p'.1).1, (spTr_det p.1 p'.1).2, p.2.trans p'.2.symm⟩) (fun r S S' h e _ => by rw [e]; exact h) m (fun k r S hk hl h1 h2 ho => tailI hk hl h1 h2 ho)
theorem cs_22 (h : LI a1 a2 a3 a4 S) : lw_22 S a1 a2 a3 a4 xs i (LI a1 a2 a3 a4) := by
  obtain ⟨A, V, M, R, C, m, I, rfl, rfl, rfl, rfl⟩ := h
  unfold lw_22
  generalize xs (Int32.toNatClampNeg (i + 1)) = x1
  generalize xs (Int32.toNatClampNeg (i + 2)) = x2
  exact caseX (A := A) (V := V) (M := M) (ρ := Int32) (SP := fun k r V' => spTk V x1 x2 k r ∧ V' = V) (OUT := fun r S => sJ S (A 29 0) 0 = Int32.toInt64 r) (WL := fun g => w_L_taken S (A 10 0) x1 x2 (A 29 0) g) (WM := fun S a f => w_X10_taken S a x1 x2 f) (fun g hf => e_taken R C I hf) (fun S' A' U M' G f R' m' hf => t_takenX R' m' I.1 I.2.1 (fun k r S'' M'' p q R'' m'' kf => hf k r V S'' M'' ⟨⟨p, q⟩, rfl⟩ R'' m'' I kf)) (fun k r V' k' r' V'' p p' => ⟨(spTk_det p.1 p'.1).1, (spTk_det p.1 p'.1).2, p.2.trans p'.2.symm⟩) (fun r S S' h e _ => by rw [e]; exact h) m (fun k r S hk hl h1 h2 ho => tailI hk hl h1 h2 ho)
theorem cs_23 (h : LI a1 a2 a3 a4 S) : lw_23 S a1 a2 a3 a4 xs i (LI a1 a2 a3 a4) := by
  obtain ⟨A, V, M, R, C, m, I, rfl, rfl, rfl, rfl⟩ := h
  unfold lw_23
  generalize xs (Int32.toNatClampNeg (i + 1)) = x1
  generalize xs (Int32.toNatClampNeg (i + 2)) = x2
  exact caseX (A := A) (V := V) (M := M) (ρ := Int32) (SP := fun k r V' => spHg V x1 x2 k r ∧ V' = V) (OUT := fun r S => sJ S (A 29 0) 0 = Int32.toInt64 r) (WL := fun g => w_L_hanging S (A 10 0) x1 x2 (A 29 0) g) (WM := fun S a f => w_X10_hanging S a x1 x2 f) (fun g hf => e_hanging R C I hf) (fun S' A' U M' G f R' m' hf => t_hanging R' m' I.1 I.2.1 (fun k r S'' M'' p q R'' m'' kf => hf k r V S'' M'' ⟨⟨p, q⟩, rfl⟩ R'' m'' I kf)) (fun k r V' k' r' V'' p p' => ⟨(spHg_det p.1 p'.1).1, (spHg_det p.1 p'.1).2, p.2.trans p'.2.symm⟩) (fun r S S' h e _ => by rw [e]; exact h) m (fun k r S hk hl h1 h2 ho => tailI hk hl h1 h2 ho)
theorem cs_24 (h : LI a1 a2 a3 a4 S) : lw_24 S a1 a2 a3 a4 xs i (LI a1 a2 a3 a4) := by
  obtain ⟨A, V, M, R, C, m, I, rfl, rfl, rfl, rfl⟩ := h
  unfold lw_24
  generalize xs (Int32.toNatClampNeg (i + 1)) = x1
  generalize xs (Int32.toNatClampNeg (i + 2)) = x2
  exact caseX (A := A) (V := V) (M := M) (ρ := Int32) (SP := fun k r V' => spAw V x1 x2 k r ∧ V' = V) (OUT := fun r S => sJ S (A 29 0) 0 = Int32.toInt64 r) (WL := fun g => w_L_awayFor S (A 10 0) x1 x2 (A 29 0) g) (WM := fun S a f => w_X10_awayFor S a x1 x2 f) (fun g hf => e_awayFor R C I hf) (fun S' A' U M' G f R' m' hf => t_awayFor R' m' I.1 I.2.1 I.2.2.1 (fun k r S'' M'' p R'' m'' kf => hf k r V S'' M'' ⟨p, rfl⟩ R'' m'' I kf)) (fun k r V' k' r' V'' p p' => ⟨(spAw_det p.1 p'.1).1, (spAw_det p.1 p'.1).2, p.2.trans p'.2.symm⟩) (fun r S S' h e _ => by rw [e]; exact h) m (fun k r S hk hl h1 h2 ho => tailI hk hl h1 h2 ho)
theorem cs_27 (h : LI a1 a2 a3 a4 S) : lw_27 S a1 a2 a3 a4 xs i (LI a1 a2 a3 a4) := by
  obtain ⟨A, V, M, R, C, m, I, rfl, rfl, rfl, rfl⟩ := h
  unfold lw_27
  exact caseX (A := A) (V := V) (M := M) (ρ := UInt64) (SP := fun k r V' => spMW V k r ∧ V' = V) (OUT := fun r S => sE S (A 30 0) 0 = r ∧ vf_n64 r) (WL := fun g => w_L_meanWorks S (A 10 0) (A 30 0) g) (WM := fun S a f => w_X10_meanWorks S a f) (fun g hf => e_meanWorks R C I hf) (fun S' A' U M' G f R' m' hf => t_meanWorks R' m' I.1 I.2.1 (fun k r S'' M'' p R'' m'' kf => hf k r V S'' M'' ⟨p, rfl⟩ R'' m'' I kf)) (fun k r V' k' r' V'' p p' => ⟨(spMW_det p.1 p'.1).1, (spMW_det p.1 p'.1).2, p.2.trans p'.2.symm⟩) (fun r S S' h _ e => by rw [e]; exact h) m (fun k r S hk hl h1 h2 ho => tailD hk hl h1 h2 ho)
theorem cs_28 (h : LI a1 a2 a3 a4 S) : lw_28 S a1 a2 a3 a4 xs i (LI a1 a2 a3 a4) := by
  obtain ⟨A, V, M, R, C, m, I, rfl, rfl, rfl, rfl⟩ := h
  unfold lw_28
  generalize xs (Int32.toNatClampNeg (i + 1)) = x1
  generalize xs (Int32.toNatClampNeg (i + 2)) = x2
  exact caseX (A := A) (V := V) (M := M) (ρ := UInt32) (SP := fun k r V' => spSh V x1 x2 k r ∧ V' = V) (OUT := fun r S => sE S (A 30 0) 0 = FP.f2d r ∧ vf_n64 (FP.f2d r)) (WL := fun g => w_L_share S (A 10 0) x1 x2 (A 30 0) g) (WM := fun S a f => w_X10_share S a x1 x2 f) (fun g hf => e_share R C I hf) (fun S' A' U M' G f R' m' hf => t_shareX R' m' I.1 I.2.1 I.2.2.2.1 (fun k r S'' M'' p q R'' m'' kf => hf k r V S'' M'' ⟨⟨p, q⟩, rfl⟩ R'' m'' I kf)) (fun k r V' k' r' V'' p p' => ⟨(spSh_det p.1 p'.1).1, (spSh_det p.1 p'.1).2, p.2.trans p'.2.symm⟩) (fun r S S' h _ e => by rw [e]; exact h) m (fun k r S hk hl h1 h2 ho => tailF hk hl h1 h2 ho)
theorem cs_5 (h : LI a1 a2 a3 a4 S) : lw_5 S a1 a2 a3 a4 xs i (LI a1 a2 a3 a4) := by
  obtain ⟨A, V, M, R, C, m, I, rfl, rfl, rfl, rfl⟩ := h
  unfold lw_5
  exact ⟨o10 R, s_rooms R ⟨o11 R, t_rooms (G := (sJ S, sE S)) ⟨R, rfl, rfl⟩ m I.1 (fun S' M' R' m' kf => ⟨fun _ => ⟨A, V, M', R'.1, Kf_cv kf C, m', I, rfl, rfl, rfl, rfl⟩, fun h => h rfl⟩)⟩⟩
theorem cs_6 (h : LI a1 a2 a3 a4 S) : lw_6 S a1 a2 a3 a4 xs i (LI a1 a2 a3 a4) := by
  obtain ⟨A, V, M, R, C, m, I, rfl, rfl, rfl, rfl⟩ := h
  unfold lw_6
  exact ⟨o10 R, s_works R ⟨o11 R, t_works (G := (sJ S, sE S)) ⟨R, rfl, rfl⟩ m I.1 (fun S' M' R' m' kf => ⟨fun _ => ⟨A, V, M', R'.1, Kf_cv kf C, m', I, rfl, rfl, rfl, rfl⟩, fun h => h rfl⟩)⟩⟩
theorem cs_25 (h : LI a1 a2 a3 a4 S) : lw_25 S a1 a2 a3 a4 xs i (LI a1 a2 a3 a4) := by
  obtain ⟨A, V, M, R, C, m, I, rfl, rfl, rfl, rfl⟩ := h
  unfold lw_25
  exact ⟨o10 R, s_planned R C ⟨o11 R, t_planned (G := (sJ S, sE S)) ⟨R, rfl, rfl⟩ m (fun S' M' R' m' kf => ⟨fun _ => ⟨A, V, M', R'.1, Kf_cv kf C, m', I, rfl, rfl, rfl, rfl⟩, fun h => h rfl⟩)⟩⟩
theorem cs_26 (h : LI a1 a2 a3 a4 S) : lw_26 S a1 a2 a3 a4 xs i (LI a1 a2 a3 a4) := by
  obtain ⟨A, V, M, R, C, m, I, rfl, rfl, rfl, rfl⟩ := h
  unfold lw_26
  exact ⟨o10 R, s_insuredX R C ⟨o11 R, t_insured (G := (sJ S, sE S)) ⟨R, rfl, rfl⟩ m I.1 I.2.1 I.2.2.1 (fun S' M' R' m' kf => ⟨fun _ => ⟨A, V, M', R'.1, Kf_cv kf C, m', I, rfl, rfl, rfl, rfl⟩, fun h => h (lg_same _)⟩)⟩⟩
theorem cs_29 (h : LI a1 a2 a3 a4 S) : lw_29 S a1 a2 a3 a4 xs i (LI a1 a2 a3 a4) := by
  obtain ⟨A, V, M, R, C, m, I, rfl, rfl, rfl, rfl⟩ := h
  have K := I.2.2.2.2.2.1.1
  have hR4 := I.1.2.2.2.2.1
  unfold lw_29
  have go : ∀ (S' : St) (q : Int32), Dn A M V S' → ((safe V ∧ q = 1) ∨ (¬ safe V ∧ q = 0)) → ok S' (A 11 0) 11 ∧ w_X10_isSafe S' (A 11 0) (fun (r6 : Int32) (S7 : St) => (((q = r6) → LI (A 10 0) (A 11 0) (A 29 0) (A 30 0) S7) ∧ ((¬ q = r6) → False))) := fun S' q D hq => by
    obtain ⟨A', M', R', C', K', F', q10, q11, _, q29, q30, _⟩ := D
    have h11 := o11 R'
    have hm : w_X10_isSafe S' (A' 11 0) (fun (r6 : Int32) (S7 : St) => (((q = r6) → LI (A 10 0) (A 11 0) (A 29 0) (A 30 0) S7) ∧ ((¬ q = r6) → False))) := by
      refine t_isSafe (G := (sJ S', sE S')) ⟨R', rfl, rfl⟩ (F'.mv m) I (fun hs S2 M2 R2 m2 kf => ⟨fun _ => ⟨A', V, M2, R2.1, Kf_cv kf C', m2, I, q10, q11, q29, q30⟩, fun h => h ?_⟩) (fun hs S2 M2 R2 m2 kf => ⟨fun _ => ⟨A', V, M2, R2.1, Kf_cv kf C', m2, I, q10, q11, q29, q30⟩, fun h => h ?_⟩)
      · rcases hq with ⟨_, e⟩ | ⟨e, _⟩
        · exact e
        · exact absurd hs e
      · rcases hq with ⟨e, _⟩ | ⟨_, e⟩
        · exact absurd e hs
        · exact e
    rw [q11] at h11 hm
    exact ⟨h11, hm⟩
  exact ⟨o10 R, s_isSafe R C K hR4 (fun e he hs => I.2.2.2.2.1.2.1 e he (Or.inr hs)) (fun hs S' D => go S' 1 D (Or.inl ⟨hs, rfl⟩)) (fun hs S' D => go S' 0 D (Or.inr ⟨hs, rfl⟩))⟩
end CS
