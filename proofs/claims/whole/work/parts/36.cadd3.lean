/-! ===== a room, a lender, a work more ===== -/
theorem us_cases {V : VV} {t j : Nat} (h : us V t j) : (t = 0 ∧ (j < 4)) ∨ (t = 1 ∧ (j = 0)) ∨ (t = 2 ∧ (j = 0)) ∨ (t = 4 ∧ (j = 0)) ∨ (t = 6 ∧ (j = 0)) ∨ (t = 8 ∧ (j = 0)) ∨ (t = 10 ∧ (j = 0)) ∨ (t = 11 ∧ (j = 0)) ∨ (t = 24 ∧ (j = 0)) ∨ (t = 3 ∧ (j < nE V)) ∨ (t = 5 ∧ (j < nL V)) ∨ (t = 7 ∧ (j < nR V)) ∨ (t = 9 ∧ (j < nW V)) ∨ (t = 20 ∧ (j < nE V)) ∨ (t = 21 ∧ (j < nE V ∧ 0 < cn V j)) ∨ (t = 22 ∧ (j < nE V)) ∨ (t = 23 ∧ (j < 4 ∧ 0 < sz V j)) ∨ (t = 25 ∧ (j < 5)) ∨ (t = 26 ∧ (j < 3)) ∨ (t = 27 ∧ (j < 23)) ∨ (t = 28 ∧ (j = 0 ∧ j = 1)) ∨ (t = 29 ∧ (j = 0)) ∨ (t = 30 ∧ (j = 0)) := by
  unfold us at h
  by_cases e0 : t = 0
  · rw [if_pos e0] at h
    exact Or.inl ⟨e0, h⟩
  rw [if_neg e0] at h
  by_cases e1 : t = 1
  · rw [if_pos e1] at h
    exact Or.inr (Or.inl ⟨e1, h⟩)
  rw [if_neg e1] at h
  by_cases e2 : t = 2
  · rw [if_pos e2] at h
    exact Or.inr (Or.inr (Or.inl ⟨e2, h⟩))
  rw [if_neg e2] at h
  by_cases e4 : t = 4
  · rw [if_pos e4] at h
    exact Or.inr (Or.inr (Or.inr (Or.inl ⟨e4, h⟩)))
  rw [if_neg e4] at h
  by_cases e6 : t = 6
  · rw [if_pos e6] at h
    exact Or.inr (Or.inr (Or.inr (Or.inr (Or.inl ⟨e6, h⟩))))
  rw [if_neg e6] at h
  by_cases e8 : t = 8
  · rw [if_pos e8] at h
    exact Or.inr (Or.inr (Or.inr (Or.inr (Or.inr (Or.inl ⟨e8, h⟩)))))
  rw [if_neg e8] at h
  by_cases e10 : t = 10
  · rw [if_pos e10] at h
    exact Or.inr (Or.inr (Or.inr (Or.inr (Or.inr (Or.inr (Or.inl ⟨e10, h⟩))))))
  rw [if_neg e10] at h
  by_cases e11 : t = 11
  · rw [if_pos e11] at h
    exact Or.inr (Or.inr (Or.inr (Or.inr (Or.inr (Or.inr (Or.inr (Or.inl ⟨e11, h⟩)))))))
  rw [if_neg e11] at h
  by_cases e24 : t = 24
  · rw [if_pos e24] at h
    exact Or.inr (Or.inr (Or.inr (Or.inr (Or.inr (Or.inr (Or.inr (Or.inr (Or.inl ⟨e24, h⟩))))))))
  rw [if_neg e24] at h
  by_cases e3 : t = 3
  · rw [if_pos e3] at h
    exact Or.inr (Or.inr (Or.inr (Or.inr (Or.inr (Or.inr (Or.inr (Or.inr (Or.inr (Or.inl ⟨e3, h⟩)))))))))
  rw [if_neg e3] at h
  by_cases e5 : t = 5
  · rw [if_pos e5] at h
    exact Or.inr (Or.inr (Or.inr (Or.inr (Or.inr (Or.inr (Or.inr (Or.inr (Or.inr (Or.inr (Or.inl ⟨e5, h⟩))))))))))
  rw [if_neg e5] at h
  by_cases e7 : t = 7
  · rw [if_pos e7] at h
    exact Or.inr (Or.inr (Or.inr (Or.inr (Or.inr (Or.inr (Or.inr (Or.inr (Or.inr (Or.inr (Or.inr (Or.inl ⟨e7, h⟩)))))))))))
  rw [if_neg e7] at h
  by_cases e9 : t = 9
  · rw [if_pos e9] at h
    exact Or.inr (Or.inr (Or.inr (Or.inr (Or.inr (Or.inr (Or.inr (Or.inr (Or.inr (Or.inr (Or.inr (Or.inr (Or.inl ⟨e9, h⟩))))))))))))
  rw [if_neg e9] at h
  by_cases e20 : t = 20
  · rw [if_pos e20] at h
    exact Or.inr (Or.inr (Or.inr (Or.inr (Or.inr (Or.inr (Or.inr (Or.inr (Or.inr (Or.inr (Or.inr (Or.inr (Or.inr (Or.inl ⟨e20, h⟩)))))))))))))
  rw [if_neg e20] at h
  by_cases e21 : t = 21
  · rw [if_pos e21] at h
    exact Or.inr (Or.inr (Or.inr (Or.inr (Or.inr (Or.inr (Or.inr (Or.inr (Or.inr (Or.inr (Or.inr (Or.inr (Or.inr (Or.inr (Or.inl ⟨e21, h⟩))))))))))))))
  rw [if_neg e21] at h
  by_cases e22 : t = 22
  · rw [if_pos e22] at h
    exact Or.inr (Or.inr (Or.inr (Or.inr (Or.inr (Or.inr (Or.inr (Or.inr (Or.inr (Or.inr (Or.inr (Or.inr (Or.inr (Or.inr (Or.inr (Or.inl ⟨e22, h⟩)))))))))))))))
  rw [if_neg e22] at h
  by_cases e23 : t = 23
  · rw [if_pos e23] at h
    exact Or.inr (Or.inr (Or.inr (Or.inr (Or.inr (Or.inr (Or.inr (Or.inr (Or.inr (Or.inr (Or.inr (Or.inr (Or.inr (Or.inr (Or.inr (Or.inr (Or.inl ⟨e23, h⟩))))))))))))))))
  rw [if_neg e23] at h
  by_cases e25 : t = 25
  · rw [if_pos e25] at h
    exact Or.inr (Or.inr (Or.inr (Or.inr (Or.inr (Or.inr (Or.inr (Or.inr (Or.inr (Or.inr (Or.inr (Or.inr (Or.inr (Or.inr (Or.inr (Or.inr (Or.inr (Or.inl ⟨e25, h⟩)))))))))))))))))
  rw [if_neg e25] at h
  by_cases e26 : t = 26
  · rw [if_pos e26] at h
    exact Or.inr (Or.inr (Or.inr (Or.inr (Or.inr (Or.inr (Or.inr (Or.inr (Or.inr (Or.inr (Or.inr (Or.inr (Or.inr (Or.inr (Or.inr (Or.inr (Or.inr (Or.inr (Or.inl ⟨e26, h⟩))))))))))))))))))
  rw [if_neg e26] at h
  by_cases e27 : t = 27
  · rw [if_pos e27] at h
    exact Or.inr (Or.inr (Or.inr (Or.inr (Or.inr (Or.inr (Or.inr (Or.inr (Or.inr (Or.inr (Or.inr (Or.inr (Or.inr (Or.inr (Or.inr (Or.inr (Or.inr (Or.inr (Or.inr (Or.inl ⟨e27, h⟩)))))))))))))))))))
  rw [if_neg e27] at h
  by_cases e28 : t = 28
  · rw [if_pos e28] at h
    exact Or.inr (Or.inr (Or.inr (Or.inr (Or.inr (Or.inr (Or.inr (Or.inr (Or.inr (Or.inr (Or.inr (Or.inr (Or.inr (Or.inr (Or.inr (Or.inr (Or.inr (Or.inr (Or.inr (Or.inr (Or.inl ⟨e28, h⟩))))))))))))))))))))
  rw [if_neg e28] at h
  by_cases e29 : t = 29
  · rw [if_pos e29] at h
    exact Or.inr (Or.inr (Or.inr (Or.inr (Or.inr (Or.inr (Or.inr (Or.inr (Or.inr (Or.inr (Or.inr (Or.inr (Or.inr (Or.inr (Or.inr (Or.inr (Or.inr (Or.inr (Or.inr (Or.inr (Or.inr (Or.inl ⟨e29, h⟩)))))))))))))))))))))
  rw [if_neg e29] at h
  by_cases e30 : t = 30
  · rw [if_pos e30] at h
    exact Or.inr (Or.inr (Or.inr (Or.inr (Or.inr (Or.inr (Or.inr (Or.inr (Or.inr (Or.inr (Or.inr (Or.inr (Or.inr (Or.inr (Or.inr (Or.inr (Or.inr (Or.inr (Or.inr (Or.inr (Or.inr (Or.inr (⟨e30, h⟩))))))))))))))))))))))
  rw [if_neg e30] at h
  exact h.elim
theorem cn_17 {V V' : VV} (h : V' 17 = V 17) : cn V' = cn V := by funext e; unfold cn; rw [h]
theorem ic_18 {V V' : VV} (h : V' 18 = V 18) : ic V' = ic V := by funext e k; unfold ic; rw [h]
theorem Rep_newO {S : St} {A : Nat → Nat → Nat} {V : VV} {M : MM} {q c : Nat} (R : Rep S A V M) (hq : q ∉ sL S) : Rep (newO S q c) A V M := by
  obtain ⟨r1, r2, r3, r4, r5⟩ := R
  have hne : ∀ t j, us V t j → A t j ≠ q := fun t j h e => hq (e ▸ (r1 t j h).1)
  refine ⟨fun t j h => ok_new hq (r1 t j h), fun t j h => ?_, fun t j h => ?_, r4, r5⟩
  · rw [sI_newO, if_neg (hne t j h)]
    exact r2 t j h
  · rw [sP_newO, if_neg (hne t j h)]
    exact r3 t j h
theorem Rep_newA {S : St} {A : Nat → Nat → Nat} {V : VV} {M : MM} {q c n : Nat} (R : Rep S A V M) (hq : q ∉ sL S) : Rep (newA S q c n) A V M := by
  obtain ⟨r1, r2, r3, r4, r5⟩ := R
  have hne : ∀ t j, us V t j → A t j ≠ q := fun t j h e => hq (e ▸ (r1 t j h).1)
  refine ⟨fun t j h => ok_newa hq (r1 t j h), fun t j h => ?_, fun t j h => ?_, fun t j h ht => ?_, r5⟩
  · rw [sI_newA, if_neg (hne t j h)]
    exact r2 t j h
  · rw [sP_newA, if_neg (hne t j h)]
    exact r3 t j h
  · rw [sN_newA, if_neg (hne t j h)]
    exact r4 t j h ht
theorem Rep_offI {S : St} {A : Nat → Nat → Nat} {V : VV} {M : MM} {q k : Nat} {v : Int32} (R : Rep S A V M) (hne : ∀ t j, us V t j → A t j ≠ q) : Rep (setI S q k v) A V M := by
  obtain ⟨r1, r2, r3, r4, r5⟩ := R
  refine ⟨r1, fun t j h => ?_, r3, r4, r5⟩
  rw [sI_setI, if_neg (hne t j h)]
  exact r2 t j h
theorem Rep_offP {S : St} {A : Nat → Nat → Nat} {V : VV} {M : MM} {q k : Nat} {v : Option Nat} (R : Rep S A V M) (hne : ∀ t j, us V t j → A t j ≠ q) : Rep (setP S q k v) A V M := by
  obtain ⟨r1, r2, r3, r4, r5⟩ := R
  refine ⟨r1, r2, fun t j h => ?_, r4, r5⟩
  rw [sP_setP, if_neg (hne t j h)]
  exact r3 t j h
def A3 (A : Nat → Nat → Nat) (i n q d' : Nat) : Nat → Nat → Nat := fun t j => if t = el i ∧ j = n then q else if t = 23 ∧ j = i then d' else A t j
def M3 (M : MM) (i n : Nat) (fq fd : Nat → Int32) (m : Int32) : MM := fun t j => if t = el i ∧ j = n then fq else if t = 23 ∧ j = i then fd else if t = 0 ∧ j = i then upd (upd (M 0 i) 0 m) 2 (z (n + 1)) else M t j
theorem el_ne {i : Nat} : el i ≠ 23 ∧ el i ≠ 0 ∧ (el i = 7 ∨ el i = 5 ∨ el i = 9 ∨ el i = 3) := by
  unfold el
  by_cases h0 : i = 0
  · rw [if_pos h0]; decide
  rw [if_neg h0]
  by_cases h1 : i = 1
  · rw [if_pos h1]; decide
  rw [if_neg h1]
  by_cases h2 : i = 2
  · rw [if_pos h2]; decide
  rw [if_neg h2]
  decide
theorem el_inj {i j : Nat} (hi : i < 3) (hj : j < 4) (h : el j = el i) : j = i := by
  rcases i with _ | _ | _ | i
  · rcases j with _ | _ | _ | _ | j <;> first | rfl | (exfalso; revert h; decide) | omega
  · rcases j with _ | _ | _ | _ | j <;> first | rfl | (exfalso; revert h; decide) | omega
  · rcases j with _ | _ | _ | _ | j <;> first | rfl | (exfalso; revert h; decide) | omega
  · omega
theorem us_back {V V' : VV} {i t j : Nat} (hi : i < 3) (hsz : ∀ j, sz V' j = if j = i then sz V i + 1 else sz V j) (h17 : V' 17 = V 17) (h : us V' t j) (c1 : ¬ (t = 23 ∧ j = i)) (c2 : ¬ (t = el i ∧ j = sz V i)) : us V t j := by
  have hc := cn_17 h17
  have g0 := hsz 0
  have g1 := hsz 1
  have g2 := hsz 2
  have g3 := hsz 3
  have gj := hsz j
  rw [if_neg (by omega)] at g3
  change nR V' = _ at g0
  change nL V' = _ at g1
  change nW V' = _ at g2
  change nE V' = nE V at g3
  change nR V' = if 0 = i then sz V i + 1 else nR V at g0
  change nL V' = if 1 = i then sz V i + 1 else nL V at g1
  change nW V' = if 2 = i then sz V i + 1 else nW V at g2
  have x0 : ¬ (t = 7 ∧ i = 0 ∧ j = nR V) := fun x => c2 ⟨by rw [x.1, x.2.1]; rfl, by rw [x.2.1]; exact x.2.2⟩
  have x1 : ¬ (t = 5 ∧ i = 1 ∧ j = nL V) := fun x => c2 ⟨by rw [x.1, x.2.1]; rfl, by rw [x.2.1]; exact x.2.2⟩
  have x2 : ¬ (t = 9 ∧ i = 2 ∧ j = nW V) := fun x => c2 ⟨by rw [x.1, x.2.1]; rfl, by rw [x.2.1]; exact x.2.2⟩
  have y0 : i = 0 → sz V i = nR V := fun x => by rw [x]; rfl
  have y1 : i = 1 → sz V i = nL V := fun x => by rw [x]; rfl
  have y2 : i = 2 → sz V i = nW V := fun x => by rw [x]; rfl
  rcases us_cases h with ⟨e, h⟩ | ⟨e, h⟩ | ⟨e, h⟩ | ⟨e, h⟩ | ⟨e, h⟩ | ⟨e, h⟩ | ⟨e, h⟩ | ⟨e, h⟩ | ⟨e, h⟩ | ⟨e, h⟩ | ⟨e, h⟩ | ⟨e, h⟩ | ⟨e, h⟩ | ⟨e, h⟩ | ⟨e, h⟩ | ⟨e, h⟩ | ⟨e, h⟩ | ⟨e, h⟩ | ⟨e, h⟩ | ⟨e, h⟩ | ⟨e, h⟩ | ⟨e, h⟩ | ⟨e, h⟩
  · rw [e]; exact h
  · rw [e]; exact h
  · rw [e]; exact h
  · rw [e]; exact h
  · rw [e]; exact h
  · rw [e]; exact h
  · rw [e]; exact h
  · rw [e]; exact h
  · rw [e]; exact h
  · rw [e]; show j < nE V; omega
  · rw [e]; show j < nL V; by_cases x : 1 = i
    · rw [if_pos x] at g1; have := y1 x.symm; have : ¬ j = nL V := fun q => x1 ⟨e, x.symm, q⟩; omega
    · rw [if_neg x] at g1; omega
  · rw [e]; show j < nR V; by_cases x : 0 = i
    · rw [if_pos x] at g0; have := y0 x.symm; have : ¬ j = nR V := fun q => x0 ⟨e, x.symm, q⟩; omega
    · rw [if_neg x] at g0; omega
  · rw [e]; show j < nW V; by_cases x : 2 = i
    · rw [if_pos x] at g2; have := y2 x.symm; have : ¬ j = nW V := fun q => x2 ⟨e, x.symm, q⟩; omega
    · rw [if_neg x] at g2; omega
  · rw [e]; show j < nE V; omega
  · rw [e]; rw [hc] at h; exact (show j < nE V ∧ 0 < cn V j from ⟨by omega, h.2⟩)
  · rw [e]; show j < nE V; omega
  · rw [e]; rw [if_neg (fun x => c1 ⟨e, x⟩)] at gj; exact (show j < 4 ∧ 0 < sz V j from ⟨h.1, by omega⟩)
  · rw [e]; exact h
  · rw [e]; exact h
  · rw [e]; exact h
  · rw [e]; exact h
  · rw [e]; exact h
  · rw [e]; exact h
theorem us_new {V : VV} {i j : Nat} (h : us V (el i) j) (hi : i < 3) : j < sz V i := by
  rcases i with _ | _ | _ | i
  · exact h
  · exact h
  · exact h
  · omega
theorem Rep_add3 {S S' : St} {A : Nat → Nat → Nat} {V V' : VV} {M : MM} {i q d' : Nat} {m : Int32} (hi : i < 3) (R : Rep S A V M) (hk : ok S q (el i)) (hun : ∀ t j, us V t j → A t j ≠ q) (hap : Ap S S' (A 0 i) d' (sz V i) q (pt (sT S) A V 23 i) m) (hd' : (us V 23 i ∧ d' = A 23 i) ∨ d' ∉ sL S)
    (hs : sz V i < 12) (hsz : ∀ j, sz V' j = if j = i then sz V i + 1 else sz V j) (h17 : V' 17 = V 17) (h18 : V' 18 = V 18) (how : ∀ w, w < nW V → ow V' w = ow V w) (hnew : ∀ l, i = 2 → ow V' (nW V) = some l → l < nL V)
    (hqp : sP S q = pt (sT S) (A3 A i (sz V i) q d') V' (el i) (sz V i)) : Rep S' (A3 A i (sz V i) q d') V' (M3 M i (sz V i) (sI S q) (sI S' d') m) := by
  have hc := cn_17 h17
  have hic := ic_18 h18
  obtain ⟨l1, l2, l3⟩ := el_ne (i := i)
  have hbs := b0 R (i := i) (by omega)
  have hAo : ∀ t j, ¬ (t = el i ∧ j = sz V i) → ¬ (t = 23 ∧ j = i) → A3 A i (sz V i) q d' t j = A t j := fun t j a b => by
    unfold A3
    rw [if_neg a, if_neg b]
  have g3 : nE V' = nE V := by
    have := hsz 3
    rw [if_neg (by omega)] at this
    exact this
  have gW : nW V' = if 2 = i then nW V + 1 else nW V := by
    have := hsz 2
    by_cases x : 2 = i
    · subst x
      rw [if_pos rfl] at this ⊢
      exact this
    · rw [if_neg x] at this ⊢
      exact this
  have gL : nL V ≤ nL V' := by
    have := hsz 1
    by_cases x : 1 = i
    · subst x
      rw [if_pos rfl] at this
      change nL V' = nL V + 1 at this
      omega
    · rw [if_neg x] at this
      change nL V' = nL V at this
      omega
  have hnt : ∀ t j, us V t j → ¬ (t = el i ∧ j = sz V i) := fun t j h e => by
    rw [e.1, e.2] at h
    have := us_new h hi
    omega
  have hA40 : A3 A i (sz V i) q d' 40 0 = A 40 0 := hAo _ _ (fun y => by rcases l3 with z1 | z1 | z1 | z1 <;> omega) (fun y => absurd y.1 (by decide))
  refine Rep_app (lt := 0) (dt := 23) (i := i) (n := sz V i) (b := q) (d' := d') (m := m) (N := fun t j => t = el i ∧ j = sz V i) R hA40 (show us V 0 i from (by omega : i < 4)) (Or.inl ⟨rfl, rfl⟩) hap hd' (fun h => l2 h.1.symm) (fun t j h => ?_) (fun t j h hne => hAo t j (hnt t j h) hne) ?_ (fun t j h x => by rw [h.1] at x; rcases l3 with y | y | y | y <;> omega) (fun t j h => ?_) (fun t j t' j' h h' _ => ⟨h.1.trans h'.1.symm, h.2.trans h'.2.symm⟩) (fun t j h h1 h2 => ?_) ?_ ?_ (fun t j h h1 h2 => ?_) ?_ ?_ (fun t j h h1 => ?_) ?_ (fun j hj => ?_) (fun e he => ?_) (fun w l hw hl => ?_)
  · by_cases c1 : t = 23 ∧ j = i
    · exact Or.inl c1
    · by_cases c2 : t = el i ∧ j = sz V i
      · exact Or.inr (Or.inl c2)
      · exact Or.inr (Or.inr ⟨us_back hi hsz h17 h c1 c2, c1, c2⟩)
  · unfold A3
    rw [if_neg (fun h => l1 h.1.symm), if_pos ⟨rfl, rfl⟩]
  · have e : A3 A i (sz V i) q d' t j = q := by
      unfold A3
      rw [if_pos h]
    rw [e]
    refine ⟨fun x => l1 (h.1 ▸ x), hk.1, ?_, hun, ?_, ?_, ?_⟩
    · rw [h.1]
      have : kd (el i) = el i := by rcases l3 with x | x | x | x <;> rw [x] <;> rfl
      rw [this]
      exact hk
    · rw [h.1, h.2]
      exact hqp
    · intro x
      rw [h.1] at x
      rcases l3 with y | y | y | y <;> omega
    · unfold M3
      rw [if_pos h]
  · unfold M3
    rw [if_neg (hnt t j h), if_neg h1, if_neg h2]
  · unfold M3
    rw [if_neg (fun h => l2 h.1.symm), if_neg (fun h => absurd h.1 (by decide)), if_pos ⟨rfl, rfl⟩]
  · unfold M3
    rw [if_neg (fun h => l1 h.1.symm), if_pos ⟨rfl, rfl⟩]
  · have hjs : t = 0 ∨ t = 23 → j ≠ i := fun x y => by
      rcases x with x | x
      · exact h2 ⟨x, y⟩
      · exact h1 ⟨x, y⟩
    refine pt_ext (fun x => ?_) (fun _ => by rw [hc]) (fun _ k _ => by rw [hic]) (fun x => ?_) (fun x hne => ?_) (fun x _ => ?_) (fun x k hk' => ?_) (fun x k hk' => ?_) (fun x l hl' => ?_) (fun x => ?_) (fun t' j' x => ?_)
    · rw [hsz j, if_neg (hjs x)]
    · rw [x] at h
      exact how j h
    · exact hAo _ _ (fun y => l1 y.1.symm) (fun y => hjs (Or.inl x) y.2)
    · refine hAo _ _ (fun y => ?_) (fun y => absurd y.1 (by decide))
      rcases l3 with z1 | z1 | z1 | z1 <;> omega
    · refine hAo _ _ (fun y => ?_) (fun y => ?_)
      · have := el_inj (i := i) (j := j) hi (by rw [x] at h; exact h.1) y.1
        exact hjs (Or.inr x) this
      · have := (el_ne (i := j)).1
        exact this y.1
    · rw [x] at h
      have hw := bI R (i := j) h.1 hk'
      refine hAo _ _ (fun y => ?_) (fun y => absurd y.1 (by decide))
      rcases i with _ | _ | _ | i
      · exact absurd y.1 (by decide)
      · exact absurd y.1 (by decide)
      · have y2 := y.2
        change ic V j k = nW V at y2
        omega
      · omega
    · rw [x] at h
      have hl2 := bO R (w := j) h hl'
      refine hAo _ _ (fun y => ?_) (fun y => absurd y.1 (by decide))
      rcases i with _ | _ | _ | i
      · exact absurd y.1 (by decide)
      · have y2 := y.2
        change l = nL V at y2
        omega
      · exact absurd y.1 (by decide)
      · omega
    · constructor
      · refine hAo _ _ (fun y => ?_) (fun y => absurd y.1 (by decide))
        rcases l3 with z1 | z1 | z1 | z1 <;> omega
      · refine hAo _ _ (fun y => ?_) (fun y => absurd y.1 (by decide))
        rcases l3 with z1 | z1 | z1 | z1 <;> omega
    · refine hAo _ _ (fun y => ?_) (fun y => ?_)
      · rcases l3 with z1 | z1 | z1 | z1 <;> omega
      · omega
  · funext k
    rw [up_ap]
    show (if k = 1 then some (if sz V' i = 0 then sT S else A3 A i (sz V i) q d' 23 i) else none) = _
    rw [hsz i, if_pos rfl, if_neg (show ¬ sz V i + 1 = 0 by omega)]
    by_cases e : k = 1
    · rw [if_pos e, if_pos e]
      unfold A3
      rw [if_neg (fun h => l1 h.1.symm), if_pos ⟨rfl, rfl⟩]
    · rw [if_neg e, if_neg e]
      show none = if k = 1 then _ else none
      rw [if_neg e]
  · funext k
    show (if k < sz V' i then some (A3 A i (sz V i) q d' (el i) k) else none) = if k < sz V i then (if k < sz V i then some (A (el i) k) else none) else if k = sz V i then some q else none
    rw [hsz i, if_pos rfl]
    by_cases e : k < sz V i
    · rw [if_pos (by omega), if_pos e, if_pos e, hAo _ _ (fun h => by omega) (fun h => l1 h.1)]
    · rw [if_neg e]
      by_cases e2 : k = sz V i
      · rw [if_pos (by omega), if_pos e2]
        unfold A3
        rw [if_pos ⟨rfl, e2⟩]
      · rw [if_neg (by omega), if_neg e2]
  · by_cases e : t = 23
    · have hji : j ≠ i := fun x => h1 ⟨e, x⟩
      subst e
      show cp (sz V' j) = cp (sz V j)
      rw [hsz j, if_neg hji]
    · unfold nn
      by_cases e21 : t = 21
      · rw [if_pos e21, if_pos e21]
      rw [if_neg e21, if_neg e21]
      by_cases e22 : t = 22
      · rw [if_pos e22, if_pos e22]
      rw [if_neg e22, if_neg e22, if_neg e, if_neg e]
  · show cp (sz V' i) = cp (sz V i + 1)
    rw [hsz i, if_pos rfl]
  · rw [hsz j]
    unfold M3
    rw [if_neg (fun h => l2 h.1.symm), if_neg (fun h => absurd h.1 (by decide))]
    by_cases e : j = i
    · rw [if_pos ⟨rfl, e⟩, if_pos e, upd_s]
      exact ⟨rfl, by omega⟩
    · rw [if_neg (fun h => e h.2), if_neg e]
      exact R.2.2.2.2.2.1 j hj
  · rw [g3] at he
    rw [hc, hic]
    unfold M3
    have n20 : ¬ (20 = el i ∧ e = sz V i) := fun h => by rcases l3 with y | y | y | y <;> omega
    rw [if_neg n20, if_neg (fun h => absurd h.1 (by decide)), if_neg (fun h => absurd h.1 (by decide))]
    obtain ⟨k1, k2, k3⟩ := R.2.2.2.2.2.2.1 e he
    refine ⟨k1, k2, fun k hk' => ?_⟩
    have := k3 k hk'
    rw [gW]
    split <;> omega
  · by_cases e : w < nW V
    · rw [how w e] at hl
      have := bO R e hl
      omega
    · rw [gW] at hw
      by_cases x : 2 = i
      · rw [if_pos x] at hw
        have e2 : w = nW V := by omega
        rw [e2] at hl
        have := hnew l x.symm hl
        omega
      · rw [if_neg x] at hw
        omega
