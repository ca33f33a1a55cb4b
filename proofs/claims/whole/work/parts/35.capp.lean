/-! ===== the museum with one more thing in a list ===== -/
theorem pt_ext {T : Nat} {A A' : Nat → Nat → Nat} {V V' : VV} {t j : Nat} (hs : t = 0 ∨ t = 23 → sz V' j = sz V j) (hc : t = 20 ∨ t = 21 → cn V' j = cn V j) (hi : t = 21 → ∀ k, k < cn V j → ic V' j k = ic V j k) (ho : t = 9 → ow V' j = ow V j)
    (a23 : t = 0 → sz V j ≠ 0 → A' 23 j = A 23 j) (a21 : t = 20 → cn V j ≠ 0 → A' 21 j = A 21 j) (ael : t = 23 → ∀ k, k < sz V j → A' (el j) k = A (el j) k) (a9 : t = 21 → ∀ k, k < cn V j → A' 9 (ic V j k) = A 9 (ic V j k)) (a5 : t = 9 → ∀ l, ow V j = some l → A' 5 l = A 5 l)
    (a3 : t = 3 → A' 20 j = A 20 j ∧ A' 22 j = A 22 j) (af : ∀ t' j', (t' = 0 ∨ t' = 1 ∨ t' = 2 ∨ t' = 4 ∨ t' = 6 ∨ t' = 8 ∨ t' = 24 ∨ t' = 25 ∨ t' = 26 ∨ t' = 27) → A' t' j' = A t' j') : pt T A' V' t j = pt T A V t j := by
  funext k
  unfold pt
  rw [af 0 0 (by decide), af 0 1 (by decide), af 0 2 (by decide), af 0 3 (by decide), af 24 0 (by decide), af 4 0 (by decide), af 8 0 (by decide), af 2 0 (by decide), af 1 0 (by decide), af 6 0 (by decide), af 25 0 (by decide), af 25 1 (by decide), af 25 2 (by decide), af 25 3 (by decide), af 25 4 (by decide), af 26 0 (by decide), af 26 1 (by decide), af 26 2 (by decide), af 27 k (by decide)]
  by_cases e0 : t = 0
  · rw [if_pos e0, if_pos e0, hs (Or.inl e0)]
    by_cases e : sz V j = 0
    · rw [if_pos e, if_pos e]
    · rw [if_neg e, if_neg e, a23 e0 e]
  rw [if_neg e0, if_neg e0]
  by_cases e20 : t = 20
  · rw [if_pos e20, if_pos e20, hc (Or.inl e20)]
    by_cases e : cn V j = 0
    · rw [if_pos e, if_pos e]
    · rw [if_neg e, if_neg e, a21 e20 e]
  rw [if_neg e20, if_neg e20]
  by_cases e23 : t = 23
  · rw [if_pos e23, if_pos e23, hs (Or.inr e23)]
    by_cases e : k < sz V j
    · rw [if_pos e, if_pos e, ael e23 k e]
    · rw [if_neg e, if_neg e]
  rw [if_neg e23, if_neg e23]
  by_cases e21 : t = 21
  · rw [if_pos e21, if_pos e21, hc (Or.inr e21)]
    by_cases e : k < cn V j
    · rw [if_pos e, if_pos e, hi e21 k e, a9 e21 k e]
    · rw [if_neg e, if_neg e]
  rw [if_neg e21, if_neg e21]
  by_cases e9 : t = 9
  · rw [if_pos e9, if_pos e9, ho e9]
    by_cases e : k = 6
    · rw [if_pos e, if_pos e]
      cases h : ow V j with
      | none => rfl
      | some l =>
        show some (A' 5 l) = some (A 5 l)
        rw [a5 e9 l h]
    · rw [if_neg e, if_neg e]
  rw [if_neg e9, if_neg e9]
  by_cases e3 : t = 3
  · rw [if_pos e3, if_pos e3, (a3 e3).1, (a3 e3).2]
  rw [if_neg e3, if_neg e3]
theorem Rep_app {S S' : St} {A A' : Nat → Nat → Nat} {V V' : VV} {M M' : MM} {lt dt i n b d' : Nat} {m : Int32} {N : Nat → Nat → Prop} (R : Rep S A V M) (hA40 : A' 40 0 = A 40 0)
    (hl : us V lt i) (hlt : (lt = 0 ∧ dt = 23) ∨ (lt = 20 ∧ dt = 21)) (hap : Ap S S' (A lt i) d' n b (pt (sT S) A V dt i) m) (hd' : (us V dt i ∧ d' = A dt i) ∨ d' ∉ sL S) (hni : ¬ N lt i)
    (hu : ∀ t j, us V' t j → (t = dt ∧ j = i) ∨ N t j ∨ (us V t j ∧ ¬ (t = dt ∧ j = i) ∧ ¬ N t j))
    (hA : ∀ t j, us V t j → ¬ (t = dt ∧ j = i) → A' t j = A t j) (hAd : A' dt i = d')
    (hN28 : ∀ t j, N t j → t ≠ 28) (hN : ∀ t j, N t j → t ≠ dt ∧ A' t j ∈ sL S ∧ ok S (A' t j) (kd t) ∧ (∀ t' j', us V t' j' → A t' j' ≠ A' t j) ∧ sP S (A' t j) = pt (sT S) A' V' t j ∧ (20 < t → sN S (A' t j) = nn V' t j) ∧ sI S (A' t j) = M' t j)
    (hNi : ∀ t j t' j', N t j → N t' j' → A' t j = A' t' j' → t = t' ∧ j = j')
    (hM : ∀ t j, us V t j → ¬ (t = dt ∧ j = i) → ¬ (t = lt ∧ j = i) → M' t j = M t j) (hMl : M' lt i = upd (upd (M lt i) 0 m) 2 (z (n + 1))) (hMd : M' dt i = sI S' d')
    (hp : ∀ t j, us V t j → ¬ (t = dt ∧ j = i) → ¬ (t = lt ∧ j = i) → pt (sT S) A' V' t j = pt (sT S) A V t j) (hpl : pt (sT S) A' V' lt i = va_up (pt (sT S) A V lt i) 1 (some d'))
    (hpd : pt (sT S) A' V' dt i = fun k => if k < n then pt (sT S) A V dt i k else if k = n then some b else none)
    (hnn : ∀ t j, us V t j → ¬ (t = dt ∧ j = i) → nn V' t j = nn V t j) (hnd : nn V' dt i = cp (n + 1))
    (h6 : ∀ i, i < 4 → M' 0 i 2 = z (sz V' i) ∧ sz V' i ≤ 12) (h7 : ∀ e, e < nE V' → M' 20 e 2 = z (cn V' e) ∧ cn V' e ≤ 5 ∧ ∀ k, k < cn V' e → ic V' e k < nW V') (h8 : ∀ w l, w < nW V' → ow V' w = some l → l < nL V') : Rep S' A' V' M' := by
  obtain ⟨r1, r2, r3, r4, r5, -, -, -⟩ := R
  obtain ⟨p1, p2, p3, p4, p5, p6, p7, p8, p9, p10⟩ := hap
  have hdn : ∀ t j, us V t j → ¬ (t = dt ∧ j = i) → A t j ≠ d' := fun t j h hne e => by
    rcases hd' with ⟨h1, h2⟩ | h2
    · rw [h2] at e
      exact hne (r5 _ _ _ _ h h1 e)
    · exact h2 (e ▸ (r1 t j h).1)
  have hNd : ∀ t j, N t j → A' t j ≠ d' := fun t j h e => by
    rcases hd' with ⟨h1, h2⟩ | h2
    · exact (hN t j h).2.2.2.1 dt i h1 (by rw [e, h2])
    · exact h2 (e ▸ (hN t j h).2.1)
  have hNa : ∀ t j, N t j → A' t j ≠ A lt i := fun t j h e => (hN t j h).2.2.2.1 lt i hl e.symm
  have hkd : kd dt = 102 := by rcases hlt with ⟨_, h⟩ | ⟨_, h⟩ <;> rw [h] <;> rfl
  have hdl : ¬ (lt = dt ∧ i = i) := by omega
  refine ⟨fun t j h => ?_, fun t j h => ?_, fun t j h => ?_, fun t j h ht => ?_, fun t j t' j' h h' e => ?_, h6, h7, h8⟩
  · rcases hu t j h with ⟨e1, e2⟩ | hn | ⟨ho, hne, hnn'⟩
    · subst e1 e2
      rw [hAd, hkd]
      exact p2
    · exact p1 _ _ (hN t j hn).2.2.1
    · rw [hA t j ho hne]
      exact p1 _ _ (r1 t j ho)
  · rcases hu t j h with ⟨e1, e2⟩ | hn | ⟨ho, hne, hnn'⟩
    · subst e1 e2
      rw [hAd, hMd]
    · rw [p5 _ (hN t j hn).2.1 (hNd t j hn), if_neg (hNa t j hn)]
      exact (hN t j hn).2.2.2.2.2.2
    · rw [hA t j ho hne, p5 _ (r1 t j ho).1 (hdn t j ho hne)]
      by_cases e : t = lt ∧ j = i
      · rw [e.1, e.2, if_pos rfl, hMl, r2 lt i hl]
      · rw [if_neg (fun e2 => e (r5 _ _ _ _ ho hl e2)), hM t j ho hne e]
        exact r2 t j ho
  · rw [p8]
    rcases hu t j h with ⟨e1, e2⟩ | hn | ⟨ho, hne, hnn'⟩
    · subst e1 e2
      rw [hAd, hpd]
      exact p7
    · rw [p6 _ (hN t j hn).2.1 (hNd t j hn), if_neg (hNa t j hn)]
      exact (hN t j hn).2.2.2.2.1
    · rw [hA t j ho hne, p6 _ (r1 t j ho).1 (hdn t j ho hne)]
      by_cases e : t = lt ∧ j = i
      · rw [e.1, e.2, if_pos rfl, hpl, r3 lt i hl]
      · rw [if_neg (fun e2 => e (r5 _ _ _ _ ho hl e2)), hp t j ho hne e]
        exact r3 t j ho
  · rcases hu t j h with ⟨e1, e2⟩ | hn | ⟨ho, hne, hnn'⟩
    · subst e1 e2
      rw [hAd, hnd, if_neg (by omega)]
      exact p3
    · rw [p4 _ (hN t j hn).2.1 (hNd t j hn), if_neg (hN28 t j hn)]
      exact (hN t j hn).2.2.2.2.2.1 ht
    · rw [hA t j ho hne, p4 _ (r1 t j ho).1 (hdn t j ho hne), hnn t j ho hne, hA40]
      exact r4 t j ho ht
  · rcases hu t j h with ⟨e1, e2⟩ | hn | ⟨ho, hne, hnn'⟩
    · rcases hu t' j' h' with ⟨f1, f2⟩ | hn' | ⟨ho', hne', hnn''⟩
      · exact ⟨e1.trans f1.symm, e2.trans f2.symm⟩
      · rw [e1, e2, hAd] at e
        exact absurd e.symm (hNd t' j' hn')
      · rw [e1, e2, hAd, hA t' j' ho' hne'] at e
        exact absurd e.symm (hdn t' j' ho' hne')
    · rcases hu t' j' h' with ⟨f1, f2⟩ | hn' | ⟨ho', hne', hnn''⟩
      · rw [f1, f2, hAd] at e
        exact absurd e (hNd t j hn)
      · exact hNi t j t' j' hn hn' e
      · rw [hA t' j' ho' hne'] at e
        exact absurd e.symm ((hN t j hn).2.2.2.1 t' j' ho')
    · rcases hu t' j' h' with ⟨f1, f2⟩ | hn' | ⟨ho', hne', hnn''⟩
      · rw [f1, f2, hAd, hA t j ho hne] at e
        exact absurd e (hdn t j ho hne)
      · rw [hA t j ho hne] at e
        exact absurd e ((hN t' j' hn').2.2.2.1 t j ho)
      · rw [hA t j ho hne, hA t' j' ho' hne'] at e
        exact r5 _ _ _ _ ho ho' e
