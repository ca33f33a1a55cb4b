/-! ===== an exhibition more ===== -/
def AE (A : Nat → Nat → Nat) (n q q1 q2 d' : Nat) : Nat → Nat → Nat := fun t j => if t = 3 ∧ j = n then q else if t = 20 ∧ j = n then q1 else if t = 22 ∧ j = n then q2 else if t = 23 ∧ j = 3 then d' else A t j
def ME (M : MM) (n : Nat) (fq fq1 fq2 fd : Nat → Int32) (m : Int32) : MM := fun t j => if t = 3 ∧ j = n then fq else if t = 20 ∧ j = n then fq1 else if t = 22 ∧ j = n then fq2 else if t = 23 ∧ j = 3 then fd else if t = 0 ∧ j = 3 then upd (upd (M 0 3) 0 m) 2 (z (n + 1)) else M t j
theorem addE_row {V : VV} {f l g : Int32} {k : Nat} (h1 : k ≠ 13) (h2 : k ≠ 14) (h3 : k ≠ 15) (h4 : k ≠ 16) (h5 : k ≠ 27) : addE V f l g k = V k := by
  unfold addE
  rw [up2_n _ _ h5, up2_n _ _ h4, up2_n _ _ h3, up2_n _ _ h2, up2_n _ _ h1]
section SE2
variable {S : St} {A : Nat → Nat → Nat} {V : VV} {M : MM} {exc : String → St → Prop}
theorem Rep_addE {S1 S' : St} {q q1 q2 d' : Nat} {m f l g : Int32} (R : Rep S1 A V M) (hn : nE V < 8) (hc0 : cn V (nE V) = 0) (k0 : ok S1 q 3) (k1 : ok S1 q1 0) (k2 : ok S1 q2 101) (u0 : ∀ t j, us V t j → A t j ≠ q) (u1 : ∀ t j, us V t j → A t j ≠ q1) (u2 : ∀ t j, us V t j → A t j ≠ q2)
    (hp0 : sP S1 q = fun k => if k = 4 then some q1 else if k = 5 then some q2 else none) (hp1 : sP S1 q1 = fun k => if k = 1 then some (sT S1) else none) (hp2 : sP S1 q2 = fun _ => none) (hn2 : sN S1 q2 = 5) (hi1 : sI S1 q1 2 = 0)
    (hap : Ap S1 S' (A 0 3) d' (nE V) q (pt (sT S1) A V 23 3) m) (hd' : (us V 23 3 ∧ d' = A 23 3) ∨ d' ∉ sL S1) : Rep S' (AE A (nE V) q q1 q2 d') (addE V f l g) (ME M (nE V) (sI S1 q) (sI S1 q1) (sI S1 q2) (sI S' d') m) := by
  have hAo : ∀ t j, ¬ (t = 3 ∧ j = nE V) → ¬ (t = 20 ∧ j = nE V) → ¬ (t = 22 ∧ j = nE V) → ¬ (t = 23 ∧ j = 3) → AE A (nE V) q q1 q2 d' t j = A t j := fun t j a b c d => by
    unfold AE
    rw [if_neg a, if_neg b, if_neg c, if_neg d]
  obtain ⟨hR, hL, hW, hE⟩ := addE_s (V := V) (f := f) (l := l) (g := g) (by omega)
  have hcn : cn (addE V f l g) = cn V := cn_17 (addE_row (by decide) (by decide) (by decide) (by decide) (by decide))
  have hic : ic (addE V f l g) = ic V := ic_18 (addE_row (by decide) (by decide) (by decide) (by decide) (by decide))
  have how : ow (addE V f l g) = ow V := by funext i; unfold ow; rw [addE_row (by decide) (by decide) (by decide) (by decide) (by decide)]
  have hsz : ∀ j, j < 3 → sz (addE V f l g) j = sz V j := fun j hj => by
    unfold sz
    rw [hR, hL, hW]
    by_cases a : j = 0
    · rw [if_pos a, if_pos a]
    rw [if_neg a, if_neg a]
    by_cases b : j = 1
    · rw [if_pos b, if_pos b]
    rw [if_neg b, if_neg b, if_pos (by omega), if_pos (by omega)]
  have hsz3 : sz (addE V f l g) 3 = nE V + 1 := hE
  have hnt : ∀ t j, us V t j → ¬ (t = 3 ∧ j = nE V) ∧ ¬ (t = 20 ∧ j = nE V) ∧ ¬ (t = 22 ∧ j = nE V) := fun t j h => by
    refine ⟨fun e => ?_, fun e => ?_, fun e => ?_⟩
    · rw [e.1, e.2] at h
      exact Nat.lt_irrefl _ (show nE V < nE V from h)
    · rw [e.1, e.2] at h
      exact Nat.lt_irrefl _ (show nE V < nE V from h)
    · rw [e.1, e.2] at h
      exact Nat.lt_irrefl _ (show nE V < nE V from h)
  have a3 : AE A (nE V) q q1 q2 d' 3 (nE V) = q := by unfold AE; rw [if_pos ⟨rfl, rfl⟩]
  have a20 : AE A (nE V) q q1 q2 d' 20 (nE V) = q1 := by unfold AE; rw [if_neg (fun h => absurd h.1 (by decide)), if_pos ⟨rfl, rfl⟩]
  have a22 : AE A (nE V) q q1 q2 d' 22 (nE V) = q2 := by unfold AE; rw [if_neg (fun h => absurd h.1 (by decide)), if_neg (fun h => absurd h.1 (by decide)), if_pos ⟨rfl, rfl⟩]
  have a23 : AE A (nE V) q q1 q2 d' 23 3 = d' := by unfold AE; rw [if_neg (fun h => absurd h.1 (by decide)), if_neg (fun h => absurd h.1 (by decide)), if_neg (fun h => absurd h.1 (by decide)), if_pos ⟨rfl, rfl⟩]
  have m3 : ME M (nE V) (sI S1 q) (sI S1 q1) (sI S1 q2) (sI S' d') m 3 (nE V) = sI S1 q := by unfold ME; rw [if_pos ⟨rfl, rfl⟩]
  have m20 : ME M (nE V) (sI S1 q) (sI S1 q1) (sI S1 q2) (sI S' d') m 20 (nE V) = sI S1 q1 := by unfold ME; rw [if_neg (fun h => absurd h.1 (by decide)), if_pos ⟨rfl, rfl⟩]
  have m22 : ME M (nE V) (sI S1 q) (sI S1 q1) (sI S1 q2) (sI S' d') m 22 (nE V) = sI S1 q2 := by unfold ME; rw [if_neg (fun h => absurd h.1 (by decide)), if_neg (fun h => absurd h.1 (by decide)), if_pos ⟨rfl, rfl⟩]
  refine Rep_app (lt := 0) (dt := 23) (i := 3) (n := nE V) (b := q) (d' := d') (m := m) (N := fun t j => (t = 3 ∨ t = 20 ∨ t = 22) ∧ j = nE V) R (hAo 40 0 (fun h => absurd h.1 (by decide)) (fun h => absurd h.1 (by decide)) (fun h => absurd h.1 (by decide)) (fun h => absurd h.1 (by decide))) (show us V 0 3 from (by decide : 3 < 4)) (Or.inl ⟨rfl, rfl⟩) hap hd' (fun h => by omega) (fun t j h => ?_) (fun t j h hne => hAo t j (hnt t j h).1 (hnt t j h).2.1 (hnt t j h).2.2 hne) a23 (fun t j h => by omega) (fun t j h => ?_) (fun t j t' j' h h' e => ?_) (fun t j h h1 h2 => ?_) ?_ ?_ (fun t j h h1 h2 => ?_) ?_ ?_ (fun t j h h1 => ?_) ?_ (fun j hj => ?_) (fun e he => ?_) (fun w l' hw hl => ?_)
  · by_cases c1 : t = 23 ∧ j = 3
    · exact Or.inl c1
    · by_cases c2 : (t = 3 ∨ t = 20 ∨ t = 22) ∧ j = nE V
      · exact Or.inr (Or.inl c2)
      · refine Or.inr (Or.inr ⟨?_, c1, c2⟩)
        rcases us_cases h with ⟨e, h⟩ | ⟨e, h⟩ | ⟨e, h⟩ | ⟨e, h⟩ | ⟨e, h⟩ | ⟨e, h⟩ | ⟨e, h⟩ | ⟨e, h⟩ | ⟨e, h⟩ | ⟨e, h⟩ | ⟨e, h⟩ | ⟨e, h⟩ | ⟨e, h⟩ | ⟨e, h⟩ | ⟨e, h⟩ | ⟨e, h⟩ | ⟨e, h⟩ | ⟨e, h⟩ | ⟨e, h⟩ | ⟨e, h⟩ | ⟨e, h⟩ | ⟨e, h⟩ | ⟨e, h⟩
        · rw [e]; exact h
        · rw [e]; exact h
        · rw [e]; exact h
        · rw [e]; exact h
        · rw [e]; exact h
        · rw [e]; exact h
        · rw [e]; exact h
        · rw [e]; exact h
        · rw [e]; exact h
        · rw [e]; show j < nE V; rw [hE] at h; have : ¬ j = nE V := fun x => c2 ⟨Or.inl e, x⟩; omega
        · rw [e]; rw [hL] at h; exact h
        · rw [e]; rw [hR] at h; exact h
        · rw [e]; rw [hW] at h; exact h
        · rw [e]; show j < nE V; rw [hE] at h; have : ¬ j = nE V := fun x => c2 ⟨Or.inr (Or.inl e), x⟩; omega
        · rw [e]
          rw [hE, hcn] at h
          have : ¬ j = nE V := fun x => by
            rw [x, hc0] at h
            omega
          exact (show j < nE V ∧ 0 < cn V j from ⟨by omega, h.2⟩)
        · rw [e]; show j < nE V; rw [hE] at h; have : ¬ j = nE V := fun x => c2 ⟨Or.inr (Or.inr e), x⟩; omega
        · rw [e]
          have hj3 : j ≠ 3 := fun x => c1 ⟨e, x⟩
          rw [hsz j (by omega)] at h
          exact h
        · rw [e]; exact h
        · rw [e]; exact h
        · rw [e]; exact h
        · rw [e]; exact h
        · rw [e]; exact h
        · rw [e]; exact h
  · obtain ⟨ht, hj⟩ := h
    subst hj
    rcases ht with e | e | e
    · subst e
      rw [a3]
      refine ⟨by decide, k0.1, k0, u0, ?_, fun x => absurd x (by decide), m3.symm⟩
      rw [hp0]
      funext k
      show _ = if k = 4 then some (AE A (nE V) q q1 q2 d' 20 (nE V)) else if k = 5 then some (AE A (nE V) q q1 q2 d' 22 (nE V)) else none
      rw [a20, a22]
    · subst e
      rw [a20]
      refine ⟨by decide, k1.1, k1, u1, ?_, fun x => absurd x (by decide), m20.symm⟩
      rw [hp1]
      funext k
      show _ = if k = 1 then some (if cn (addE V f l g) (nE V) = 0 then sT S1 else AE A (nE V) q q1 q2 d' 21 (nE V)) else none
      rw [hcn, hc0, if_pos rfl]
    · subst e
      rw [a22]
      refine ⟨by decide, k2.1, k2, u2, ?_, fun _ => hn2, m22.symm⟩
      rw [hp2]
      rfl
  · obtain ⟨ht, hj⟩ := h
    obtain ⟨ht', hj'⟩ := h'
    subst hj hj'
    have x01 : q ≠ q1 := fun x => by
      have := k1.2
      rw [← x, k0.2] at this
      omega
    have x02 : q ≠ q2 := fun x => by
      have := k2.2
      rw [← x, k0.2] at this
      omega
    have x12 : q1 ≠ q2 := fun x => by
      have := k2.2
      rw [← x, k1.2] at this
      omega
    rcases ht with h | h | h <;> rcases ht' with h' | h' | h' <;> subst h h' <;> simp only [a3, a20, a22] at e <;> first | exact ⟨rfl, rfl⟩ | exact absurd e x01 | exact absurd e x02 | exact absurd e x12 | exact absurd e.symm x01 | exact absurd e.symm x02 | exact absurd e.symm x12
  · unfold ME
    rw [if_neg (hnt t j h).1, if_neg (hnt t j h).2.1, if_neg (hnt t j h).2.2, if_neg h1, if_neg h2]
  · unfold ME
    rw [if_neg (fun h => absurd h.1 (by decide)), if_neg (fun h => absurd h.1 (by decide)), if_neg (fun h => absurd h.1 (by decide)), if_neg (fun h => absurd h.1 (by decide)), if_pos ⟨rfl, rfl⟩]
  · unfold ME
    rw [if_neg (fun h => absurd h.1 (by decide)), if_neg (fun h => absurd h.1 (by decide)), if_neg (fun h => absurd h.1 (by decide)), if_pos ⟨rfl, rfl⟩]
  · have hjs : t = 0 ∨ t = 23 → j < 3 := fun x => by
      have hj4 : j < 4 := by
        rcases x with x | x
        · rw [x] at h; exact h
        · rw [x] at h; exact h.1
      have : j ≠ 3 := fun y => by
        rcases x with x | x
        · exact h2 ⟨x, y⟩
        · exact h1 ⟨x, y⟩
      omega
    have o : ∀ t' j', (t' ≠ 3 ∨ j' ≠ nE V) → t' ≠ 20 → t' ≠ 22 → (t' ≠ 23 ∨ j' ≠ 3) → AE A (nE V) q q1 q2 d' t' j' = A t' j' := fun t' j' a b c d => hAo t' j' (by omega) (by omega) (by omega) (by omega)
    refine pt_ext (fun x => hsz j (hjs x)) (fun _ => by rw [hcn]) (fun _ k _ => by rw [hic]) (fun _ => by rw [how]) (fun x _ => o _ _ (by omega) (by omega) (by omega) (Or.inr (by have := hjs (Or.inl x); omega))) (fun _ _ => o _ _ (by omega) (by omega) (by omega) (by omega)) (fun x k hk => ?_) (fun _ k _ => o _ _ (by omega) (by omega) (by omega) (by omega)) (fun _ l _ => o _ _ (by omega) (by omega) (by omega) (by omega)) (fun x => ?_) (fun t' j' x => o _ _ (by omega) (by omega) (by omega) (by omega))
    · have hj3 := hjs (Or.inr x)
      have := (el_ne (i := j)).2.2
      refine o _ _ (Or.inl (fun y => ?_)) (by omega) (by omega) (Or.inl (el_ne (i := j)).1)
      rcases j with _ | _ | _ | j
      · exact absurd y (by decide)
      · exact absurd y (by decide)
      · exact absurd y (by decide)
      · omega
    · rw [x] at h
      have hj : j < nE V := h
      exact ⟨hAo _ _ (by omega) (by omega) (by omega) (by omega), hAo _ _ (by omega) (by omega) (by omega) (by omega)⟩
  · funext k
    rw [up_ap]
    show (if k = 1 then some (if sz (addE V f l g) 3 = 0 then sT S1 else AE A (nE V) q q1 q2 d' 23 3) else none) = _
    rw [hsz3, if_neg (show ¬ nE V + 1 = 0 by omega), a23]
    by_cases x : k = 1
    · rw [if_pos x, if_pos x]
    · rw [if_neg x, if_neg x]
      show none = if k = 1 then _ else none
      rw [if_neg x]
  · funext k
    show (if k < sz (addE V f l g) 3 then some (AE A (nE V) q q1 q2 d' 3 k) else none) = if k < nE V then (if k < nE V then some (A 3 k) else none) else if k = nE V then some q else none
    rw [hsz3]
    by_cases x : k < nE V
    · rw [if_pos (by omega), if_pos x, if_pos x, hAo _ _ (by omega) (by omega) (by omega) (by omega)]
    · rw [if_neg x]
      by_cases y : k = nE V
      · rw [if_pos (by omega), if_pos y, y, a3]
      · rw [if_neg (by omega), if_neg y]
  · by_cases e : t = 23
    · subst e
      have hj3 : j < 3 := by
        have : j ≠ 3 := fun x => h1 ⟨rfl, x⟩
        have := h.1
        omega
      show cp (sz (addE V f l g) j) = cp (sz V j)
      rw [hsz j hj3]
    · unfold nn
      by_cases e21 : t = 21
      · rw [if_pos e21, if_pos e21]
      rw [if_neg e21, if_neg e21]
      by_cases e22 : t = 22
      · rw [if_pos e22, if_pos e22]
      rw [if_neg e22, if_neg e22, if_neg e, if_neg e]
  · show cp (sz (addE V f l g) 3) = cp (nE V + 1)
    rw [hsz3]
  · unfold ME
    rw [if_neg (fun h => absurd h.1 (by decide)), if_neg (fun h => absurd h.1 (by decide)), if_neg (fun h => absurd h.1 (by decide)), if_neg (fun h => absurd h.1 (by decide))]
    by_cases e : j = 3
    · rw [if_pos ⟨rfl, e⟩, e, hsz3, upd_s]
      exact ⟨rfl, by omega⟩
    · rw [if_neg (fun h => e h.2), hsz j (by omega)]
      exact R.2.2.2.2.2.1 j hj
  · rw [hE] at he
    rw [hcn, hic, hW]
    by_cases x : e = nE V
    · subst x
      rw [m20, hc0, hi1]
      exact ⟨rfl, by decide, fun k hk => absurd hk (by omega)⟩
    · have : ME M (nE V) (sI S1 q) (sI S1 q1) (sI S1 q2) (sI S' d') m 20 e = M 20 e := by
        unfold ME
        rw [if_neg (by omega), if_neg (by omega), if_neg (by omega), if_neg (by omega), if_neg (by omega)]
      rw [this]
      exact R.2.2.2.2.2.2.1 e (by omega)
  · rw [hW] at hw
    rw [how] at hl
    rw [hL]
    exact bO R hw hl
end SE2
