/-! ===== trips: the least number ===== -/
def ns : Nat → (Nat → Nat) → Nat
  | 0, _ => 0
  | n + 1, f => ns n f + f n
theorem ns_le {n : Nat} {f g : Nat → Nat} (h : ∀ i, i < n → f i ≤ g i) : ns n f ≤ ns n g := by
  induction n with
  | zero => exact Nat.le_refl _
  | succ n ih =>
    have a := ih (fun i hi => h i (by omega))
    have b := h n (by omega)
    show ns n f + f n ≤ ns n g + g n
    omega
theorem ns_c {n : Nat} {f g : Nat → Nat} (h : ∀ i, i < n → f i = g i) : ns n f = ns n g := Nat.le_antisymm (ns_le fun i hi => Nat.le_of_eq (h i hi)) (ns_le fun i hi => Nat.le_of_eq (h i hi).symm)
theorem ns_0 {n : Nat} {f : Nat → Nat} (h : ∀ i, i < n → f i = 0) : ns n f = 0 := by
  induction n with
  | zero => rfl
  | succ n ih =>
    show ns n f + f n = 0
    rw [ih (fun i hi => h i (by omega)), h n (by omega)]
theorem ns_one {n t : Nat} {f : Nat → Nat} (h : ∀ i, i < n → i ≠ t → f i = 0) : ns n f ≤ f t := by
  induction n with
  | zero => exact Nat.zero_le _
  | succ n ih =>
    show ns n f + f n ≤ f t
    by_cases e : n = t
    · rw [e, ns_0 (fun i hi => h i (by omega) (by omega))]
      omega
    · rw [h n (by omega) e]
      exact ih (fun i hi => h i (by omega))
theorem ns_add (n : Nat) (f g : Nat → Nat) : ns n (fun i => f i + g i) = ns n f + ns n g := by
  induction n with
  | zero => rfl
  | succ n ih =>
    show ns n (fun i => f i + g i) + (f n + g n) = ns n f + f n + (ns n g + g n)
    rw [ih]
    omega
/-- what lies on trip t -/
def ld (c : Nat) (v : Nat → Nat) (B : Nat → Bool) (a : Nat → Nat) (t : Nat) : Nat := ns c (fun i => if B i = true ∧ a i = t then v i else 0)
def fe (c : Nat) (v : Nat → Nat) (L : Nat) (B : Nat → Bool) (k : Nat) : Prop := ∃ a : Nat → Nat, (∀ i, i < c → B i = true → a i < k) ∧ ∀ t, ld c v B a t ≤ L
def mn (c : Nat) (v : Nat → Nat) (L : Nat) (B : Nat → Bool) (r : Nat) : Prop := fe c v L B r ∧ ∀ k, fe c v L B k → r ≤ k
def lo (c : Nat) (v : Nat → Nat) (B : Nat → Bool) : Nat := ns c (fun i => if B i = true then v i else 0)
section TR
variable {c L : Nat} {v : Nat → Nat} {B B1 B2 : Nat → Bool}
theorem mn_uniq {r r' : Nat} (h : mn c v L B r) (k : mn c v L B r') : r = r' := Nat.le_antisymm (h.2 _ k.1) (k.2 _ h.1)
theorem fe_mono {k k' : Nat} (h : fe c v L B k) (hk : k ≤ k') : fe c v L B k' := by
  obtain ⟨a, h1, h2⟩ := h
  exact ⟨a, fun i hi hb => Nat.lt_of_lt_of_le (h1 i hi hb) hk, h2⟩
theorem fe_c (hv : ∀ i, i < c → v i ≤ L) : fe c v L B c := by
  refine ⟨fun i => i, fun i hi _ => hi, fun t => ?_⟩
  unfold ld
  by_cases ht : t < c
  · refine Nat.le_trans (ns_one (t := t) (fun i hi hne => if_neg (fun h => hne h.2))) ?_
    split
    · exact hv t ht
    · exact Nat.zero_le _
  · rw [ns_0 (fun i hi => by
      rw [if_neg]
      exact fun h => ht (h.2 ▸ hi))]
    exact Nat.zero_le _
theorem fe_congr {k : Nat} (hb : ∀ i, i < c → B1 i = B2 i) (h : fe c v L B1 k) : fe c v L B2 k := by
  obtain ⟨a, h1, h2⟩ := h
  refine ⟨a, fun i hi h => h1 i hi (by rw [hb i hi]; exact h), fun t => ?_⟩
  have e := h2 t
  unfold ld at e ⊢
  rw [ns_c (g := fun i => if B1 i = true ∧ a i = t then v i else 0) (fun i hi => by rw [hb i hi])]
  exact e
theorem mn_congr {r : Nat} (hb : ∀ i, i < c → B1 i = B2 i) (h : mn c v L B1 r) : mn c v L B2 r := ⟨fe_congr hb h.1, fun k hk => h.2 k (fe_congr (fun i hi => (hb i hi).symm) hk)⟩
theorem fe_un {k1 k2 : Nat} (hb : ∀ i, i < c → B i = true → B1 i = true ∨ B2 i = true) (h1 : fe c v L B1 k1) (h2 : fe c v L B2 k2) : fe c v L B (k1 + k2) := by
  obtain ⟨a1, p1, q1⟩ := h1
  obtain ⟨a2, p2, q2⟩ := h2
  refine ⟨fun i => if B1 i = true then a1 i else k1 + a2 i, fun i hi h => ?_, fun t => ?_⟩
  · dsimp only
    split
    · next hx => have := p1 i hi hx; omega
    · next hx =>
      have := p2 i hi ((hb i hi h).resolve_left hx)
      omega
  · by_cases ht : t < k1
    · refine Nat.le_trans (ns_le fun i hi => ?_) (q1 t)
      dsimp only
      by_cases hb1 : B1 i = true
      · simp only [if_pos hb1]
        split
        · next hx =>
          rw [if_pos ⟨hb1, hx.2⟩]
          exact Nat.le_refl _
        · exact Nat.zero_le _
      · simp only [if_neg hb1]
        split
        · next hx => omega
        · exact Nat.zero_le _
    · refine Nat.le_trans (ns_le fun i hi => ?_) (q2 (t - k1))
      dsimp only
      by_cases hb1 : B1 i = true
      · simp only [if_pos hb1]
        split
        · next hx =>
          have := p1 i hi hb1
          omega
        · exact Nat.zero_le _
      · simp only [if_neg hb1]
        split
        · next hx =>
          rw [if_pos ⟨(hb i hi hx.1).resolve_left hb1, by omega⟩]
          exact Nat.le_refl _
        · exact Nat.zero_le _
theorem fe_1 (h : lo c v B ≤ L) : fe c v L B 1 := by
  refine ⟨fun _ => 0, fun _ _ _ => Nat.one_pos, fun t => Nat.le_trans (ns_le fun i hi => ?_) h⟩
  dsimp only
  split
  · next hx => rw [if_pos hx.1]; exact Nat.le_refl _
  · exact Nat.zero_le _
theorem fe_pos {k i : Nat} (hi : i < c) (hb : B i = true) (h : fe c v L B k) : 1 ≤ k := by
  obtain ⟨a, h1, _⟩ := h
  have := h1 i hi hb
  omega
/-- the last trip, and the others -/
theorem fe_split {k : Nat} (h : fe c v L B (k + 1)) : ∃ B1 : Nat → Bool, (∀ i, i < c → B1 i = true → B i = true) ∧ lo c v B1 ≤ L ∧ fe c v L (fun i => B i && !B1 i) k := by
  obtain ⟨a, h1, h2⟩ := h
  refine ⟨fun i => B i && decide (a i = k), fun i _ h => ?_, ?_, a, fun i hi h => ?_, fun t => ?_⟩
  · simp only [Bool.and_eq_true] at h
    exact h.1
  · refine Nat.le_trans (ns_le fun i hi => ?_) (h2 k)
    simp only [Bool.and_eq_true, decide_eq_true_eq]
    exact Nat.le_refl _
  · simp only [Bool.and_eq_true, Bool.not_eq_true', Bool.and_eq_false_iff, decide_eq_false_iff_not] at h
    have := h1 i hi h.1
    rcases h.2 with h3 | h3
    · rw [h.1] at h3
      cases h3
    · omega
  · refine Nat.le_trans (ns_le fun i hi => ?_) (h2 t)
    dsimp only
    split
    · next hx =>
      simp only [Bool.and_eq_true] at hx
      rw [if_pos ⟨hx.1.1, hx.2⟩]
      exact Nat.le_refl _
    · exact Nat.zero_le _
/-- the least number by one trip and the rest -/
theorem mn_trip {r i0 : Nat} (hv : ∀ i, i < c → v i ≤ L) (hi0 : i0 < c) (hb0 : B i0 = true)
    (h1 : c ≤ r ∨ ∃ B1 : Nat → Bool, lo c v B1 ≤ L ∧ ∃ q, fe c v L (fun i => B i && !B1 i) q ∧ q + 1 ≤ r)
    (h2 : ∀ B1 : Nat → Bool, (∀ i, i < c → B1 i = true → B i = true) → (∃ i, i < c ∧ B1 i = true) → lo c v B1 ≤ L → ∀ q, fe c v L (fun i => B i && !B1 i) q → r ≤ q + 1) : mn c v L B r := by
  constructor
  · rcases h1 with h | ⟨B1, hl, q, hq, hr⟩
    · exact fe_mono (fe_c hv) h
    · refine fe_mono (k := 1 + q) (fe_un (fun i hi h => ?_) (fe_1 hl) hq) (by omega)
      by_cases e : B1 i = true
      · exact Or.inl e
      · refine Or.inr ?_
        simp only [Bool.not_eq_true] at e
        rw [h, e]
        rfl
  · intro k
    induction k with
    | zero =>
      intro hk
      have := fe_pos hi0 hb0 hk
      omega
    | succ k ih =>
      intro hk
      obtain ⟨B1, a1, a2, a3⟩ := fe_split hk
      by_cases e : ∃ i, i < c ∧ B1 i = true
      · exact h2 B1 a1 e a2 k a3
      · refine Nat.le_trans (ih (fe_congr (fun i hi => ?_) a3)) (Nat.le_succ _)
        have : B1 i = false := by
          cases h : B1 i with
          | false => rfl
          | true => exact absurd ⟨i, hi, h⟩ e
        rw [this]
        simp
end TR
/-! masks of at most five bits -/
def tb5 (s : Nat) : Nat → Bool := fun i => s.testBit i
theorem mk5 : ∀ b0 b1 b2 b3 b4 : Bool, ∃ t : Fin 32, t.val.testBit 0 = b0 ∧ t.val.testBit 1 = b1 ∧ t.val.testBit 2 = b2 ∧ t.val.testBit 3 = b3 ∧ t.val.testBit 4 = b4 := by decide +kernel
theorem mkB (B : Nat → Bool) : ∃ t, t < 32 ∧ ∀ i, i < 5 → t.testBit i = B i := by
  obtain ⟨t, h0, h1, h2, h3, h4⟩ := mk5 (B 0) (B 1) (B 2) (B 3) (B 4)
  refine ⟨t.val, t.isLt, fun i hi => ?_⟩
  rcases i with _ | _ | _ | _ | _ | i
  · exact h0
  · exact h1
  · exact h2
  · exact h3
  · exact h4
  · omega
/-- submasks -/
theorem sbm_a : ∀ g : Fin 32, ∀ p : Fin 32, ((p.val - 1) &&& g.val) &&& g.val = (p.val - 1) &&& g.val ∧ (0 < p.val → (p.val - 1) &&& g.val < p.val) ∧ ((p.val &&& g.val = p.val → 0 < p.val → (g.val ^^^ p.val) < g.val)) ∧ (p.val &&& g.val = p.val → (g.val ^^^ p.val) &&& g.val = g.val ^^^ p.val ∧ p.val ≤ g.val) := by decide +kernel
theorem sbm_b : ∀ g : Fin 32, ∀ p : Fin 32, ∀ t : Fin 32, p.val &&& g.val = p.val → t.val &&& g.val = t.val → t.val < p.val → t.val ≤ (p.val - 1) &&& g.val := by decide +kernel
theorem sbm_c : ∀ g : Fin 32, ∀ p : Fin 32, ∀ i : Fin 5, (p.val &&& g.val = p.val → (g.val ^^^ p.val).testBit i.val = (g.val.testBit i.val && !p.val.testBit i.val)) ∧ (p.val &&& g.val = p.val → p.val.testBit i.val = true → g.val.testBit i.val = true) := by decide +kernel
theorem sbm_d : ∀ g : Fin 32, ∀ p : Fin 32, (∀ i : Fin 5, p.val.testBit i.val = true → g.val.testBit i.val = true) → p.val &&& g.val = p.val := by decide +kernel
theorem sbm_e : ∀ g : Fin 32, 0 < g.val → ∃ i : Fin 5, g.val.testBit i.val = true := by decide +kernel
theorem sbm_f : ∀ c : Fin 6, ∀ g : Fin 32, g.val < 2 ^ c.val → ∀ i : Fin 5, g.val.testBit i.val = true → i.val < c.val := by decide +kernel
theorem sbm_g : ∀ c : Fin 6, ∀ i : Fin 5, (2 ^ c.val - 1).testBit i.val = decide (i.val < c.val) := by decide +kernel
theorem zb_t : ∀ s : Fin 32, ∀ i : Fin 5, ((z s.val >>> (z i.val &&& 31)) &&& 1 = 1) = (s.val.testBit i.val = true) := by decide +kernel
theorem zb_p : ∀ s : Fin 32, ∀ t : Fin 32, 0 < s.val → (z s.val - 1) &&& z t.val = z ((s.val - 1) &&& t.val) := by decide +kernel
theorem zb_x : ∀ s : Fin 32, ∀ t : Fin 32, z s.val ^^^ z t.val = z (s.val ^^^ t.val) := by decide +kernel
theorem zb_s : ∀ c : Fin 6, (1 : Int32) <<< (z c.val &&& 31) = z (2 ^ c.val) := by decide +kernel
