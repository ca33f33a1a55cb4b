/-! ===== the least number of trips, by each way of counting ===== -/
theorem sbm_h : ∀ g : Fin 32, ∀ p : Fin 32, g.val ^^^ p.val = 0 → g.val = p.val := by decide +kernel
theorem sbm_i : ∀ g : Fin 32, g.val &&& g.val = g.val := by decide +kernel
section TS
variable {c L : Nat} {v : Nat → Nat}
theorem fe_1i {B : Nat → Bool} (h : fe c v L B 1) : lo c v B ≤ L := by
  obtain ⟨a, h1, h2⟩ := h
  refine Nat.le_trans (ns_le fun i hi => ?_) (h2 0)
  (try dsimp only)
  split
  · next hx =>
    have := h1 i hi hx
    rw [if_pos ⟨hx, by omega⟩]
    exact Nat.le_refl _
  · exact Nat.zero_le _
theorem tb_sub {s t i : Nat} (hs : s < 32) (ht : t < 32) (h : t &&& s = t) (hi : i < 5) : (s ^^^ t).testBit i = (s.testBit i && !t.testBit i) := (sbm_c ⟨s, hs⟩ ⟨t, ht⟩ ⟨i, hi⟩).1 h
/-- one group: by its parts -/
theorem mn_parts {s q : Nat} {nd : Nat → Nat} (hc : c ≤ 5) (hv : ∀ i, i < c → v i ≤ L) (hs : s < 2 ^ c) (hs0 : 0 < s) (hl : L < lo c v (tb5 s)) (hn : ∀ t, 0 < t → t < s → mn c v L (tb5 t) (nd t))
    (h1 : q = c ∨ ∃ t, t &&& s = t ∧ 0 < t ∧ t < s ∧ q = nd t + nd (s ^^^ t)) (h2 : ∀ t, t &&& s = t → 0 < t → t < s → q ≤ nd t + nd (s ^^^ t)) : mn c v L (tb5 s) q := by
  have hs32 : s < 32 := Nat.lt_of_lt_of_le hs (Nat.pow_le_pow_right (by decide) hc)
  have hx : ∀ t, t &&& s = t → 0 < t → t < s → 0 < s ^^^ t ∧ s ^^^ t < s := fun t a b d => by
    have e := (sbm_a ⟨s, hs32⟩ ⟨t, by omega⟩).2.2.1 a b
    refine ⟨?_, e⟩
    rcases Nat.eq_zero_or_pos (s ^^^ t) with h | h
    · have : s = t := sbm_h ⟨s, hs32⟩ ⟨t, by omega⟩ h
      omega
    · exact h
  constructor
  · rcases h1 with h | ⟨t, a, b, d, h⟩
    · rw [h]
      exact fe_c hv
    · rw [h]
      obtain ⟨x0, x1⟩ := hx t a b d
      refine fe_un (fun i hi hb => ?_) (hn t b d).1 (hn _ x0 x1).1
      by_cases e : tb5 t i = true
      · exact Or.inl e
      · refine Or.inr ?_
        unfold tb5 at hb e ⊢
        rw [tb_sub hs32 (by omega) a (by omega), hb]
        simp only [Bool.not_eq_true] at e
        rw [e]
        rfl
  · intro k
    obtain ⟨i0, hi0⟩ := sbm_e ⟨s, hs32⟩ hs0
    have hi0c := sbm_f ⟨c, by omega⟩ ⟨s, hs32⟩ hs i0 hi0
    induction k with
    | zero =>
      intro hk
      have := fe_pos hi0c hi0 hk
      omega
    | succ k ih =>
      intro hk
      obtain ⟨B1, a1, a2, a3⟩ := fe_split hk
      by_cases e : ∃ i, i < c ∧ B1 i = true
      · obtain ⟨t, ht, hb⟩ := mkB (fun i => decide (i < c) && B1 i)
        have hsub : t &&& s = t := sbm_d ⟨s, hs32⟩ ⟨t, ht⟩ (fun i hi => by
          have h3 : t.testBit i.val = (decide (i.val < c) && B1 i.val) := hb i.val i.isLt
          have h4 : t.testBit i.val = true := hi
          rw [h3] at h4
          simp only [Bool.and_eq_true, decide_eq_true_eq] at h4
          exact a1 i.val h4.1 h4.2)
        have hB : ∀ i, i < c → tb5 t i = B1 i := fun i hi => by
          unfold tb5
          rw [hb i (by omega), decide_eq_true hi, Bool.true_and]
        have ht0 : 0 < t := by
          obtain ⟨i, hi, hb1⟩ := e
          rcases Nat.eq_zero_or_pos t with h | h
          · have h5 := hB i hi
            rw [hb1, h] at h5
            unfold tb5 at h5
            rw [Nat.zero_testBit] at h5
            cases h5
          · exact h
        have hts : t < s := by
          have := (sbm_a ⟨s, hs32⟩ ⟨t, ht⟩).2.2.2 hsub
          rcases Nat.lt_or_ge t s with h | h
          · exact h
          · exfalso
            have h6 : t = s := Nat.le_antisymm this.2 h
            have h7 : lo c v (tb5 s) ≤ lo c v B1 := ns_le fun i hi => by
              rw [← hB i hi, h6]
              exact Nat.le_refl _
            omega
        obtain ⟨x0, x1⟩ := hx t hsub ht0 hts
        have b1 := (hn t ht0 hts).2 1 (fe_1 (Nat.le_trans (ns_le fun i hi => by rw [hB i hi]; exact Nat.le_refl _) a2))
        have b2 := (hn _ x0 x1).2 k (fe_congr (fun i hi => by
          show (tb5 s i && !B1 i) = tb5 (s ^^^ t) i
          rw [← hB i hi]
          unfold tb5
          rw [tb_sub hs32 ht hsub (by omega)]) a3)
        have b3 := h2 t hsub ht0 hts
        omega
      · refine Nat.le_trans (ih (fe_congr (fun i hi => ?_) a3)) (Nat.le_succ _)
        have : B1 i = false := by
          cases h : B1 i with
          | false => rfl
          | true => exact absurd ⟨i, hi, h⟩ e
        rw [this]
        simp
theorem mn_small {s : Nat} (hc : c ≤ 5) (hs : s < 2 ^ c) (hs0 : 0 < s) (hl : lo c v (tb5 s) ≤ L) : mn c v L (tb5 s) 1 := by
  have hs32 : s < 32 := Nat.lt_of_lt_of_le hs (Nat.pow_le_pow_right (by decide) hc)
  obtain ⟨i0, hi0⟩ := sbm_e ⟨s, hs32⟩ hs0
  exact ⟨fe_1 hl, fun k hk => fe_pos (sbm_f ⟨c, by omega⟩ ⟨s, hs32⟩ hs i0 hi0) hi0 hk⟩
/-- one group: by one trip and the rest -/
theorem mn_masks {s q : Nat} {nd : Nat → Nat} (hc : c ≤ 5) (hv : ∀ i, i < c → v i ≤ L) (hs : s < 2 ^ c) (hs0 : 0 < s) (hn : ∀ t, t < s → mn c v L (tb5 t) (nd t))
    (h1 : q = 5 ∨ ∃ t, t &&& s = t ∧ 0 < t ∧ lo c v (tb5 t) ≤ L ∧ q = nd (s ^^^ t) + 1) (h2 : ∀ t, t &&& s = t → 0 < t → lo c v (tb5 t) ≤ L → q ≤ nd (s ^^^ t) + 1) : mn c v L (tb5 s) q := by
  have hs32 : s < 32 := Nat.lt_of_lt_of_le hs (Nat.pow_le_pow_right (by decide) hc)
  obtain ⟨i0, hi0⟩ := sbm_e ⟨s, hs32⟩ hs0
  have hi0c := sbm_f ⟨c, by omega⟩ ⟨s, hs32⟩ hs i0 hi0
  have hcx : ∀ t, t &&& s = t → t < 32 → ∀ i, i < c → tb5 (s ^^^ t) i = (tb5 s i && !tb5 t i) := fun t a ht i hi => tb_sub hs32 ht a (by omega)
  have hle : ∀ t, t &&& s = t → t ≤ s := fun t a => by
    rw [← a]
    exact Nat.and_le_right
  refine mn_trip hv hi0c hi0 ?_ (fun B1 a1 e a2 k a3 => ?_)
  · rcases h1 with h | ⟨t, a, b, d, h⟩
    · exact Or.inl (by omega)
    · refine Or.inr ⟨tb5 t, d, nd (s ^^^ t), fe_congr (fun i hi => hcx t a (by have := hle t a; omega) i hi) (hn _ ((sbm_a ⟨s, hs32⟩ ⟨t, by have := hle t a; omega⟩).2.2.1 a b)).1, by omega⟩
  · obtain ⟨t, ht, hb⟩ := mkB (fun i => decide (i < c) && B1 i)
    have hsub : t &&& s = t := sbm_d ⟨s, hs32⟩ ⟨t, ht⟩ (fun i hi => by
      have h3 : t.testBit i.val = (decide (i.val < c) && B1 i.val) := hb i.val i.isLt
      have h4 : t.testBit i.val = true := hi
      rw [h3] at h4
      simp only [Bool.and_eq_true, decide_eq_true_eq] at h4
      exact a1 i.val h4.1 h4.2)
    have hB : ∀ i, i < c → tb5 t i = B1 i := fun i hi => by
      unfold tb5
      rw [hb i (by omega), decide_eq_true hi, Bool.true_and]
    have ht0 : 0 < t := by
      obtain ⟨i, hi, hb1⟩ := e
      rcases Nat.eq_zero_or_pos t with h | h
      · have h5 := hB i hi
        rw [hb1, h] at h5
        unfold tb5 at h5
        rw [Nat.zero_testBit] at h5
        cases h5
      · exact h
    have b2 := (hn (s ^^^ t) ((sbm_a ⟨s, hs32⟩ ⟨t, ht⟩).2.2.1 hsub ht0)).2 k (fe_congr (fun i hi => by
      rw [hcx t hsub ht i hi, hB i hi]) a3)
    have b3 := h2 t hsub ht0 (Nat.le_trans (ns_le fun i hi => by rw [hB i hi]; exact Nat.le_refl _) a2)
    omega
/-! trying: works from w on, T trips in use that carry l -/
def ex (c : Nat) (v : Nat → Nat) (L w T : Nat) (l : Nat → Nat) (k : Nat) : Prop := T ≤ k ∧ ∃ a : Nat → Nat, (∀ i, w ≤ i → i < c → a i < k) ∧ ∀ t, l t + ns c (fun i => if w ≤ i ∧ a i = t then v i else 0) ≤ L
def mx (c : Nat) (v : Nat → Nat) (L w T : Nat) (l : Nat → Nat) (r : Nat) : Prop := ex c v L w T l r ∧ ∀ k, ex c v L w T l k → r ≤ k
theorem ns_at {n w x : Nat} (h : w < n) : ns n (fun i => if i = w then x else 0) = x := by
  induction n with
  | zero => omega
  | succ n ih =>
    show ns n _ + (if n = w then x else 0) = x
    by_cases e : n = w
    · rw [if_pos e, ns_0 (fun i hi => by rw [if_neg]; omega)]
      omega
    · rw [if_neg e, ih (by omega)]
      omega
theorem ns_w {w t : Nat} {a : Nat → Nat} (hw : w < c) : ns c (fun i => if w ≤ i ∧ a i = t then v i else 0) = ns c (fun i => if w + 1 ≤ i ∧ a i = t then v i else 0) + (if a w = t then v w else 0) := by
  have e : (if a w = t then v w else 0) = ns c (fun i => if i = w then (if a w = t then v w else 0) else 0) := (ns_at hw).symm
  rw [e, ← ns_add]
  refine ns_c (fun i hi => ?_)
  by_cases h : i = w
  · subst h
    rw [if_neg (show ¬ (i + 1 ≤ i ∧ a i = t) by omega), if_pos rfl]
    by_cases h2 : a i = t
    · rw [if_pos ⟨Nat.le_refl _, h2⟩, if_pos h2, Nat.zero_add]
    · rw [if_neg (fun h3 => h2 h3.2), if_neg h2]
  · rw [if_neg h, Nat.add_zero]
    by_cases h2 : w ≤ i ∧ a i = t
    · rw [if_pos h2, if_pos ⟨by omega, h2.2⟩]
    · rw [if_neg h2, if_neg (fun h3 => h2 ⟨by omega, h3.2⟩)]
theorem mx_end {T : Nat} {l : Nat → Nat} (hl : ∀ t, l t ≤ L) : mx c v L c T l T := by
  refine ⟨⟨Nat.le_refl _, fun _ => 0, fun i h1 h2 => by omega, fun t => ?_⟩, fun k hk => hk.1⟩
  rw [ns_0 (fun i hi => by rw [if_neg]; omega), Nat.add_zero]
  exact hl t
theorem ite_mono {p q : Prop} [Decidable p] [Decidable q] {x : Nat} (h : p → q) : (if p then x else 0) ≤ (if q then x else 0) := by
  by_cases hp : p
  · rw [if_pos hp, if_pos (h hp)]
    exact Nat.le_refl _
  · rw [if_neg hp]
    exact Nat.zero_le _
theorem mx_step {w T q : Nat} {l : Nat → Nat} {Q : Nat → Nat} (hc : c ≤ 5) (hv : ∀ i, i < c → v i ≤ L) (hw : w < c) (hT : T ≤ w) (hl : ∀ t, l t ≤ L) (h0 : ∀ t, T ≤ t → l t = 0)
    (hQ : ∀ t, t ≤ T → l t + v w ≤ L → mx c v L (w + 1) (if T < t + 1 then t + 1 else T) (pu l t (l t + v w)) (Q t))
    (h1 : q = 5 ∨ ∃ t, t ≤ T ∧ l t + v w ≤ L ∧ q = Q t) (h2 : ∀ t, t ≤ T → l t + v w ≤ L → q ≤ Q t) : mx c v L w T l q := by
  have aT : l T + v w ≤ L := by
    rw [h0 T (Nat.le_refl _), Nat.zero_add]
    exact hv w hw
  have bT : Q T ≤ 5 := by
    refine Nat.le_trans ((hQ T (Nat.le_refl _) aT).2 (T + (c - w)) ⟨?_, fun i => T + 1 + (i - (w + 1)), fun i h3 h4 => ?_, fun t => ?_⟩) (by omega)
    · split <;> omega
    · (try dsimp only); omega
    · by_cases e : T < t
      · have e1 : ns c (fun i => if w + 1 ≤ i ∧ T + 1 + (i - (w + 1)) = t then v i else 0) ≤ (if w + 1 ≤ (t - T + w) ∧ t - T + w < c then v (t - T + w) else 0) := by
          by_cases e2 : t - T + w < c
          · refine Nat.le_trans (ns_one (t := t - T + w) (fun i hi hne => ?_)) ?_
            · (try dsimp only)
              rw [if_neg]
              omega
            · (try dsimp only)
              rw [if_pos ⟨by omega, by omega⟩, if_pos ⟨by omega, e2⟩]
              exact Nat.le_refl _
          · rw [ns_0 (fun i hi => by
              rw [if_neg]
              intro hx
              have hx2 := hx.2
              (try dsimp only at hx2)
              omega)]
            exact Nat.zero_le _
        rw [pu_n l _ (by omega), h0 t (by omega), Nat.zero_add]
        refine Nat.le_trans e1 ?_
        split
        · next hx => exact hv _ hx.2
        · exact Nat.zero_le _
      · rw [ns_0 (fun i hi => by
          rw [if_neg]
          intro hx
          have hx2 := hx.2
          (try dsimp only at hx2)
          omega), Nat.add_zero]
        by_cases e2 : t = T
        · rw [e2, pu_s]; exact aT
        · rw [pu_n l _ e2]; exact hl t
  have h1' : ∃ t, t ≤ T ∧ l t + v w ≤ L ∧ q = Q t := by
    rcases h1 with h | h
    · refine ⟨T, Nat.le_refl _, aT, ?_⟩
      have := h2 T (Nat.le_refl _) aT
      omega
    · exact h
  constructor
  · obtain ⟨t, ht, hf, hq⟩ := h1'
    obtain ⟨x1, a, x2, x3⟩ := (hQ t ht hf).1
    rw [← hq] at x1 x2
    have x1' : T ≤ q ∧ t < q := by
      split at x1 <;> omega
    refine ⟨x1'.1, pu a w t, fun i y1 y2 => ?_, fun t' => ?_⟩
    · by_cases e : i = w
      · rw [e, pu_s]; exact x1'.2
      · rw [pu_n a _ e]; exact x2 i (by omega) y2
    · rw [ns_w hw, pu_s]
      have e1 : ns c (fun i => if w + 1 ≤ i ∧ pu a w t i = t' then v i else 0) = ns c (fun i => if w + 1 ≤ i ∧ a i = t' then v i else 0) := ns_c (fun i hi => by
        by_cases e : i = w
        · rw [if_neg (by omega), if_neg (by omega)]
        · rw [pu_n a _ e])
      rw [e1]
      have x4 := x3 t'
      by_cases e2 : t = t'
      · rw [if_pos e2, ← e2]
        rw [← e2, pu_s] at x4
        omega
      · rw [if_neg e2]
        rw [pu_n l _ (Ne.symm e2)] at x4
        omega
  · rintro k ⟨x1, a, x2, x3⟩
    have x4 := x2 w (Nat.le_refl _) hw
    by_cases e : a w < T
    · have x5 := x3 (a w)
      rw [ns_w hw, if_pos rfl] at x5
      refine Nat.le_trans (h2 (a w) (by omega) (by omega)) ((hQ (a w) (by omega) (by omega)).2 k ⟨?_, a, fun i y1 y2 => x2 i (by omega) y2, fun t => ?_⟩)
      · split <;> omega
      · have x6 := x3 t
        rw [ns_w hw] at x6
        by_cases e2 : t = a w
        · rw [e2, pu_s]
          omega
        · rw [pu_n l _ e2]
          rw [if_neg (Ne.symm e2)] at x6
          omega
    · refine Nat.le_trans (h2 T (Nat.le_refl _) aT) ((hQ T (Nat.le_refl _) aT).2 k ⟨?_, fun i => if a i = a w then T else if a i = T then a w else a i, fun i y1 y2 => ?_, fun t => ?_⟩)
      · split <;> omega
      · have := x2 i (by omega) y2
        (try dsimp only)
        split
        · omega
        · split <;> omega
      · (try dsimp only)
        by_cases e2 : t = T
        · rw [e2, pu_s, h0 T (Nat.le_refl _)]
          have x6 := x3 (a w)
          rw [ns_w hw, if_pos rfl] at x6
          have e3 : ns c (fun i => if w + 1 ≤ i ∧ (if a i = a w then T else if a i = T then a w else a i) = T then v i else 0) ≤ ns c (fun i => if w + 1 ≤ i ∧ a i = a w then v i else 0) := ns_le (fun i hi => ite_mono (fun y => ⟨y.1, by
            by_cases e4 : a i = a w
            · exact e4
            · exfalso
              have y2 := y.2
              rw [if_neg e4] at y2
              by_cases e5 : a i = T
              · rw [if_pos e5] at y2
                omega
              · rw [if_neg e5] at y2
                exact e5 y2⟩))
          omega
        · rw [pu_n l _ e2]
          by_cases e6 : t = a w
          · have x6 := x3 T
            rw [ns_w hw] at x6
            have e3 : ns c (fun i => if w + 1 ≤ i ∧ (if a i = a w then T else if a i = T then a w else a i) = t then v i else 0) ≤ ns c (fun i => if w + 1 ≤ i ∧ a i = T then v i else 0) := ns_le (fun i hi => ite_mono (fun y => ⟨y.1, by
              have y2 := y.2
              by_cases e5 : a i = a w
              · rw [if_pos e5] at y2
                omega
              · rw [if_neg e5] at y2
                by_cases e7 : a i = T
                · exact e7
                · rw [if_neg e7] at y2
                  omega⟩))
            rw [h0 t (by omega)]
            rw [h0 T (Nat.le_refl _)] at x6
            omega
          · have x6 := x3 t
            rw [ns_w hw, if_neg (Ne.symm e6)] at x6
            have e3 : ns c (fun i => if w + 1 ≤ i ∧ (if a i = a w then T else if a i = T then a w else a i) = t then v i else 0) ≤ ns c (fun i => if w + 1 ≤ i ∧ a i = t then v i else 0) := ns_le (fun i hi => ite_mono (fun y => ⟨y.1, by
              have y2 := y.2
              by_cases e5 : a i = a w
              · rw [if_pos e5] at y2
                omega
              · rw [if_neg e5] at y2
                by_cases e7 : a i = T
                · rw [if_pos e7] at y2
                  omega
                · rw [if_neg e7] at y2
                  exact y2⟩))
            omega
theorem mx_mn {r : Nat} (h : mx c v L 0 0 (fun _ => 0) r) : mn c v L (fun i => decide (i < c)) r := by
  have e : ∀ a t, ld c v (fun i => decide (i < c)) a t = ns c (fun i => if 0 ≤ i ∧ a i = t then v i else 0) := fun a t => ns_c (fun i hi => by
    simp only [decide_eq_true hi, Nat.zero_le, true_and])
  constructor
  · obtain ⟨_, a, x1, x2⟩ := h.1
    refine ⟨a, fun i hi _ => x1 i (Nat.zero_le _) hi, fun t => ?_⟩
    rw [e]
    have := x2 t
    omega
  · rintro k ⟨a, x1, x2⟩
    refine h.2 k ⟨Nat.zero_le _, a, fun i _ hi => x1 i hi (decide_eq_true hi), fun t => ?_⟩
    have := x2 t
    rw [e] at this
    show 0 + _ ≤ L
    omega
end TS
