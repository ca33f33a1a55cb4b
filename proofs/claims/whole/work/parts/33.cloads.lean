/-! ===== the class's loads ===== -/
def vq (V : VV) (e l : Nat) : Nat → Nat × (Nat → Int32)
  | 0 => (0, fun _ => 0)
  | k + 1 => if ow V (ic V e k) = some l then ((vq V e l k).1 + 1, upd (vq V e l k).2 (vq V e l k).1 (V 10 (ic V e k))) else vq V e l k
theorem vq_le {V : VV} {e l : Nat} : ∀ k, (vq V e l k).1 ≤ k := by
  intro k
  induction k with
  | zero => exact Nat.le_refl _
  | succ k ih =>
    simp only [vq]
    split
    · dsimp only; omega
    · omega
/-- only the loads differ -/
def Sq (M M' : MM) : Prop := (∀ t, t ≠ 6 → t ≠ 26 → M' t = M t) ∧ M' 26 1 = M 26 1 ∧ M' 26 2 0 = M 26 2 0
theorem Sq.refl (M : MM) : Sq M M := ⟨fun _ _ _ => rfl, rfl, rfl⟩
theorem Sq.trans {M M' M'' : MM} (h : Sq M M') (k : Sq M' M'') : Sq M M'' := ⟨fun t a b => (k.1 t a b).trans (h.1 t a b), k.2.1.trans h.2.1, k.2.2.trans h.2.2⟩
theorem Sq.fr {M M' : MM} (h : Sq M M') : Fr M M' := ⟨h.1 11 (by decide) (by decide), h.1 27 (by decide) (by decide), h.1 28 (by decide) (by decide)⟩
theorem Sq.cv {V : VV} {M M' : MM} (h : Sq M M') (C : CV V M) : CV V M' := by
  unfold CV at C ⊢
  rw [h.1 7 (by decide) (by decide), h.1 5 (by decide) (by decide), h.1 9 (by decide) (by decide), h.1 3 (by decide) (by decide), h.1 22 (by decide) (by decide), h.1 24 (by decide) (by decide), h.1 10 (by decide) (by decide), h.2.1, h.2.2]
  exact C
theorem Sq.up6 (M : MM) (k : Nat) (v : Int32) : Sq M (up3 M 6 0 k v) := ⟨fun _ a _ => up3_t M v a, by rw [up3_t M v (by decide)], by rw [up3_t M v (by decide)]⟩
theorem Sq.up26 (M : MM) (j k : Nat) (v : Int32) (h1 : j ≠ 1) (h2 : j = 2 → k ≠ 0) : Sq M (up3 M 26 j k v) := by
  refine ⟨fun _ _ b => up3_t M v b, up3_i M v (Ne.symm h1), ?_⟩
  by_cases e : j = 2
  · subst e
    rw [up3_s, upd_n _ _ (Ne.symm (h2 rfl))]
  · rw [up3_i M v (Ne.symm e)]
theorem zx {s t : Nat} (hs : s < 32) (ht : t < 32) : z s ^^^ z t = z (s ^^^ t) := zb_x ⟨s, hs⟩ ⟨t, ht⟩
theorem zp {s t : Nat} (hs : s < 32) (ht : t < 32) (h : 0 < s) : (z s - 1) &&& z t = z ((s - 1) &&& t) := zb_p ⟨s, hs⟩ ⟨t, ht⟩ h
theorem zt {s i : Nat} (hs : s < 32) (hi : i < 5) : ((z s >>> (z i &&& 31)) &&& 1 = 1) = (s.testBit i = true) := zb_t ⟨s, hs⟩ ⟨i, hi⟩
theorem sm_lt {s p : Nat} (hs : s < 32) (hp : p < 32) (h : p &&& s = p) (h0 : 0 < p) : s ^^^ p < s := (sbm_a ⟨s, hs⟩ ⟨p, hp⟩).2.2.1 h h0
theorem sm_dn {s p : Nat} (hs : s < 32) (hp : p < 32) : ((p - 1) &&& s) &&& s = (p - 1) &&& s ∧ (0 < p → (p - 1) &&& s < p) := ⟨(sbm_a ⟨s, hs⟩ ⟨p, hp⟩).1, (sbm_a ⟨s, hs⟩ ⟨p, hp⟩).2.1⟩
theorem sm_mx {s p t : Nat} (hs : s < 32) (hp : p < 32) (ht : t < 32) (h : p &&& s = p) (h2 : t &&& s = t) (h3 : t < p) : t ≤ (p - 1) &&& s := sbm_b ⟨s, hs⟩ ⟨p, hp⟩ ⟨t, ht⟩ h h2 h3
theorem sm_x0 {s p : Nat} (hs : s < 32) (hp : p < 32) (h : p < s) : 0 < s ^^^ p := by
  rcases Nat.eq_zero_or_pos (s ^^^ p) with h1 | h1
  · have : s = p := sbm_h ⟨s, hs⟩ ⟨p, hp⟩ h1
    omega
  · exact h1
theorem z_min {a b : Nat} (ha : a < 2147483648) (hb : b < 2147483648) : (if z a < z b then z a else z b) = z (if a < b then a else b) := by
  by_cases h : a < b
  · rw [if_pos h, if_pos ((z_lt ha hb).2 h)]
  · rw [if_neg h, if_neg (fun h2 => h ((z_lt ha hb).1 h2))]
section CL
variable {A : Nat → Nat → Nat} {V : VV}
theorem R26 {S : St} {M : MM} (R : Rep S A V M) {j k : Nat} {v : Int32} (h : j < 3) : Rep (setI S (A 26 j) k v) A V (up3 M 26 j k v) := Rep_set R (show us V 26 j from h) (fun h => by omega)
theorem R6 {S : St} {M : MM} (R : Rep S A V M) {k : Nat} {v : Int32} : Rep (setI S (A 6 0) k v) A V (up3 M 6 0 k v) := Rep_set R (show us V 6 0 from rfl) (fun h => by omega)
def lim (V : VV) (e l n : Nat) : Prop := ∀ j, j < n → ow V (ic V e j) = some l → V 10 (ic V e j) ≤ V 3 l
theorem l_collect {e l : Nat} {M0 : MM} {f : Int32 → St → Prop} (he : e < nE V) (hl : l < nL V)
    (h1 : lim V e l (cn V e) → ∀ S' M', Rep S' A V M' → Sq M0 M' → M' 6 0 0 = V 3 l → M' 6 0 1 = z (vq V e l (cn V e)).1 → (∀ i, i < (vq V e l (cn V e)).1 → M' 26 0 i = (vq V e l (cn V e)).2 i) → f 1 S')
    (h0 : ¬ lim V e l (cn V e) → ∀ S' M', Rep S' A V M' → Sq M0 M' → f 0 S') : ∀ n k S M, k ≤ cn V e → cn V e < k + n → Rep S A V M → CV V M → Sq M0 M → M 6 0 0 = V 3 l → M 6 0 1 = z (vq V e l k).1 → (∀ i, i < (vq V e l k).1 → M 26 0 i = (vq V e l k).2 i) → lim V e l k → wl_X5_collect_15 f n S (A 6 0) (A 3 e) (A 5 l) (z k) := by
  intro n
  induction n with
  | zero => intro k S M k1 k2; omega
  | succ n ih =>
    intro k S M k1 k2 R C sq m0 m1 mv hn
    have hc5 := bC R he
    have hq := vq_le (V := V) (e := e) (l := l) k
    unfold wl_X5_collect_15
    refine ⟨o3 R he, _, p3_4 R he, o20 R he, s_size20 R he ⟨fun hc => ?_, fun hc => ?_⟩⟩
    · have h3 := z_ex k1 (by omega) hc
      subst h3
      exact h1 hn S M R sq m0 m1 mv
    · have h3 := z_go k1 (by omega) hc
      have hw := bI R he h3
      refine ⟨o3 R he, _, p3_4 R he, o20 R he, s_get20 R he h3 ⟨o9 R hw, s_isFrom R C hw hl (fun a => ?_) (fun a => ?_)⟩⟩
      · refine ⟨fun hc => absurd hc (by decide), fun _ => ⟨o9 R hw, o6 R, ?_⟩⟩
        show ((sI S (A 9 (ic V e k)) 5 ≤ sI S (A 6 0) 0) → _) ∧ (¬ (sI S (A 9 (ic V e k)) 5 ≤ sI S (A 6 0) 0) → _)
        rw [f9_5 R C hw, i6 R, m0, m1]
        refine ⟨fun b => ⟨_, p6_2 R, s_putAt (o26 R (by decide)) (n26_0 R) (by omega) (by decide) ?_⟩, fun b => h0 (fun h => b (h k h3 a)) S M R sq⟩
        have R2 := R26 (k := (vq V e l k).1) (v := V 10 (ic V e k)) R (show 0 < 3 by decide)
        have s2 := Sq.up26 M 0 (vq V e l k).1 (V 10 (ic V e k)) (by decide) (fun h => absurd h (by decide))
        refine ⟨o6 R2, ?_⟩
        have e61 : sI (setI S (A 26 0) (vq V e l k).1 (V 10 (ic V e k))) (A 6 0) 1 = z (vq V e l k).1 := by
          rw [i6 R2, up3_t M _ (by decide), m1]
        show wl_X5_collect_15 f n (setI (setI S (A 26 0) (vq V e l k).1 (V 10 (ic V e k))) (A 6 0) 1 (sI (setI S (A 26 0) (vq V e l k).1 (V 10 (ic V e k))) (A 6 0) 1 + 1)) (A 6 0) (A 3 e) (A 5 l) (z k + 1)
        rw [e61, z_s, z_s]
        have e2 : vq V e l (k + 1) = ((vq V e l k).1 + 1, upd (vq V e l k).2 (vq V e l k).1 (V 10 (ic V e k))) := by
          simp only [vq]
          rw [if_pos a]
        refine ih (k + 1) _ _ (by omega) (by omega) (R6 R2) ((s2.trans (Sq.up6 _ _ _)).cv C) (sq.trans (s2.trans (Sq.up6 _ _ _))) ?_ ?_ (fun i hi => ?_) (fun j hj => ?_)
        · rw [up3_s, upd_n _ _ (by decide), up3_t M _ (by decide)]
          exact m0
        · rw [up3_s, upd_s, e2]
        · rw [e2] at hi ⊢
          rw [up3_t _ _ (by decide), up3_s]
          dsimp only at hi ⊢
          by_cases e3 : i = (vq V e l k).1
          · rw [e3, upd_s, upd_s]
          · rw [upd_n _ _ e3, upd_n _ _ e3]
            exact mv i (by omega)
        · by_cases e3 : j = k
          · rw [e3]; exact fun _ => b
          · exact hn j (by omega)
      · refine ⟨fun _ => ?_, fun hc => absurd rfl hc⟩
        rw [z_s]
        have e2 : vq V e l (k + 1) = vq V e l k := by
          simp only [vq]
          rw [if_neg a]
        refine ih (k + 1) S M (by omega) (by omega) R C sq m0 (by rw [e2]; exact m1) (by rw [e2]; exact mv) (fun j hj => ?_)
        by_cases e3 : j = k
        · rw [e3]; exact fun h => absurd h a
        · exact hn j (by omega)
theorem s_collect {S : St} {M : MM} {e l : Nat} {f : Int32 → St → Prop} (R : Rep S A V M) (C : CV V M) (he : e < nE V) (hl : l < nL V)
    (h1 : lim V e l (cn V e) → ∀ S' M', Rep S' A V M' → Sq M M' → M' 6 0 0 = V 3 l → M' 6 0 1 = z (vq V e l (cn V e)).1 → (∀ i, i < (vq V e l (cn V e)).1 → M' 26 0 i = (vq V e l (cn V e)).2 i) → f 1 S')
    (h0 : ¬ lim V e l (cn V e) → ∀ S' M', Rep S' A V M' → Sq M M' → f 0 S') : w_X5_collect S (A 6 0) (A 3 e) (A 5 l) f := by
  unfold w_X5_collect
  refine ⟨o5 R hl, o6 R, ?_⟩
  rw [f5_1 R C hl]
  have Ra := R6 (k := 0) (v := V 3 l) R
  have Rb := R6 (k := 1) (v := 0) Ra
  have sb := (Sq.up6 M 0 (V 3 l)).trans (Sq.up6 (up3 M 6 0 0 (V 3 l)) 1 0)
  refine ⟨cn V e + 1, l_collect (M0 := M) he hl h1 h0 _ 0 _ _ (Nat.zero_le _) (by omega) Rb (sb.cv C) sb ?_ ?_ (fun i hi => absurd hi (by simp only [vq]; omega)) (fun j hj => absurd hj (by omega))⟩
  · rw [up3_s, upd_n _ _ (by decide), up3_s, upd_s]
  · rw [up3_s, upd_s]
    rfl
/-- the loads as they lie: c works, values v, a trip carries L -/
def LD (c : Nat) (v : Nat → Nat) (L : Nat) (M : MM) : Prop := M 6 0 0 = z L ∧ M 6 0 1 = z c ∧ ∀ i, i < c → M 26 0 i = z (v i)
/-- only the rows of needs or of trips differ -/
def Sn (r : Nat) (M M' : MM) : Prop := (∀ t, t ≠ 26 → M' t = M t) ∧ ∀ j, j ≠ r → M' 26 j = M 26 j
theorem Sn.refl (r : Nat) (M : MM) : Sn r M M := ⟨fun _ _ => rfl, fun _ _ => rfl⟩
theorem Sn.trans {r : Nat} {M M' M'' : MM} (h : Sn r M M') (k : Sn r M' M'') : Sn r M M'' := ⟨fun t a => (k.1 t a).trans (h.1 t a), fun t a => (k.2 t a).trans (h.2 t a)⟩
theorem Sn.up (M : MM) (r k : Nat) (v : Int32) : Sn r M (up3 M 26 r k v) := ⟨fun _ a => up3_t M v a, fun _ a => up3_i M v a⟩
theorem Sn_LD {r c L : Nat} {v : Nat → Nat} {M M' : MM} (h : Sn r M M') (hr : r ≠ 0) (l : LD c v L M) : LD c v L M' := by
  unfold LD at l ⊢
  rw [h.1 6 (by decide), h.2 0 (Ne.symm hr)]
  exact l
theorem ns_bd {n x : Nat} {g : Nat → Nat} (h : ∀ i, i < n → g i ≤ x) : ns n g ≤ n * x := by
  induction n with
  | zero => exact Nat.zero_le _
  | succ n ih =>
    have a := ih (fun i hi => h i (by omega))
    have b := h n (by omega)
    rw [Nat.add_mul, Nat.one_mul]
    show ns n g + g n ≤ n * x + x
    omega
theorem l_valueOf {S : St} {M : MM} (R : Rep S A V M) {c L s : Nat} {v : Nat → Nat} {f : Int32 → St → Prop} (ld : LD c v L M) (hc : c ≤ 5) (hs : s < 32) (hf : f (z (lo c v (tb5 s))) S) : ∀ n k, k ≤ c → c < k + n → wl_X5_valueOf_4 f n S (A 6 0) (z s) (z (ns k (fun i => if tb5 s i = true then v i else 0))) (z k) := by
  intro n
  induction n with
  | zero => intro k k1 k2; omega
  | succ n ih =>
    intro k k1 k2
    unfold wl_X5_valueOf_4
    refine ⟨o6 R, ?_⟩
    rw [i6 R, ld.2.1]
    refine ⟨fun hc => ?_, fun hc => ?_⟩
    · have h3 := z_ex k1 (by omega) hc
      subst h3
      exact hf
    · have h3 := z_go k1 (by omega) hc
      have h4 := ih (k + 1) (by omega) (by omega)
      simp only [ns] at h4
      rw [zt hs (by omega)]
      refine ⟨fun a => ?_, fun a => ⟨_, p6_2 R, s_numberAt (o26 R (by decide)) (n26_0 R) (by omega) (by decide) ?_⟩⟩
      · rw [if_neg (show ¬ tb5 s k = true from a), Nat.add_zero] at h4
        rw [Int32.add_zero, z_s]
        exact h4
      · rw [if_pos (show tb5 s k = true from a)] at h4
        rw [i26 R (by decide), ld.2.2 k h3, z_add, z_s]
        exact h4
theorem s_valueOf {S : St} {M : MM} (R : Rep S A V M) {c L s : Nat} {v : Nat → Nat} {f : Int32 → St → Prop} (ld : LD c v L M) (hc : c ≤ 5) (hs : s < 32) (hf : f (z (lo c v (tb5 s))) S) : w_X5_valueOf S (A 6 0) (z s) f := by
  unfold w_X5_valueOf
  exact ⟨c + 1, l_valueOf R ld hc hs hf _ 0 (Nat.zero_le _) (by omega)⟩
theorem zb_a : ∀ s : Fin 32, ∀ t : Fin 32, z s.val &&& z t.val = z (s.val &&& t.val) := by decide +kernel
theorem za {s t : Nat} (hs : s < 32) (ht : t < 32) : z s &&& z t = z (s &&& t) := zb_a ⟨s, hs⟩ ⟨t, ht⟩
theorem l_needParts {S : St} {M : MM} (R : Rep S A V M) {c L s : Nat} {v nd : Nat → Nat} {f : Int32 → St → Prop} (ld : LD c v L M) (hc : c ≤ 5) (hv : ∀ i, i < c → v i ≤ L) (hs : s < 2 ^ c) (hs0 : 0 < s) (hl : L < lo c v (tb5 s))
    (hn : ∀ t, 0 < t → t < s → M 26 2 t = z (nd t) ∧ nd t ≤ 5 ∧ mn c v L (tb5 t) (nd t)) (hf : ∀ q, q ≤ 5 → mn c v L (tb5 s) q → f (z q) S) : ∀ n p q, s < p + n → 0 < p → p ≤ s → q ≤ 5 → (q = c ∨ ∃ t, t &&& s = t ∧ 0 < t ∧ t < s ∧ q = nd t + nd (s ^^^ t)) → (∀ t, t &&& s = t → 0 < t → t < p → q ≤ nd t + nd (s ^^^ t)) → wl_X5_needOfParts_7 f n S (A 6 0) (z s) (z q) (z p) := by
  have hs32 : s < 32 := Nat.lt_of_lt_of_le hs (Nat.pow_le_pow_right (by decide) hc)
  intro n
  induction n with
  | zero => intro p q k1 k2 k3; omega
  | succ n ih =>
    intro p q k1 k2 k3 k4 k5 k6
    unfold wl_X5_needOfParts_7
    refine ⟨fun a => ?_, fun a => ?_⟩
    · have h3 := z_ex k3 (by omega) a
      exact hf q k4 (mn_parts hc hv hs hs0 hl (fun t b d => (hn t b d).2.2) k5 (fun t b d g => k6 t b d (by omega)))
    · have h3 := z_go k3 (by omega) a
      have hp32 : p < 32 := by omega
      have e1 : p &&& s ≤ p := Nat.and_le_left
      rw [za hp32 hs32, z_eq (by omega) (by omega), z_s]
      refine ⟨fun b => ?_, fun b => ?_⟩
      · refine ih (p + 1) q (by omega) (by omega) (by omega) k4 k5 (fun t c1 c2 c3 => k6 t c1 c2 ?_)
        rcases Nat.lt_or_ge t p with h | h
        · exact h
        · have e2 : t = p := by omega
          rw [e2] at c1
          exact absurd c1 b
      · have x2 : s ^^^ p < s := sm_lt hs32 hp32 b k2
        have x3 : 0 < s ^^^ p := sm_x0 hs32 hp32 h3
        obtain ⟨a1, a2, a3⟩ := hn p k2 h3
        obtain ⟨b1, b2, b3⟩ := hn _ x3 x2
        refine ⟨o6 R, _, p6_4 R, s_numberAt (o26 R (by decide)) (n26_2 R) (by omega) (by decide) ⟨o6 R, _, p6_4 R, ?_⟩⟩
        rw [zx hs32 hp32]
        refine s_numberAt (o26 R (by decide)) (n26_2 R) (by omega) (by decide) ?_
        rw [i26 R (by decide), a1, b1, z_add, z_min (by omega) (by omega)]
        refine ih _ _ (by omega) (by omega) (by omega) (by split <;> omega) ?_ (fun t c1 c2 c3 => ?_)
        · by_cases hx : nd p + nd (s ^^^ p) < q
          · rw [if_pos hx]
            exact Or.inr ⟨p, b, k2, h3, rfl⟩
          · rw [if_neg hx]
            exact k5
        · by_cases h : t = p
          · rw [h]
            split <;> omega
          · have := k6 t c1 c2 (by omega)
            split <;> omega
theorem s_needParts {S : St} {M : MM} (R : Rep S A V M) {c L s : Nat} {v nd : Nat → Nat} {f : Int32 → St → Prop} (ld : LD c v L M) (hc : c ≤ 5) (hv : ∀ i, i < c → v i ≤ L) (hs : s < 2 ^ c) (hs0 : 0 < s) (hl : L < lo c v (tb5 s))
    (hn : ∀ t, 0 < t → t < s → M 26 2 t = z (nd t) ∧ nd t ≤ 5 ∧ mn c v L (tb5 t) (nd t)) (hf : ∀ q, q ≤ 5 → mn c v L (tb5 s) q → f (z q) S) : w_X5_needOfParts S (A 6 0) (z s) f := by
  unfold w_X5_needOfParts
  refine ⟨o6 R, s + 1, ?_⟩
  rw [i6 R, ld.2.1, show (1 : Int32) = z 1 from rfl]
  exact l_needParts R ld hc hv hs hs0 hl hn hf _ 1 c (by omega) (by decide) hs0 hc (Or.inl rfl) (fun t c1 c2 c3 => absurd c3 (by omega))
theorem l_groups {c L : Nat} {v : Nat → Nat} {M0 : MM} {f : Int32 → St → Prop} (hc : c ≤ 5) (hv : ∀ i, i < c → v i ≤ L) (hL : L < 2147483648)
    (hf : ∀ S' M' q, Rep S' A V M' → Sn 2 M0 M' → M' 26 2 0 = M0 26 2 0 → M' 26 2 (2 ^ c - 1) = z q → (0 < c → mn c v L (fun i => decide (i < c)) q) → q ≤ 5 → f (z q) S') (h00 : M0 26 2 0 = 0) (hvb : ∀ i, i < c → v i ≤ 9999) : ∀ n s S M (nd : Nat → Nat), s ≤ 2 ^ c → 0 < s → 2 ^ c < s + n → Rep S A V M → Sn 2 M0 M → M 26 2 0 = M0 26 2 0 → LD c v L M → (∀ t, 0 < t → t < s → M 26 2 t = z (nd t) ∧ nd t ≤ 5 ∧ mn c v L (tb5 t) (nd t)) → wl_X5_leastByGroups_9 f n S (A 6 0) (z (2 ^ c)) (z s) := by
  have h32 : 2 ^ c ≤ 32 := Nat.pow_le_pow_right (by decide) hc
  intro n
  induction n with
  | zero => intro s S M nd k1 k2 k3; omega
  | succ n ih =>
    intro s S M nd k1 k2 k3 R sn m0 ld hn
    unfold wl_X5_leastByGroups_9
    refine ⟨fun a => ?_, fun a => ?_⟩
    · have h3 := z_ex k1 (by omega) a
      subst h3
      refine ⟨o6 R, _, p6_4 R, ?_⟩
      rw [show (1 : Int32) = z 1 from rfl, z_sub (by omega)]
      refine s_numberAt (o26 R (by decide)) (n26_2 R) (by omega) (by decide) ?_
      rw [i26 R (by decide)]
      rcases Nat.eq_zero_or_pos c with h | h
      · subst h
        show f (M 26 2 0) S
        rw [m0, h00]
        refine hf S M 0 R sn m0 ?_ (fun h => absurd h (by decide)) (by decide)
        show M 26 2 0 = z 0
        rw [m0, h00]
        rfl
      · have h1 : 2 ≤ 2 ^ c := Nat.le_trans (show 2 ≤ 2 ^ 1 by decide) (Nat.pow_le_pow_right (by decide) h)
        obtain ⟨a1, a2, a3⟩ := hn (2 ^ c - 1) (by omega) (by omega)
        rw [a1]
        refine hf S M _ R sn m0 a1 (fun _ => mn_congr (fun i hi => ?_) a3) a2
        exact sbm_g ⟨c, by omega⟩ ⟨i, by omega⟩
    · have h3 := z_go k1 (by omega) a
      have next : ∀ q, q ≤ 5 → mn c v L (tb5 s) q → wl_X5_leastByGroups_9 f n (setI S (A 26 2) s (z q)) (A 6 0) (z (2 ^ c)) (z (s + 1)) := fun q hq5 hq => by
        refine ih (s + 1) _ _ (pu nd s q) (by omega) (by omega) (by omega) (R26 R (by decide)) (sn.trans (Sn.up M 2 s _)) ?_ (Sn_LD (Sn.up M 2 s _) (by decide) ld) (fun t t0 t1 => ?_)
        · rw [up3_s, upd_n _ _ (by omega)]
          exact m0
        · rw [up3_s]
          by_cases e : t = s
          · rw [e, upd_s, pu_s]
            exact ⟨rfl, hq5, hq⟩
          · rw [upd_n _ _ e, pu_n nd _ e]
            exact hn t t0 (by omega)
      refine ⟨o6 R, _, p6_4 R, s_valueOf R ld hc (by omega) ⟨o6 R, ?_⟩⟩
      have hlo : lo c v (tb5 s) ≤ c * 9999 := ns_bd (fun i hi => by
        split
        · exact hvb i hi
        · exact Nat.zero_le _)
      have hlo2 : lo c v (tb5 s) ≤ 49995 := Nat.le_trans hlo (by omega)
      rw [i6 R, ld.1, z_lt hL (by omega)]
      refine ⟨fun b => s_needParts R ld hc hv h3 k2 b hn (fun q hq5 hq => ?_), fun b => ?_⟩
      · refine s_putAt (o26 R (by decide)) (n26_2 R) (by omega) (by decide) ?_
        rw [z_s]
        exact next q hq5 hq
      · refine s_putAt (o26 R (by decide)) (n26_2 R) (by omega) (by decide) ?_
        rw [z_s]
        exact next 1 (by decide) (mn_small hc h3 k2 (by omega))
theorem s_groups {S : St} {M : MM} {c L : Nat} {v : Nat → Nat} {f : Int32 → St → Prop} (R : Rep S A V M) (hc : c ≤ 5) (hv : ∀ i, i < c → v i ≤ L) (hL : L < 2147483648) (hvb : ∀ i, i < c → v i ≤ 9999) (ld : LD c v L M) (h00 : M 26 2 0 = 0)
    (hf : ∀ S' M' q, Rep S' A V M' → Sn 2 M M' → M' 26 2 0 = M 26 2 0 → mn c v L (fun i => decide (i < c)) q → q ≤ 5 → f (z q) S') : w_X5_leastByGroups S (A 6 0) f := by
  have h32 : 2 ^ c ≤ 32 := Nat.pow_le_pow_right (by decide) hc
  have h1 : 1 ≤ 2 ^ c := Nat.pow_pos (by decide)
  unfold w_X5_leastByGroups
  refine ⟨o6 R, 2 ^ c + 1, ?_⟩
  rw [i6 R, ld.2.1, zb_s ⟨c, by omega⟩]
  refine l_groups (M0 := M) hc hv hL (fun S' M' q R' sn m0 e1 e2 e3 => ?_) h00 hvb _ 1 S M (fun _ => 0) h1 (by decide) (by omega) R (Sn.refl 2 M) rfl ld (fun t t0 t1 => absurd t0 (by omega))
  rcases Nat.eq_zero_or_pos c with h | h
  · subst h
    have e4 : q = 0 := by
      have e5 : M' 26 2 0 = z q := e1
      rw [m0, h00, show (0 : Int32) = z 0 from rfl, z_eq (by decide) (by omega)] at e5
      exact e5.symm
    refine hf S' M' q R' sn m0 ?_ e3
    rw [e4]
    exact ⟨⟨fun _ => 0, fun i hi => by omega, fun t => Nat.zero_le _⟩, fun k _ => Nat.zero_le _⟩
  · exact hf S' M' q R' sn m0 (e2 h) e3
/-- trying -/
theorem s_putFrom {c L : Nat} {v : Nat → Nat} (hc : c ≤ 5) (hv : ∀ i, i < c → v i ≤ L) (hL : L < 1000000) : ∀ n w T S M (l : Nat → Nat) (f : Int32 → St → Prop), w ≤ c → c < w + n → T ≤ w → Rep S A V M → LD c v L M → (∀ t, t < 5 → M 26 1 t = z (l t)) → (∀ t, l t ≤ L) → (∀ t, T ≤ t → l t = 0) →
    (∀ S' M' r, Rep S' A V M' → Sn 1 M M' → M' 26 1 = M 26 1 → mx c v L w T l r → r ≤ 5 → f (z r) S') → w_X5_putFrom n S (A 6 0) (z w) (z T) f := by
  intro n
  induction n with
  | zero => intro w T S M l f k1 k2; omega
  | succ n ih =>
    intro w T S M l f k1 k2 k3 R ld hm hl h0 hf
    unfold w_X5_putFrom
    refine ⟨o6 R, ?_⟩
    rw [i6 R, ld.2.1]
    refine ⟨fun hc' => ?_, fun hc' => ⟨fun _ => ?_, fun hc2 => ?_⟩⟩
    · have h3 := z_ex k1 (by omega) hc'
      subst h3
      exact hf S M T R (Sn.refl 1 M) rfl (mx_end hl) (by omega)
    · have hw := z_go k1 (by omega) hc'
      refine ⟨_, p6_2 R, s_numberAt (o26 R (by decide)) (n26_0 R) (by omega) (by decide) ?_⟩
      rw [i26 R (by decide), ld.2.2 w hw]
      have hvw := hv w hw
      suffices hs : ∀ m t q S' M' (Q : Nat → Nat), t ≤ T + 1 → T + 1 < t + m → Rep S' A V M' → Sn 1 M M' → M' 26 1 = M 26 1 → q ≤ 5 → (q = 5 ∨ ∃ u, u < t ∧ u ≤ T ∧ l u + v w ≤ L ∧ q = Q u) →
          (∀ u, u < t → u ≤ T → l u + v w ≤ L → q ≤ Q u ∧ mx c v L (w + 1) (if T < u + 1 then u + 1 else T) (pu l u (l u + v w)) (Q u)) → wl_X5_putFrom_30 f (w_X5_putFrom n) m S' (A 6 0) (z w) (z T) (z q) (z (v w)) (z t) from
        ⟨T + 3, hs _ 0 5 S M (fun _ => 0) (Nat.zero_le _) (by omega) R (Sn.refl 1 M) rfl (by decide) (Or.inl rfl) (fun u hu => absurd hu (by omega))⟩
      intro m
      induction m with
      | zero => intro t q S' M' Q k4 k5; omega
      | succ m ihm =>
        intro t q S' M' Q k4 k5 R' sn m1 hq5 hq1 hq2
        unfold wl_X5_putFrom_30
        rw [z_lt (by omega) (by omega), show (5 : Int32) = z 5 from rfl, z_le (by decide) (by omega)]
        have fin : T < t → f (z q) S' := fun a => hf S' M' q R' sn m1 (mx_step (Q := Q) hc hv hw k3 hl h0 (fun u b d => (hq2 u (by omega) b d).2) (by
          rcases hq1 with h | ⟨u, _, b, d, g⟩
          · exact Or.inl h
          · exact Or.inr ⟨u, b, d, g⟩) (fun u b d => (hq2 u (by omega) b d).1)) hq5
        refine ⟨fun a => fin a, fun a => ⟨fun b => by omega, fun b => ?_⟩⟩
        have ld' := Sn_LD sn (by decide) ld
        refine ⟨o6 R', _, p6_3 R', s_numberAt (o26 R' (by decide)) (n26_1 R') (by omega) (by decide) ⟨o6 R', ?_⟩⟩
        have hlt := hl t
        rw [i26 R' (by decide), m1, hm t (by omega), z_add, i6 R', ld'.1, z_lt (by omega) (by omega), z_s]
        refine ⟨fun d => ?_, fun d => ⟨_, p6_3 R', s_putAt (o26 R' (by decide)) (n26_1 R') (by omega) (by decide) ?_⟩⟩
        · refine ihm (t + 1) q S' M' Q (by omega) (by omega) R' sn m1 hq5 ?_ (fun u u1 u2 u3 => ?_)
          · rcases hq1 with h | ⟨u, x0, x1, x2, x3⟩
            · exact Or.inl h
            · exact Or.inr ⟨u, by omega, x1, x2, x3⟩
          · by_cases e : u = t
            · subst e
              omega
            · exact hq2 u (by omega) u2 u3
        · have R2 := R26 (k := t) (v := z (l t + v w)) R' (show 1 < 3 by decide)
          have e1 : (if z T < z (t + 1) then z (t + 1) else z T) = z (if T < t + 1 then t + 1 else T) := by
            by_cases g : T < t + 1
            · rw [if_pos ((z_lt (by omega) (by omega)).2 g), if_pos g]
            · rw [if_neg (fun h => g ((z_lt (by omega) (by omega)).1 h)), if_neg g]
          rw [z_s, e1]
          refine ih (w + 1) (if T < t + 1 then t + 1 else T) _ _ (pu l t (l t + v w)) _ (by omega) (by omega) (by split <;> omega) R2 (Sn_LD (Sn.up M' 1 t _) (by decide) ld') (fun u hu => ?_) (fun u => ?_) (fun u hu => ?_) (fun S3 M3 r R3 s3 m3 hr hr5 => ?_)
          · rw [up3_s]
            by_cases g : u = t
            · rw [g, upd_s, pu_s]
            · rw [upd_n _ _ g, pu_n l _ g, m1]
              exact hm u hu
          · by_cases g : u = t
            · rw [g, pu_s]
              omega
            · rw [pu_n l _ g]
              exact hl u
          · have g : u ≠ t ∧ T ≤ u := by
              split at hu <;> omega
            rw [pu_n l _ g.1]
            exact h0 u g.2
          · refine ⟨o6 R3, _, p6_3 R3, s_putAt (o26 R3 (by decide)) (n26_1 R3) (by omega) (by decide) ?_⟩
            have R4 := R26 (k := t) (v := z (l t)) R3 (show 1 < 3 by decide)
            have s4 := sn.trans ((Sn.up M' 1 t (z (l t + v w))).trans (s3.trans (Sn.up M3 1 t (z (l t)))))
            have m4 : up3 M3 26 1 t (z (l t)) 26 1 = M 26 1 := by
              rw [up3_s, m3, up3_s, m1]
              funext u
              by_cases g : u = t
              · rw [g, upd_s, hm t (by omega)]
              · rw [upd_n _ _ g, upd_n _ _ g]
            rw [z_min (by omega) (by omega)]
            refine ihm (t + 1) (if r < q then r else q) _ _ (pu Q t r) (by omega) (by omega) R4 s4 m4 (by split <;> omega) ?_ (fun u u1 u2 u3 => ?_)
            · by_cases g : r < q
              · rw [if_pos g]
                exact Or.inr ⟨t, by omega, by omega, by omega, (pu_s Q t r).symm⟩
              · rw [if_neg g]
                rcases hq1 with h | ⟨u, x0, x1, x2, x3⟩
                · exact Or.inl h
                · exact Or.inr ⟨u, by omega, x1, x2, by rw [pu_n Q _ (by omega)]; exact x3⟩
            · by_cases g : u = t
              · rw [g, pu_s]
                exact ⟨by split <;> omega, hr⟩
              · rw [pu_n Q _ g]
                have := hq2 u (by omega) u2 u3
                exact ⟨by split <;> omega, this.2⟩
    · have hw := z_go k1 (by omega) hc'
      rw [show (5 : Int32) = z 5 from rfl, z_lt (by omega) (by decide)] at hc2
      omega
theorem s_trying {S : St} {M : MM} {c L : Nat} {v : Nat → Nat} {f : Int32 → St → Prop} (R : Rep S A V M) (hc : c ≤ 5) (hv : ∀ i, i < c → v i ≤ L) (hL : L < 1000000) (ld : LD c v L M) (h0 : ∀ i, i < 5 → M 26 1 i = 0)
    (hf : ∀ S' M' q, Rep S' A V M' → Sn 1 M M' → M' 26 1 = M 26 1 → mn c v L (fun i => decide (i < c)) q → q ≤ 5 → f (z q) S') : w_X5_leastByTrying S (A 6 0) f := by
  unfold w_X5_leastByTrying
  exact s_putFrom hc hv hL 7 0 0 S M (fun _ => 0) _ (Nat.zero_le _) (by omega) (Nat.le_refl _) R ld (fun t ht => h0 t ht) (fun _ => Nat.zero_le _) (fun _ _ => rfl) (fun S' M' r R' sn m1 hr hr5 => hf S' M' r R' sn m1 (mx_mn hr) hr5)
end CL
