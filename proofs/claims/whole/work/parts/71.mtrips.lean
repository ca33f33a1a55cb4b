/-! ===== the reference's trips ===== -/
section MR
variable {A : Nat → Nat → Nat} {V U : VV} {G : (Nat → Nat → Int64) × (Nat → Nat → UInt64)}
/-- only the rows of loads and of least numbers differ -/
def Tl (M M' : MM) : Prop := (∀ t, t ≠ 27 → M' t = M t) ∧ ∀ j, j ≠ 21 → j ≠ 22 → M' 27 j = M 27 j
theorem Tl.refl (M : MM) : Tl M M := ⟨fun _ _ => rfl, fun _ _ _ => rfl⟩
theorem Tl.trans {M M' M'' : MM} (h : Tl M M') (k : Tl M' M'') : Tl M M'' := ⟨fun t a => (k.1 t a).trans (h.1 t a), fun t a b => (k.2 t a b).trans (h.2 t a b)⟩
theorem Tl.up (M : MM) {j : Nat} (k : Nat) (v : Int32) (h : j = 21 ∨ j = 22) : Tl M (up3 M 27 j k v) := ⟨fun _ a => up3_t M v a, fun _ a b => up3_i M v (by omega)⟩
theorem Tl.mv {V : VV} {M M' : MM} (h : Tl M M') (m : MV V M) : MV V M' := ⟨fun k hk i hi => by rw [h.2 k (by omega) (by omega)]; exact m.1 k hk i hi, fun k h1 h2 => by rw [h.1 11 (by decide)]; exact m.2 k h1 h2⟩
theorem Tl.lf {M M' : MM} (h : Tl M M') : Lf M M' := ⟨fun t _ b => h.1 t b, by rw [h.1 11 (by decide)]⟩
theorem tq21 {S : St} {M : MM} (R : Rep S A U M) {i : Nat} (hi : i < 5) : sI S (A 27 21) (Int32.toNatClampNeg (z i)) = M 27 21 i := by rw [z_c (by omega), i27 R (by decide)]
theorem tq22 {S : St} {M : MM} (R : Rep S A U M) {i : Nat} (hi : i < 32) : sI S (A 27 22) (Int32.toNatClampNeg (z i)) = M 27 22 i := by rw [z_c (by omega), i27 R (by decide)]
theorem own_iff (J : I3 V) {w l : Nat} (hw : w < nW V) (hl : l < nL V) (hL : nL V ≤ 4) : V 11 w = z l ↔ ow V w = some l := by
  rcases J w hw with ⟨a, b⟩ | ⟨l', c, a, b⟩
  · rw [a, b]
    exact ⟨fun h => absurd h.symm (z_nm (by omega)), fun h => by cases h⟩
  · rw [a, b, z_eq (by omega) (by omega)]
    exact ⟨fun h => by rw [h], fun h => by cases h; rfl⟩
theorem l_lay (I : I1 V) (J : I2 V) (P : I3 V) {e l : Nat} {M0 : MM} {f : Int32 → St → Prop} (he : e < nE V) (hl : l < nL V) (m0 : MV V M0)
    (hf : ∀ S' M', Rq G S' A U M' → Tl M0 M' → (∀ i, i < (vq V e l (cn V e)).1 → M' 27 21 i = (vq V e l (cn V e)).2 i) → f (z (vq V e l (cn V e)).1) S') : ∀ n k S M, k ≤ cn V e → cn V e < k + n → Rq G S A U M → Tl M0 M → (∀ i, i < (vq V e l k).1 → M 27 21 i = (vq V e l k).2 i) → wl_X10_layLoads_5 f n S (A 11 0) (z e) (z l) (z (vq V e l k).1) (z k) := by
  have II := I
  obtain ⟨_, _, _, _, b1, b2, b3, b4⟩ := I
  obtain ⟨j1, j2, j3⟩ := J e he
  intro n
  induction n with
  | zero => intro k S M k1 k2; omega
  | succ n ih =>
    intro k S M k1 k2 R tl hv
    have m := tl.mv m0
    have hq := vq_le (V := V) (e := e) (l := l) k
    unfold wl_X10_layLoads_5
    refine ⟨o11 R.1, _, p11_17 R.1, o27 R.1 (by decide), v27 R.1 (by decide) (show e < 8 by omega) (by omega), ?_⟩
    rw [r27 R.1 m (k := 17) (by decide) (show e < 8 by omega) (by omega), j1]
    refine ⟨fun hc => ?_, fun hc => ?_⟩
    · have h3 := z_ex k1 (by omega) hc
      subst h3
      exact hf S M R tl hv
    · have h3 := z_go k1 (by omega) hc
      obtain ⟨y1, y2, _⟩ := j3 k h3
      rw [show (5 : Int32) = z 5 from rfl, z_mul, z_add]
      refine ⟨_, p11_11 R.1, _, p11_18 R.1, o27 R.1 (by decide), v27 R.1 (by decide) (show 5 * e + k < 40 by omega) (by omega), o27 R.1 (by decide), ?_⟩
      rw [r27 R.1 m (k := 18) (by decide) (show 5 * e + k < 40 by omega) (by omega), y1]
      refine ⟨v27 R.1 (by decide) (show ic V e k < 12 by omega) (by omega), ?_⟩
      rw [r27 R.1 m (k := 11) (by decide) (show ic V e k < 12 by omega) (by omega), own_iff P y2 hl b2]
      refine ⟨fun a => ⟨_, p11_21 R.1, _, p11_10 R.1, o27 R.1 (by decide), v27 R.1 (by decide) (show ic V e k < 12 by omega) (by omega), o27 R.1 (by decide), v27 R.1 (by decide) (show (vq V e l k).1 < 5 by omega) (by omega), ?_⟩, fun a => ?_⟩
      · rw [r27 R.1 m (k := 10) (by decide) (show ic V e k < 12 by omega) (by omega), z_c (show (vq V e l k).1 < 2147483648 by omega), z_s, z_s]
        have ev : vq V e l (k + 1) = ((vq V e l k).1 + 1, upd (vq V e l k).2 (vq V e l k).1 (V 10 (ic V e k))) := by
          simp only [vq]
          rw [if_pos a]
        have h6 := ih (k + 1) _ _ (by omega) (by omega) (R27 (j := 21) (k := (vq V e l k).1) (v := V 10 (ic V e k)) R (by decide)) (tl.trans (Tl.up _ _ _ (Or.inl rfl))) (fun i hi => ?_)
        · rw [ev] at h6
          exact h6
        · rw [ev] at hi ⊢
          dsimp only at hi ⊢
          rw [up3_s]
          by_cases h : i = (vq V e l k).1
          · rw [h, upd_s, upd_s]
          · rw [upd_n _ _ h, upd_n _ _ h]
            exact hv i (by omega)
      · have ev : vq V e l (k + 1) = vq V e l k := by
          simp only [vq]
          rw [if_neg a]
        have h6 := ih (k + 1) S M (by omega) (by omega) R tl (by rw [ev]; exact hv)
        rw [ev] at h6
        rw [z_s]
        exact h6
theorem t_layL (I : I1 V) (J : I2 V) (P : I3 V) {e l : Nat} {S : St} {M : MM} {f : Int32 → St → Prop} (he : e < nE V) (hl : l < nL V) (R : Rq G S A U M) (m : MV V M)
    (hf : ∀ S' M', Rq G S' A U M' → Tl M M' → (∀ i, i < (vq V e l (cn V e)).1 → M' 27 21 i = (vq V e l (cn V e)).2 i) → f (z (vq V e l (cn V e)).1) S') : w_X10_layLoads S (A 11 0) (z e) (z l) f := by
  unfold w_X10_layLoads
  exact ⟨cn V e + 1, l_lay I J P he hl m hf _ 0 S M (Nat.zero_le _) (by omega) R (Tl.refl M) (fun i hi => absurd hi (by simp only [vq]; omega))⟩
theorem l_load {S : St} {M : MM} (R : Rep S A U M) {c s : Nat} {v : Nat → Nat} {f : Int32 → St → Prop} (hc : c ≤ 5) (hs : s < 2 ^ c) (hv : ∀ i, i < c → M 27 21 i = z (v i)) (hf : f (z (lo c v (tb5 s))) S) : ∀ n k, k ≤ 5 → 5 < k + n → wl_X10_loadOf_4 f n S (A 11 0) (z s) (z (ns (min k c) (fun i => if tb5 s i = true then v i else 0))) (z k) := by
  have hs32 : s < 32 := Nat.lt_of_lt_of_le hs (Nat.pow_le_pow_right (by decide) hc)
  intro n
  induction n with
  | zero => intro k h1 h2; omega
  | succ n ih =>
    intro k k1 k2
    unfold wl_X10_loadOf_4
    refine ⟨fun hx => ?_, fun hx => ?_⟩
    · have h3 : k = 5 := z_ex (n := 5) k1 (by decide) hx
      rw [h3, Nat.min_eq_right hc]
      exact hf
    · have h3 : k < 5 := z_go (n := 5) k1 (by decide) hx
      have h4 := ih (k + 1) (by omega) (by omega)
      rw [zt hs32 h3, Int32.add_zero, z_s]
      refine ⟨fun a => ?_, fun a => ?_⟩
      · by_cases h : k < c
        · rw [Nat.min_eq_left (show k + 1 ≤ c by omega)] at h4
          rw [Nat.min_eq_left (show k ≤ c by omega)]
          simp only [ns] at h4
          have e : tb5 s k = s.testBit k := rfl
          rw [e, if_neg a, Nat.add_zero] at h4
          exact h4
        · rw [Nat.min_eq_right (show c ≤ k + 1 by omega)] at h4
          rw [Nat.min_eq_right (show c ≤ k by omega)]
          exact h4
      · have h : k < c := sbm_f ⟨c, by omega⟩ ⟨s, hs32⟩ hs ⟨k, h3⟩ a
        refine ⟨o11 R, _, p11_21 R, o27 R (by decide), v27 R (by decide) (show k < 5 by omega) (by omega), ?_⟩
        rw [tq21 R h3, hv k h, z_add]
        rw [Nat.min_eq_left (show k + 1 ≤ c by omega)] at h4
        rw [Nat.min_eq_left (show k ≤ c by omega)]
        simp only [ns] at h4
        have e : tb5 s k = s.testBit k := rfl
        rw [e, if_pos a] at h4
        exact h4
theorem t_load {S : St} {M : MM} (R : Rep S A U M) {c s : Nat} {v : Nat → Nat} {f : Int32 → St → Prop} (hc : c ≤ 5) (hs : s < 2 ^ c) (hv : ∀ i, i < c → M 27 21 i = z (v i)) (hf : f (z (lo c v (tb5 s))) S) : w_X10_loadOf S (A 11 0) (z s) f := by
  unfold w_X10_loadOf
  have h := l_load (f := f) R hc hs hv hf 6 0 (by decide) (by decide)
  rw [Nat.min_eq_left (Nat.zero_le c)] at h
  exact ⟨6, h⟩
/-- one set: each trip of it in turn -/
theorem l_least2 {c L s : Nat} {v nd : Nat → Nat} {M0 : MM} {f : Int32 → St → Prop} {k9 : St → Nat → Int32 → Int32 → Int32 → Prop} (hc : c ≤ 5) (hv : ∀ i, i < c → v i ≤ L) (hL : L ≤ 9999) (hvb : ∀ i, i < c → v i ≤ 999) (hs : s < 2 ^ c) (hs0 : 0 < s) (hn : ∀ t, t < s → mn c v L (tb5 t) (nd t)) (hnb : ∀ t, t < s → nd t ≤ 5)
    (hf : ∀ S' M' q, Rq G S' A U M' → Tl M0 M' → (∀ i, i < c → M' 27 21 i = z (v i)) → (∀ t, t < s → M' 27 22 t = z (nd t)) → M' 27 22 s = z q → q ≤ 5 → mn c v L (tb5 s) q → k9 S' (A 11 0) (z c) (z L) (z (s + 1))) :
    ∀ n p S M q, p ≤ s → p &&& s = p → p < n → Rq G S A U M → Tl M0 M → (∀ i, i < c → M 27 21 i = z (v i)) → (∀ t, t < s → M 27 22 t = z (nd t)) → M 27 22 s = z q → q ≤ 5 →
      (q = 5 ∨ ∃ t, t &&& s = t ∧ 0 < t ∧ lo c v (tb5 t) ≤ L ∧ q = nd (s ^^^ t) + 1) → (∀ t, t &&& s = t → 0 < t → p < t → lo c v (tb5 t) ≤ L → q ≤ nd (s ^^^ t) + 1) → wl_X10_leastTrips_26 f k9 n S (A 11 0) (z c) (z L) (z s) (z p) := by
  have hs32 : s < 32 := Nat.lt_of_lt_of_le hs (Nat.pow_le_pow_right (by decide) hc)
  intro n
  induction n with
  | zero => intro p S M q k1 k2 k3; omega
  | succ n ih =>
    intro p S M q k1 k2 k3 R tl hV hN hq hq5 h1 h2
    unfold wl_X10_leastTrips_26
    refine ⟨fun hx => ?_, fun hx => ?_⟩
    · have hp : p = 0 := by
        have := (z_le (a := p) (b := 0) (by omega) (by decide)).1 hx
        omega
      rw [z_s]
      exact hf S M q R tl hV hN hq hq5 (mn_masks hc hv hs hs0 hn h1 (fun t a b d => h2 t a b (by omega) d))
    · have hp : 0 < p := Nat.pos_of_ne_zero (fun h => hx (by rw [h]; decide))
      obtain ⟨d1, d2⟩ := sm_dn (s := s) (p := p) hs32 (by omega)
      have d3 := d2 hp
      have x1 := sm_lt hs32 (show p < 32 by omega) k2 hp
      have lb : lo c v (tb5 p) ≤ 5 * 999 := Nat.le_trans (ns_bd (x := 999) (fun i hi => by split; exact hvb i hi; omega)) (by omega)
      have ps : p < 2 ^ c := by omega
      have nx : ∀ S' M' q', Rq G S' A U M' → Tl M0 M' → (∀ i, i < c → M' 27 21 i = z (v i)) → (∀ t, t < s → M' 27 22 t = z (nd t)) → M' 27 22 s = z q' → q' ≤ 5 → (q' = 5 ∨ ∃ t, t &&& s = t ∧ 0 < t ∧ lo c v (tb5 t) ≤ L ∧ q' = nd (s ^^^ t) + 1) → (∀ t, t &&& s = t → 0 < t → p ≤ t → lo c v (tb5 t) ≤ L → q' ≤ nd (s ^^^ t) + 1) → wl_X10_leastTrips_26 f k9 n S' (A 11 0) (z c) (z L) (z s) ((z p - 1) &&& z s) := fun S' M' q' R' tl' hV' hN' hq' hq5' a b => by
        rw [zp (by omega) hs32 hp]
        refine ih ((p - 1) &&& s) S' M' q' (by omega) d1 (by omega) R' tl' hV' hN' hq' hq5' a (fun t e1 e2 e3 e4 => ?_)
        refine b t e1 e2 (Nat.not_lt.1 (fun hlt => ?_)) e4
        have := sm_mx hs32 (show p < 32 by omega) (show t < 32 by omega) k2 e1 hlt
        omega
      refine ⟨o11 R.1, t_load R.1 hc ps hV ?_⟩
      rw [z_lt (by omega) (by omega)]
      refine ⟨fun a => nx S M q R tl hV hN hq hq5 h1 (fun t e1 e2 e3 e4 => ?_), fun a => ⟨o11 R.1, _, p11_22 R.1, o27 R.1 (by decide), ?_⟩⟩
      · by_cases h : t = p
        · rw [h] at e4
          omega
        · exact h2 t e1 e2 (by omega) e4
      · rw [zx hs32 (show p < 32 by omega)]
        refine ⟨v27 R.1 (by decide) (show s ^^^ p < 32 by omega) (by omega), v27 R.1 (by decide) (show s < 32 by omega) (by omega), ?_⟩
        have nb := hnb _ x1
        rw [tq22 R.1 hs32, tq22 R.1 (show s ^^^ p < 32 by omega), hq, hN _ x1, z_s, z_le (by omega) (by omega)]
        refine ⟨fun b => nx S M q R tl hV hN hq hq5 h1 (fun t e1 e2 e3 e4 => ?_), fun b => ?_⟩
        · by_cases h : t = p
          · rw [h]; exact b
          · exact h2 t e1 e2 (by omega) e4
        · dsimp only
          rw [z_c (show s < 2147483648 by omega)]
          refine nx _ _ (nd (s ^^^ p) + 1) (R27 (j := 22) (k := s) (v := z (nd (s ^^^ p) + 1)) R (by decide)) (tl.trans (Tl.up _ _ _ (Or.inr rfl))) (fun i hi => ?_) (fun t ht => ?_) ?_ (by omega) (Or.inr ⟨p, k2, hp, by omega, rfl⟩) (fun t e1 e2 e3 e4 => ?_)
          · rw [up3_i _ _ (by decide)]
            exact hV i hi
          · rw [up3_s, upd_n _ _ (by omega)]
            exact hN t ht
          · rw [up3_s, upd_s]
          · by_cases h : t = p
            · rw [h]; exact Nat.le_refl _
            · exact Nat.le_trans (by omega) (h2 t e1 e2 (by omega) e4)
theorem mn_0 {c L : Nat} {v : Nat → Nat} : mn c v L (tb5 0) 0 := by
  refine ⟨⟨fun _ => 0, fun i hi hb => ?_, fun t => ?_⟩, fun k _ => Nat.zero_le k⟩
  · unfold tb5 at hb
    rw [Nat.zero_testBit] at hb
    cases hb
  · unfold ld
    rw [ns_0 (fun i hi => ?_)]
    · exact Nat.zero_le _
    · rw [if_neg]
      rintro ⟨h, _⟩
      unfold tb5 at h
      rw [Nat.zero_testBit] at h
      cases h
theorem l_least {c L : Nat} {v : Nat → Nat} {M0 : MM} {f : Int32 → St → Prop} (hc : c ≤ 5) (hv : ∀ i, i < c → v i ≤ L) (hL : L ≤ 9999) (hvb : ∀ i, i < c → v i ≤ 999)
    (hf : ∀ S' M' q, Rq G S' A U M' → Tl M0 M' → mn c v L (tb5 (2 ^ c - 1)) q → q ≤ 5 → f (z q) S') :
    ∀ n s S M (nd : Nat → Nat), 0 < s → s ≤ 2 ^ c → 2 ^ c < s + n → Rq G S A U M → Tl M0 M → (∀ i, i < c → M 27 21 i = z (v i)) → (∀ t, t < s → M 27 22 t = z (nd t)) → (∀ t, t < s → mn c v L (tb5 t) (nd t)) → (∀ t, t < s → nd t ≤ 5) → wl_X10_leastTrips_9 f n S (A 11 0) (z c) (z L) (z s) := by
  have hc32 : 2 ^ c ≤ 32 := Nat.pow_le_pow_right (n := 2) (by decide) hc
  have h2c : 0 < 2 ^ c := Nat.pow_pos (by decide)
  have e1c : (1 : Int32) <<< (z c &&& 31) = z (2 ^ c) := zb_s ⟨c, by omega⟩
  intro n
  induction n with
  | zero => intro s S M nd k0 k1 k2; omega
  | succ n ih =>
    intro s S M nd k0 k1 k2 R tl hV hN hn hnb
    unfold wl_X10_leastTrips_9
    rw [e1c]
    refine ⟨fun hx => ⟨o11 R.1, _, p11_22 R.1, o27 R.1 (by decide), ?_⟩, fun hx => ⟨o11 R.1, _, p11_22 R.1, o27 R.1 (by decide), ?_⟩⟩
    · have h3 := z_ex k1 (by omega) hx
      have e2 : z (2 ^ c) - 1 = z (2 ^ c - 1) := by
        have := z_pred (2 ^ c - 1)
        rw [show 2 ^ c - 1 + 1 = 2 ^ c by omega] at this
        exact this
      rw [e2]
      refine ⟨v27 R.1 (by decide) (show 2 ^ c - 1 < 32 by omega) (by omega), ?_⟩
      rw [tq22 R.1 (show 2 ^ c - 1 < 32 by omega), hN _ (by omega)]
      exact hf S M _ R tl (hn _ (by omega)) (hnb _ (by omega))
    · have h3 := z_go k1 (by omega) hx
      have hs32 : s < 32 := by omega
      refine ⟨v27 R.1 (by decide) (show s < 32 by omega) (by omega), s + 1, ?_⟩
      rw [z_c (show s < 2147483648 by omega)]
      refine l_least2 (nd := nd) (M0 := M0) hc hv hL hvb h3 k0 hn hnb (fun S' M' q R' tl' hV' hN' hq hq5 hm => ?_) (s + 1) s _ _ 5 (Nat.le_refl _) (sbm_i ⟨s, hs32⟩) (by omega) (R27 (j := 22) (k := s) (v := z 5) R (by decide)) (tl.trans (Tl.up _ _ _ (Or.inr rfl))) (fun i hi => ?_) (fun t ht => ?_) ?_ (by omega) (Or.inl rfl) (fun t e1 e2 e3 e4 => ?_)
      · refine ih (s + 1) S' M' (fun t => if t = s then q else nd t) (by omega) (by omega) (by omega) R' tl' hV' (fun t ht => ?_) (fun t ht => ?_) (fun t ht => ?_)
        · by_cases h : t = s
          · rw [if_pos h, h]; exact hq
          · rw [if_neg h]; exact hN' t (by omega)
        · by_cases h : t = s
          · rw [if_pos h, h]; exact hm
          · rw [if_neg h]; exact hn t (by omega)
        · by_cases h : t = s
          · rw [if_pos h]; exact hq5
          · rw [if_neg h]; exact hnb t (by omega)
      · rw [up3_i _ _ (by decide)]
        exact hV i hi
      · rw [up3_s, upd_n _ _ (by omega)]
        exact hN t ht
      · rw [up3_s, upd_s]
      · have : t ≤ s := by rw [← e1]; exact Nat.and_le_right
        omega
theorem t_least {c L : Nat} {v : Nat → Nat} {S : St} {M : MM} {f : Int32 → St → Prop} (R : Rq G S A U M) (hc : c ≤ 5) (hv : ∀ i, i < c → v i ≤ L) (hL : L ≤ 9999) (hvb : ∀ i, i < c → v i ≤ 999) (hV : ∀ i, i < c → M 27 21 i = z (v i))
    (hf : ∀ S' M' q, Rq G S' A U M' → Tl M M' → mn c v L (fun i => decide (i < c)) q → q ≤ 5 → f (z q) S') : w_X10_leastTrips S (A 11 0) (z c) (z L) f := by
  have h2c : 0 < 2 ^ c := Nat.pow_pos (by decide)
  unfold w_X10_leastTrips
  refine ⟨o11 R.1, _, p11_22 R.1, o27 R.1 (by decide), v27 R.1 (i := 0) (by decide) (by decide) (by decide), 2 ^ c, ?_⟩
  refine l_least (M0 := M) hc hv hL hvb (fun S' M' q R' tl' hm hq5 => ?_) (2 ^ c) 1 _ _ (fun _ => 0) (by decide) (by omega) (by omega) (R27 (j := 22) (k := 0) (v := 0) R (by decide)) (Tl.up _ _ _ (Or.inr rfl)) (fun i hi => ?_) (fun t ht => ?_) (fun t ht => ?_) (fun t ht => Nat.zero_le _)
  · refine hf S' M' q R' tl' (mn_congr (fun i hi => ?_) hm) hq5
    exact sbm_g ⟨c, by omega⟩ ⟨i, by omega⟩
  · rw [up3_i _ _ (by decide)]
    exact hV i hi
  · rw [show t = 0 by omega, up3_s, upd_s]
    rfl
  · rw [show t = 0 by omega]
    exact mn_0
end MR
