/-! ===== plans as numbers ===== -/
def nm (m : Nat) (q : Nat → Nat) : Nat → Nat
  | 0 => 0
  | k + 1 => nm m q k * m + q k
theorem nm_lt {m : Nat} {q : Nat → Nat} : ∀ k, (∀ j, j < k → q j < m) → nm m q k < m ^ k := by
  intro k
  induction k with
  | zero => intro _; exact Nat.one_pos
  | succ k ih =>
    intro h
    have a := ih (fun j hj => h j (by omega))
    have b := h k (by omega)
    have c : (nm m q k + 1) * m ≤ m ^ k * m := Nat.mul_le_mul_right m a
    rw [Nat.add_mul, Nat.one_mul] at c
    rw [Nat.pow_succ]
    show nm m q k * m + q k < m ^ k * m
    omega
theorem nm_dg {m c n : Nat} (hm : 0 < m) (hn : n < m ^ c) : ∀ k, k ≤ c → nm m (fun i => n / m ^ (c - 1 - i) % m) k = n / m ^ (c - k) := by
  intro k
  induction k with
  | zero =>
    intro _
    rw [Nat.sub_zero, Nat.div_eq_of_lt hn]
    rfl
  | succ k ih =>
    intro hk
    show nm m _ k * m + n / m ^ (c - 1 - k) % m = n / m ^ (c - (k + 1))
    rw [ih (by omega), show c - k = (c - 1 - k) + 1 by omega, show c - (k + 1) = c - 1 - k by omega, Nat.pow_succ, ← Nat.div_div_eq_div_mul, Nat.mul_comm]
    exact Nat.div_add_mod _ _
theorem nm_pre {m : Nat} {q : Nat → Nat} {k : Nat} : ∀ d, (∀ j, j < k + d → q j < m) → nm m q (k + d) / m ^ d = nm m q k := by
  intro d
  induction d with
  | zero => intro _; rw [Nat.pow_zero, Nat.div_one]; rfl
  | succ d ih =>
    intro h
    have b := h (k + d) (by omega)
    rw [Nat.pow_succ, Nat.mul_comm (m ^ d) m, ← Nat.div_div_eq_div_mul]
    show (nm m q (k + d) * m + q (k + d)) / m / m ^ d = nm m q k
    rw [show (nm m q (k + d) * m + q (k + d)) / m = nm m q (k + d) from by
      rw [Nat.mul_comm, Nat.mul_add_div (by omega), Nat.div_eq_of_lt b, Nat.add_zero]]
    exact ih (fun j hj => h j (by omega))
theorem nm_inj {m : Nat} {p q : Nat → Nat} : ∀ k, (∀ j, j < k → p j < m) → (∀ j, j < k → q j < m) → nm m p k = nm m q k → ∀ j, j < k → p j = q j := by
  intro k
  induction k with
  | zero => intro _ _ _ j hj; omega
  | succ k ih =>
    intro hp hq he j hj
    have a := hp k (by omega)
    have b := hq k (by omega)
    have he' : nm m p k * m + p k = nm m q k * m + q k := he
    have e1 : (nm m p k * m + p k) / m = nm m p k := by rw [Nat.mul_comm, Nat.mul_add_div (by omega), Nat.div_eq_of_lt a, Nat.add_zero]
    have e2 : (nm m q k * m + q k) / m = nm m q k := by rw [Nat.mul_comm, Nat.mul_add_div (by omega), Nat.div_eq_of_lt b, Nat.add_zero]
    have e3 : nm m p k = nm m q k := by rw [← e1, he', e2]
    by_cases e4 : j = k
    · rw [e4]
      rw [e3] at he'
      omega
    · exact ih (fun j hj => hp j (by omega)) (fun j hj => hq j (by omega)) e3 j (by omega)
theorem nm_lex {m i : Nat} {p q : Nat → Nat} (ha : ∀ j, j < i → q j = p j) (hl : q i < p i) : ∀ d, (∀ j, j < i + 1 + d → q j < m) → nm m q (i + 1 + d) < nm m p (i + 1 + d) := by
  have e : ∀ k, k ≤ i → nm m q k = nm m p k := by
    intro k
    induction k with
    | zero => intro _; rfl
    | succ k ih =>
      intro hk
      show nm m q k * m + q k = nm m p k * m + p k
      rw [ih (by omega), ha k (by omega)]
  intro d
  induction d with
  | zero =>
    intro _
    show nm m q i * m + q i < nm m p i * m + p i
    rw [e i (Nat.le_refl _)]
    omega
  | succ d ih =>
    intro h
    have a := ih (fun j hj => h j (by omega))
    have b := h (i + 1 + d) (by omega)
    have c : (nm m q (i + 1 + d) + 1) * m ≤ nm m p (i + 1 + d) * m := Nat.mul_le_mul_right m a
    rw [Nat.add_mul, Nat.one_mul] at c
    show nm m q (i + 1 + d) * m + q (i + 1 + d) < nm m p (i + 1 + d) * m + p (i + 1 + d)
    omega
/-! ===== counting through all plans ===== -/
theorem z_div {a b : Nat} (ha : a < 2147483648) (hb : b < 2147483648) : z a / z b = z (a / b) := (Int32.ofNat_div (by omega) (by omega)).symm
theorem z_mod {a b : Nat} (ha : a < 2147483648) (hb : b < 2147483648) : z a - z a / z b * z b = z (a % b) := by
  have h := Nat.div_mul_le_self a b
  rw [z_div ha hb, z_mul, z_sub h]
  congr 1
  have h2 := Nat.div_add_mod a b
  rw [Nat.mul_comm] at h2
  omega
theorem z_dec (j : Nat) : z (j + 1) + (-1) = z j := by
  rw [← z_s, Int32.add_assoc, show (1 : Int32) + (-1) = 0 from by decide, Int32.add_zero]
theorem z_pred (j : Nat) : z (j + 1) - 1 = z j := by
  rw [show (1 : Int32) = z 1 from rfl, z_sub (by omega)]
  rfl
theorem pow_le {m k : Nat} (hm : m ≤ 8) (hk : k ≤ 5) : m ^ k ≤ 32768 := Nat.le_trans (Nat.pow_le_pow_left hm k) (Nat.le_trans (Nat.pow_le_pow_right (by decide) hk) (by decide))
section CP
theorem l_power {S : St} {b x : Nat} {f : Int32 → St → Prop} (hb : b ≤ 8) (hx : x ≤ 5) (hf : f (z (b ^ x)) S) : ∀ n k, k ≤ x → x < k + n → wl_X0_power_4 f n S (z b) (z x) (z (b ^ k)) (z k) := by
  intro n
  induction n with
  | zero => intro k k1 k2; omega
  | succ n ih =>
    intro k k1 k2
    unfold wl_X0_power_4
    refine ⟨fun hc => ?_, fun hc => ?_⟩
    · have h3 := z_ex k1 (by omega) hc
      subst h3
      exact hf
    · have h3 := z_go k1 (by omega) hc
      rw [z_s, z_mul, ← Nat.pow_succ]
      exact ih (k + 1) (by omega) (by omega)
theorem s_power {S : St} {b x : Nat} {f : Int32 → St → Prop} (hb : b ≤ 8) (hx : x ≤ 5) (hf : f (z (b ^ x)) S) : w_X0_power S (z b) (z x) f := by
  unfold w_X0_power
  exact ⟨x + 1, l_power hb hx hf _ 0 (Nat.zero_le _) (by omega)⟩
variable {A : Nat → Nat → Nat} {V : VV}
theorem l_choose {e a : Nat} {M0 : MM} {f : St → Prop} (he : e < nE V) (hR4 : nR V ≤ 4) (hR0 : 0 < nR V) (ha : a < 2147483648)
    (hf : ∀ S' M', Rep S' A V M' → Sz 2 M0 M' → (∀ j, j < cn V e → M' 25 2 j = z (a / (2 * nR V) ^ (cn V e - 1 - j) % (2 * nR V))) → f S') : ∀ n i S M x3, i ≤ cn V e → i < n → Rep S A V M → Sz 2 M0 M → bdA V e M → x3 = z i - 1 → (∀ j, i ≤ j → j < cn V e → M 25 2 j = z (a / (2 * nR V) ^ (cn V e - 1 - j) % (2 * nR V))) → wl_X0_chooseAsIn_9 f n S (A 1 0) (z (a / (2 * nR V) ^ (cn V e - i))) x3 := by
  intro n
  induction n with
  | zero => intro i S M x3 k1 k2; omega
  | succ n ih =>
    intro i S M x3 k1 k2 R sz bA hx hn
    have hc5 := bC R he
    subst hx
    unfold wl_X0_chooseAsIn_9
    cases i with
    | zero => exact ⟨fun _ => hf S M R sz (fun j hj => hn j (Nat.zero_le _) hj), fun hc => absurd (by decide) hc⟩
    | succ i =>
      rw [z_pred]
      have hd : a / (2 * nR V) ^ (cn V e - (i + 1)) < 2147483648 := Nat.lt_of_le_of_lt (Nat.div_le_self _ _) ha
      refine ⟨fun hc => absurd hc (z_neg (by omega)), fun _ => ⟨o1 R, ?_⟩⟩
      rw [i1 R, bA.2.1, show (0 : Int32) = z 0 from rfl, z_le (by omega) (by decide), z_eq (by omega) (by decide)]
      refine ⟨fun hc => absurd hc (by omega), fun _ => ⟨_, p1_4 R, by omega, ?_⟩⟩
      rw [z_mod hd (by omega)]
      refine s_putAt (o25 R (by decide)) (n25_2 R) (by omega) (by decide) ?_
      have R2 := R25 (k := i) (v := z (a / (2 * nR V) ^ (cn V e - (i + 1)) % (2 * nR V))) R (show 2 < 5 by decide)
      have s2 := sz.trans (Sz.up M 2 i (z (a / (2 * nR V) ^ (cn V e - (i + 1)) % (2 * nR V))))
      have bA2 := Sz_bdA (Sz.up M 2 i (z (a / (2 * nR V) ^ (cn V e - (i + 1)) % (2 * nR V)))) (by decide) bA
      refine ⟨o1 R2, ?_⟩
      rw [i1 R2, bA2.2.1, z_eq (by omega) (by decide), z_div hd (by omega), Nat.div_div_eq_div_mul, ← Nat.pow_succ, show (cn V e - (i + 1)).succ = cn V e - i by omega]
      refine ⟨by omega, ih i _ _ _ (by omega) (by omega) R2 s2 bA2 ?_ (fun j h1 h2 => ?_)⟩
      · rw [Int32.sub_eq_add_neg]
      · rw [up3_s]
        by_cases e1 : j = i
        · rw [e1, upd_s, show cn V e - 1 - i = cn V e - (i + 1) by omega]
        · rw [upd_n _ _ e1]
          exact hn j (by omega) h2
theorem s_choose {S : St} {M : MM} {e a : Nat} {f : St → Prop} (R : Rep S A V M) (he : e < nE V) (hR4 : nR V ≤ 4) (hR0 : 0 < nR V) (ha : a < 2147483648) (bA : bdA V e M)
    (hf : ∀ S' M', Rep S' A V M' → Sz 2 M M' → (∀ j, j < cn V e → M' 25 2 j = z (a / (2 * nR V) ^ (cn V e - 1 - j) % (2 * nR V))) → f S') : w_X0_chooseAsIn S (A 1 0) (z a) f := by
  unfold w_X0_chooseAsIn
  refine ⟨o1 R, cn V e + 1, ?_⟩
  have h := l_choose (M0 := M) he hR4 hR0 ha hf (cn V e + 1) (cn V e) S M (z (cn V e) - 1) (Nat.le_refl _) (by omega) R (Sz.refl 2 M) bA rfl (fun j h1 h2 => absurd h2 (by omega))
  rw [Nat.sub_self, Nat.pow_zero, Nat.div_one] at h
  rw [i1 R, bA.1]
  exact h
theorem l_misfit {S : St} {M : MM} (R : Rep S A V M) {e : Nat} {p : Nat → Nat} {f : Int32 → St → Prop} (he : e < nE V) (K : KO V) (bA : bdA V e M) (bw : bdW V e (cn V e) M) (hR4 : nR V ≤ 4) (hp : ∀ j, j < cn V e → M 25 2 j = z (p j) ∧ p j < 2 * nR V)
    (h1 : (∀ i, i < cn V e → okp V e p i) → f (z (cn V e)) S) (h0 : ∀ i, i < cn V e → ¬ okp V e p i → f (z i) S) : ∀ n k, k ≤ cn V e → cn V e < k + n → (∀ j, j < k → okp V e p j) → wl_X0_worksBeforeTheFirstMisfit_2 f n S (A 1 0) (z k) := by
  have hc5 := bC R he
  intro n
  induction n with
  | zero => intro k k1 k2; omega
  | succ n ih =>
    intro k k1 k2 hn
    unfold wl_X0_worksBeforeTheFirstMisfit_2
    refine ⟨o1 R, ?_⟩
    rw [i1 R, bA.1]
    refine ⟨fun hc => ?_, fun hc => ?_⟩
    · have h3 := z_ex k1 (by omega) hc
      subst h3
      exact h1 hn
    · have h3 := z_go k1 (by omega) hc
      refine s_fits R he h3 K bA bw hR4 (fun j hj => hp j (by omega)) (fun a => ?_) (fun a => ?_)
      · refine ⟨fun _ => ?_, fun hc => absurd hc (by decide)⟩
        rw [z_s]
        refine ih (k + 1) (by omega) (by omega) (fun j hj => ?_)
        by_cases e1 : j = k
        · rw [e1]; exact a
        · exact hn j (by omega)
      · exact ⟨fun hc => absurd rfl hc, fun _ => h0 k h3 a⟩
theorem l_searchAll {e : Nat} {M0 : MM} {f : Int32 → St → Prop} (he : e < nE V) (K : KO V) (hR4 : nR V ≤ 4)
    (h1 : ∀ S' M' p, Rep S' A V M' → Sz 2 M0 M' → Fi (okp V e) (cn V e) (2 * nR V) p → (∀ j, j < cn V e → M' 25 2 j = z (p j)) → f 1 S')
    (h0 : ∀ S' M', Rep S' A V M' → Sz 2 M0 M' → (∀ p, ¬ Va (okp V e) (cn V e) (2 * nR V) p) → f 0 S') : ∀ n a S M, (2 * nR V) ^ cn V e < a + n → Rep S A V M → Sz 2 M0 M → bdA V e M → bdW V e (cn V e) M → 0 < cn V e → (∀ q, Va (okp V e) (cn V e) (2 * nR V) q → a ≤ nm (2 * nR V) q (cn V e)) → a ≤ (2 * nR V) ^ cn V e → wl_X0_searchAllWalls_14 f n S (A 1 0) (z ((2 * nR V) ^ cn V e)) (z a) := by
  intro n
  induction n with
  | zero =>
    intro a S M k2 R sz bA bw hc0 hq ha
    omega
  | succ n ih =>
    intro a S M k2 R sz bA bw hc0 hq ha
    have hc5 := bC R he
    have hpw := pow_le (show 2 * nR V ≤ 8 by omega) hc5
    unfold wl_X0_searchAllWalls_14
    refine ⟨fun hc => ?_, fun hc => ?_⟩
    · rw [z_le (by omega) (by omega)] at hc
      refine h0 S M R sz (fun p hp => ?_)
      have b1 := hq p hp
      have b2 := nm_lt (cn V e) (fun j hj => (hp j hj).1)
      omega
    · rw [z_le (by omega) (by omega)] at hc
      have hR0 : 0 < nR V := by
        rcases Nat.eq_zero_or_pos (nR V) with h | h
        · rw [h, Nat.mul_zero, Nat.zero_pow hc0] at hc
          omega
        · exact h
      have han : a < (2 * nR V) ^ cn V e := by omega
      refine ⟨o1 R, s_choose R he hR4 hR0 (by omega) bA (fun S' M' R' s' c' => ?_)⟩
      have s2 := sz.trans s'
      have bA2 := Sz_bdA s' (by decide) bA
      have bw2 := Sz_bdW s' bw
      have hdl : ∀ j, a / (2 * nR V) ^ (cn V e - 1 - j) % (2 * nR V) < 2 * nR V := fun j => Nat.mod_lt _ (by omega)
      have hnm := nm_dg (c := cn V e) (show 0 < 2 * nR V by omega) han
      refine ⟨o1 R', ?_⟩
      unfold w_X0_worksBeforeTheFirstMisfit
      refine ⟨cn V e + 1, l_misfit (p := fun i => a / (2 * nR V) ^ (cn V e - 1 - i) % (2 * nR V)) R' he K bA2 bw2 hR4 (fun j hj => ⟨c' j hj, hdl j⟩) (fun hall => ?_) (fun i hi hbad => ?_) _ 0 (Nat.zero_le _) (by omega) (fun j hj => absurd hj (by omega))⟩
      · refine ⟨o1 R', ?_⟩
        rw [i1 R', bA2.1, z_lt (by omega) (by omega)]
        refine ⟨fun hc => absurd hc (by omega), fun _ => ?_⟩
        refine h1 S' M' (fun i => a / (2 * nR V) ^ (cn V e - 1 - i) % (2 * nR V)) R' s2 ⟨fun i hi => ⟨hdl i, hall i hi⟩, fun q hv i hi hag => ?_⟩ c'
        refine Nat.le_of_not_lt (fun hlt => ?_)
        have b1 := nm_lex (m := 2 * nR V) hag hlt (cn V e - (i + 1)) (fun j hj => (hv j (by omega)).1)
        rw [show i + 1 + (cn V e - (i + 1)) = cn V e by omega, hnm (cn V e) (Nat.le_refl _), Nat.sub_self, Nat.pow_zero, Nat.div_one] at b1
        have b2 := hq q hv
        omega
      · refine ⟨o1 R', ?_⟩
        rw [i1 R', bA2.1, bA2.2.1, z_lt (by omega) (by omega)]
        refine ⟨fun _ => ?_, fun hc => absurd hi hc⟩
        rw [show (1 : Int32) = z 1 from rfl, z_sub (by omega), z_sub (by omega)]
        refine s_power (by omega) (by omega) ?_
        have hal : 0 < (2 * nR V) ^ (cn V e - 1 - i) := Nat.pow_pos (by omega)
        have hal2 := pow_le (show 2 * nR V ≤ 8 by omega) (show cn V e - 1 - i ≤ 5 by omega)
        have hmx : (if z 1 < z ((2 * nR V) ^ (cn V e - 1 - i)) then z ((2 * nR V) ^ (cn V e - 1 - i)) else z 1) = z ((2 * nR V) ^ (cn V e - 1 - i)) := by
          split
          · rfl
          · next h =>
            rw [z_lt (by decide) (by omega)] at h
            rw [show (2 * nR V) ^ (cn V e - 1 - i) = 1 by omega]
        show (¬ (if z 1 < z ((2 * nR V) ^ (cn V e - 1 - i)) then z ((2 * nR V) ^ (cn V e - 1 - i)) else z 1) = z 0) ∧ wl_X0_searchAllWalls_14 f n S' (A 1 0) (z ((2 * nR V) ^ cn V e)) (z a + ((if z 1 < z ((2 * nR V) ^ (cn V e - 1 - i)) then z ((2 * nR V) ^ (cn V e - 1 - i)) else z 1) - (z a - z a / (if z 1 < z ((2 * nR V) ^ (cn V e - 1 - i)) then z ((2 * nR V) ^ (cn V e - 1 - i)) else z 1) * (if z 1 < z ((2 * nR V) ^ (cn V e - 1 - i)) then z ((2 * nR V) ^ (cn V e - 1 - i)) else z 1))))
        rw [hmx, z_eq (by omega) (by decide), z_mod (by omega) (by omega)]
        have hml := Nat.mod_lt a hal
        have hdm := Nat.div_add_mod a ((2 * nR V) ^ (cn V e - 1 - i))
        rw [z_sub (by omega), z_add]
        have hpc : (2 * nR V) ^ cn V e = (2 * nR V) ^ (i + 1) * (2 * nR V) ^ (cn V e - 1 - i) := by
          rw [← Nat.pow_add]
          congr 1
          omega
        have hda : a / (2 * nR V) ^ (cn V e - 1 - i) < (2 * nR V) ^ (i + 1) := (Nat.div_lt_iff_lt_mul hal).2 (by rw [← hpc]; exact han)
        have hle : (a / (2 * nR V) ^ (cn V e - 1 - i) + 1) * (2 * nR V) ^ (cn V e - 1 - i) ≤ (2 * nR V) ^ (i + 1) * (2 * nR V) ^ (cn V e - 1 - i) := Nat.mul_le_mul_right _ hda
        rw [← hpc, Nat.add_mul, Nat.one_mul, Nat.mul_comm (a / (2 * nR V) ^ (cn V e - 1 - i))] at hle
        refine ⟨by omega, ih _ S' M' (by omega) R' s2 bA2 bw2 hc0 (fun q hv => ?_) (by omega)⟩
        have b1 := hq q hv
        have b2 := nm_pre (m := 2 * nR V) (q := q) (k := i + 1) (cn V e - (i + 1)) (fun j hj => (hv j (by omega)).1)
        rw [show i + 1 + (cn V e - (i + 1)) = cn V e by omega, show cn V e - (i + 1) = cn V e - 1 - i by omega] at b2
        have b3 := hnm (i + 1) (by omega)
        rw [show cn V e - (i + 1) = cn V e - 1 - i by omega] at b3
        refine Nat.le_of_not_lt (fun hlt => ?_)
        have b4 : nm (2 * nR V) q (cn V e) / (2 * nR V) ^ (cn V e - 1 - i) = a / (2 * nR V) ^ (cn V e - 1 - i) := by
          refine Nat.le_antisymm ?_ (Nat.div_le_div_right b1)
          refine Nat.le_of_lt_succ ((Nat.div_lt_iff_lt_mul hal).2 ?_)
          rw [Nat.succ_mul (a / (2 * nR V) ^ (cn V e - 1 - i)), Nat.mul_comm (a / (2 * nR V) ^ (cn V e - 1 - i))]
          omega
        have b5 := nm_inj (i + 1) (fun j hj => (hv j (by omega)).1) (fun j hj => hdl j) (by rw [b3, ← b4, b2])
        exact hbad (okp_lo V e q _ i (fun j hj => b5 j (by omega)) (hv i hi).2)
theorem s_searchAll {S : St} {M : MM} {e : Nat} {f : Int32 → St → Prop} (R : Rep S A V M) (he : e < nE V) (K : KO V) (hR4 : nR V ≤ 4) (bA : bdA V e M) (bw : bdW V e (cn V e) M) (hc0 : 0 < cn V e)
    (h1 : ∀ S' M' p, Rep S' A V M' → Sz 2 M M' → Fi (okp V e) (cn V e) (2 * nR V) p → (∀ j, j < cn V e → M' 25 2 j = z (p j)) → f 1 S')
    (h0 : ∀ S' M', Rep S' A V M' → Sz 2 M M' → (∀ p, ¬ Va (okp V e) (cn V e) (2 * nR V) p) → f 0 S') : w_X0_searchAllWalls S (A 1 0) f := by
  have hc5 := bC R he
  unfold w_X0_searchAllWalls
  refine ⟨o1 R, ?_⟩
  rw [i1 R, bA.1, bA.2.1]
  refine s_power (by omega) hc5 ⟨(2 * nR V) ^ cn V e + 2, ?_⟩
  exact l_searchAll (M0 := M) he K hR4 h1 h0 _ 0 S M (by omega) R (Sz.refl 2 M) bA bw hc0 (fun _ _ => Nat.zero_le _) (Nat.zero_le _)
end CP
