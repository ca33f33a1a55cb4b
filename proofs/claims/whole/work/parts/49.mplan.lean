/-! ===== the reference's plan ===== -/
section MP
variable {A : Nat → Nat → Nat} {V U : VV}
def tri (p : Nat → Nat) (i c : Nat) (M : MM) : Prop := ∀ j, j < i → M 27 20 j = z (p j) ∧ p j < c
theorem tq20 {S : St} {M : MM} (R : Rep S A U M) {i : Nat} (hi : i < 5) : sI S (A 27 20) (Int32.toNatClampNeg (z i)) = M 27 20 i := by
  rw [z_c (by omega), i27 R (by decide)]
theorem l_short2 {S : St} {M : MM} (R : Rep S A U M) (m : MV V M) (I : I1 V) (J : I2 V) (Q : I4 V) {e w F L' : Nat} {o : Int32} {f : Int32 → St → Prop} (he : e < nE V) (hw : w < 2 * nR V) (eF : V 13 e = z F) (eL : V 14 e = z L') (hF : F ≤ 99) (hL : L' ≤ 99)
    (h1 : (∃ d, V 13 e ≤ d ∧ d ≤ V 14 e ∧ ¬ (tkb V (z w) d e + o ≤ V 2 w)) → f 1 S) (h0 : (∀ d, V 13 e ≤ d → d ≤ V 14 e → tkb V (z w) d e + o ≤ V 2 w) → f 0 S) : ∀ n D, F ≤ D → D ≤ 100 → 100 < D + n → (∀ D', F ≤ D' → D' < D → tkb V (z w) (z D') e + o ≤ V 2 w) → wl_X10_isTooShort_76 f n S (A 11 0) (z e) (z w) o (z D) := by
  have II := I
  obtain ⟨_, _, _, _, b1, b2, b3, b4⟩ := I
  intro n
  induction n with
  | zero => intro D h1 h2 h3; omega
  | succ n ih =>
    intro D k1 k2 k3 hn
    unfold wl_X10_isTooShort_76
    refine ⟨o11 R, _, p11_14 R, o27 R (by decide), v27 R (by decide) (show e < 8 by omega) (by omega), ?_⟩
    rw [r27 R m (k := 14) (by decide) (show e < 8 by omega) (by omega), eL, z_lt (by omega) (by omega)]
    refine ⟨fun a => h0 (fun d x y => ?_), fun a => ?_⟩
    · rw [eF] at x
      rw [eL] at y
      obtain ⟨y1, y2, y3⟩ := inr_nat (a := F) (b := L') (x := d) (by omega) ⟨x, y⟩ (by
        have := Int32.le_trans x y
        rw [z_le (by omega) (by omega)] at this
        exact this)
      rw [y1]
      exact hn _ y2 (by omega)
    · refine t_taken R m II J (b := e) (fun g hg => z_eq (by omega) (by omega)) ⟨o11 R, _, p11_2 R, o27 R (by decide), v27 R (by decide) (show w < 8 by omega) (by omega), ?_⟩
      rw [r27 R m (k := 2) (by decide) (show w < 8 by omega) (by omega), z_s]
      refine ⟨fun b => ih (D + 1) (by omega) (by omega) (by omega) (fun D' x y => ?_), fun b => h1 ⟨z D, ?_, ?_, b⟩⟩
      · by_cases h : D' = D
        · rw [h]; exact b
        · exact hn D' x (by omega)
      · rw [eF, z_le (by omega) (by omega)]
        exact k1
      · rw [eL, z_le (by omega) (by omega)]
        omega
theorem l_short {S : St} {M : MM} (R : Rep S A U M) (m : MV V M) (I : I1 V) (J : I2 V) (Q : I4 V) {e i : Nat} {p : Nat → Nat} {f : Int32 → St → Prop} (he : e < nE V) (hi : i < cn V e) (hp : tri p (i + 1) (2 * nR V) M)
    (h1 : (∃ d, V 13 e ≤ d ∧ d ≤ V 14 e ∧ ¬ (tkb V (z (p i)) d e + own V e i p ≤ V 2 (p i))) → f 1 S) (h0 : (∀ d, V 13 e ≤ d → d ≤ V 14 e → tkb V (z (p i)) d e + own V e i p ≤ V 2 (p i)) → f 0 S) : ∀ n k, k ≤ i + 1 → i + 1 < k + n → wl_X10_isTooShort_13 f n S (A 11 0) (z e) (z i) (z (p i)) (su k (fun k => if p k = p i then spc V e k else 0)) (z k) := by
  have II := I
  obtain ⟨_, _, _, _, b1, b2, b3, b4⟩ := I
  obtain ⟨j1, j2, j3⟩ := J e he
  obtain ⟨x1, x2, x3⟩ := inr_nat (a := 0) (b := 99) (by decide) (Q.2.2.2.2 e he).1 (by decide)
  obtain ⟨y1, y2, y3⟩ := inr_nat (a := 0) (b := 99) (by decide) (Q.2.2.2.2 e he).2.1 (by decide)
  have hpi := (hp i (by omega)).2
  intro n
  induction n with
  | zero => intro k h1 h2; omega
  | succ n ih =>
    intro k k1 k2
    unfold wl_X10_isTooShort_13
    rw [z_lt (by omega) (by omega)]
    refine ⟨fun a => ?_, fun a => ?_⟩
    · have hk : k = i + 1 := by omega
      subst hk
      refine ⟨o11 R, _, p11_13 R, o27 R (by decide), v27 R (by decide) (show e < 8 by omega) (by omega), 101, ?_⟩
      rw [r27 R m (k := 13) (by decide) (show e < 8 by omega) (by omega), x1]
      exact l_short2 R m II J Q he hpi x1 y1 x3 y3 h1 h0 _ _ (Nat.le_refl _) (by omega) (by omega) (fun D' a b => absurd a (by omega))
    · have h4 := ih (k + 1) (by omega) (by omega)
      simp only [su] at h4
      have hpk := hp k (by omega)
      refine ⟨o11 R, _, p11_20 R, o27 R (by decide), v27 R (by decide) (show k < 5 by omega) (by omega), ?_⟩
      rw [tq20 R (by omega), hpk.1, z_eq (by omega) (by omega), z_s]
      refine ⟨fun b => ?_, fun b => ?_⟩
      · rw [if_neg b] at h4
        exact h4
      · rw [if_pos b] at h4
        obtain ⟨z1, z2, _⟩ := j3 k (by omega)
        rw [show (5 : Int32) = z 5 from rfl, z_mul, z_add]
        refine ⟨_, p11_6 R, _, p11_18 R, o27 R (by decide), v27 R (by decide) (show 5 * e + k < 40 by omega) (by omega), o27 R (by decide), ?_⟩
        rw [r27 R m (k := 18) (by decide) (show 5 * e + k < 40 by omega) (by omega), z1]
        refine ⟨v27 R (by decide) (show ic V e k < 12 by omega) (by omega), _, p11_15 R, o27 R (by decide), v27 R (by decide) (show e < 8 by omega) (by omega), ?_⟩
        rw [r27 R m (k := 6) (by decide) (show ic V e k < 12 by omega) (by omega), r27 R m (k := 15) (by decide) (show e < 8 by omega) (by omega)]
        exact h4
theorem t_short {S : St} {M : MM} (R : Rep S A U M) (m : MV V M) (I : I1 V) (J : I2 V) (Q : I4 V) {e i : Nat} {p : Nat → Nat} {f : Int32 → St → Prop} (he : e < nE V) (hi : i < cn V e) (hp : tri p (i + 1) (2 * nR V) M)
    (h1 : (∃ d, V 13 e ≤ d ∧ d ≤ V 14 e ∧ ¬ (tkb V (z (p i)) d e + own V e i p ≤ V 2 (p i))) → f 1 S) (h0 : (∀ d, V 13 e ≤ d → d ≤ V 14 e → tkb V (z (p i)) d e + own V e i p ≤ V 2 (p i)) → f 0 S) : w_X10_isTooShort S (A 11 0) (z e) (z i) f := by
  have hc := (J e he).2.1
  unfold w_X10_isTooShort
  refine ⟨o11 R, _, p11_20 R, o27 R (by decide), v27 R (by decide) (show i < 5 by omega) (by omega), i + 2, ?_⟩
  rw [tq20 R (by omega), (hp i (by omega)).1]
  exact l_short R m I J Q he hi hp h1 h0 _ 0 (Nat.zero_le _) (by omega)
theorem l_hangs {S : St} {M : MM} (R : Rep S A U M) (m : MV V M) (I : I1 V) (J : I2 V) {e i w x : Nat} {p : Nat → Nat} {f : Int32 → St → Prop} (he : e < nE V) (hi : i < cn V e) (hw : w < nW V) (hp : tri p (i + 1) (2 * nR V) M)
    (h1 : (∀ k, k < i → br (kq V w (ic V e k)) (z x) (z (p k)) = false) → f 1 S) (h0 : (¬ ∀ k, k < i → br (kq V w (ic V e k)) (z x) (z (p k)) = false) → f 0 S) : ∀ n k, k ≤ i → i < k + n → (∀ j, j < k → br (kq V w (ic V e j)) (z x) (z (p j)) = false) → wl_X10_hangs_56 f n S (A 11 0) (z e) (z i) (z w) (z x) (z k) := by
  obtain ⟨_, _, _, _, b1, b2, b3, b4⟩ := I
  obtain ⟨j1, j2, j3⟩ := J e he
  intro n
  induction n with
  | zero => intro k h1 h2; omega
  | succ n ih =>
    intro k k1 k2 hn
    unfold wl_X10_hangs_56
    refine ⟨fun hc => ?_, fun hc => ?_⟩
    · have h3 := z_ex k1 (by omega) hc
      subst h3
      exact h1 hn
    · have h3 := z_go k1 (by omega) hc
      obtain ⟨y1, y2, _⟩ := j3 k (by omega)
      rw [show (5 : Int32) = z 5 from rfl, z_mul, z_add]
      refine ⟨o11 R, _, p11_12 R, _, p11_18 R, o27 R (by decide), v27 R (by decide) (show 5 * e + k < 40 by omega) (by omega), o27 R (by decide), ?_⟩
      rw [r27 R m (k := 18) (by decide) (show 5 * e + k < 40 by omega) (by omega), y1, show (12 : Int32) = z 12 from rfl, z_mul, z_add]
      refine ⟨v27 R (by decide) (show 12 * w + ic V e k < 144 by omega) (by omega), _, p11_20 R, o27 R (by decide), v27 R (by decide) (show k < 5 by omega) (by omega), ?_⟩
      rw [r27 R m (k := 12) (by decide) (show 12 * w + ic V e k < 144 by omega) (by omega), tq20 R (by omega), (hp k (by omega)).1]
      refine t_isBroken (fun a => ?_) (fun a => ?_)
      · rw [kq_br] at a
        refine ⟨fun hc => absurd hc (by decide), fun _ => h0 (fun h => ?_)⟩
        rw [h k h3] at a
        cases a
      · rw [kq_br] at a
        refine ⟨fun _ => ?_, fun hc => absurd rfl hc⟩
        rw [z_s]
        refine ih (k + 1) (by omega) (by omega) (fun j hj => ?_)
        by_cases h : j = k
        · rw [h]; exact a
        · exact hn j (by omega)
theorem t_hangs {S : St} {M : MM} (R : Rep S A U M) (m : MV V M) (I : I1 V) (J : I2 V) (Q : I4 V) {e i : Nat} {p : Nat → Nat} {f : Int32 → St → Prop} (he : e < nE V) (hi : i < cn V e) (hp : tri p (i + 1) (2 * nR V) M) (h1 : okm V e p i → f 1 S) (h0 : ¬ okm V e p i → f 0 S) : w_X10_hangs S (A 11 0) (z e) (z i) f := by
  have II := I
  obtain ⟨_, _, _, _, b1, b2, b3, b4⟩ := I
  obtain ⟨j1, j2, j3⟩ := J e he
  obtain ⟨y1, y2, _⟩ := j3 i hi
  have hpi := hp i (by omega)
  unfold w_X10_hangs
  rw [show (5 : Int32) = z 5 from rfl, z_mul, z_add]
  refine ⟨o11 R, _, p11_18 R, o27 R (by decide), v27 R (by decide) (show 5 * e + i < 40 by omega) (by omega), _, p11_20 R, o27 R (by decide), v27 R (by decide) (show i < 5 by omega) (by omega), ?_⟩
  rw [r27 R m (k := 18) (by decide) (show 5 * e + i < 40 by omega) (by omega), y1, tq20 R (by omega), hpi.1, z_half (by omega)]
  refine t_hangsWhere R m II y2 (show p i / 2 < nR V by omega) (fun a => ?_) (fun a => ?_)
  · refine ⟨fun hc => absurd hc (by decide), fun _ => ⟨o11 R, t_breaks R m II J he y2 (fun b => ?_) (fun b => ?_)⟩⟩
    · exact ⟨fun _ => h0 (fun h => h.2.1 b), fun hc => absurd hc (by decide)⟩
    · refine ⟨fun hc => absurd rfl hc, fun _ => ⟨o11 R, t_short R m II J Q he hi hp (fun c => ?_) (fun c => ?_)⟩⟩
      · refine ⟨fun hc => absurd hc (by decide), fun _ => h0 (fun h => ?_)⟩
        obtain ⟨d, d1, d2, d3⟩ := c
        exact d3 (h.2.2.1 d d1 d2)
      · exact ⟨fun _ => ⟨i + 1, l_hangs R m II J he hi y2 hp (fun g => h1 ⟨a, b, c, g⟩) (fun g => h0 (fun h => g h.2.2.2)) _ 0 (Nat.zero_le _) (by omega) (fun j hj => absurd hj (by omega))⟩, fun hc => absurd rfl hc⟩
  · refine ⟨fun _ => h0 (fun h => ?_), fun hc => absurd rfl hc⟩
    rw [h.1] at a
    cases a
end MP
