/-! ===== the reference separates ===== -/
theorem ns_mul (a b : Nat) (g : Nat → Nat) : ns (a * b) g = ns a (fun i => ns b (fun j => g (i * b + j))) := by
  have h1 : ∀ m n (g : Nat → Nat), ns (m + n) g = ns m g + ns n (fun j => g (m + j)) := by
    intro m n
    induction n with
    | zero => intro g; rfl
    | succ n ih =>
      intro g
      show ns (m + n) g + g (m + n) = ns m g + (ns n (fun j => g (m + j)) + g (m + n))
      rw [ih g]
      omega
  induction a with
  | zero => rw [Nat.zero_mul]; rfl
  | succ a ih =>
    rw [Nat.succ_mul, h1, ih]
    rfl
theorem ns_tri {b : Nat → Nat → Nat} : ∀ n, (∀ i j, i < n → j < n → b i j = b j i) → (∀ i, i < n → b i i = 0) → ns n (fun i => ns n (fun j => b i j)) = 2 * ns n (fun i => ns i (fun j => b i j)) := by
  intro n
  induction n with
  | zero => intro _ _; rfl
  | succ n ih =>
    intro h1 h2
    have e := ih (fun i j hi hj => h1 i j (by omega) (by omega)) (fun i hi => h2 i (by omega))
    show ns n (fun i => ns n (fun j => b i j) + b i n) + (ns n (fun j => b n j) + b n n) = 2 * (ns n (fun i => ns i (fun j => b i j)) + ns n (fun j => b n j))
    rw [ns_add, e, h2 n (by omega), ns_c (g := fun j => b n j) (fun i hi => h1 i n (by omega) (by omega))]
    omega
/-- one where a pair is separated -/
def sb1 (V : VV) (i j : Nat) : Nat := if V 12 (i * 12 + j) = 0 then 0 else 1
def cnt (V : VV) : Nat := ns (nW V) (fun i => ns i (fun j => sb1 V i j))
theorem sb1_le {V : VV} {i j : Nat} : sb1 V i j ≤ 1 := by unfold sb1; split <;> omega
theorem cnt_prs {V : VV} (I : I1 V) (Q : I6 V) : prs V 144 = z (2 * cnt V) ∧ cnt V ≤ 144 := by
  have b3 := I.2.2.2.2.2.2.1
  obtain ⟨k1, k2, k3, k4⟩ := Q
  have h0 : ∀ i j, i < 12 → j < 12 → nW V ≤ i → sb1 V i j = 0 := fun i j hi hj h => by
    unfold sb1
    rw [if_pos (k4 i j hi hj h)]
  have hs : ∀ i j, i < 12 → j < 12 → sb1 V i j = sb1 V j i := fun i j hi hj => by
    unfold sb1
    rw [k2 i j hi hj]
  have e1 : prs V 144 = z (ns (12 * 12) (fun q => if V 12 q = 0 then 0 else 1)) := su_z (fun q hq => by
    by_cases h : V 12 q = 0
    · rw [if_pos h, if_pos h]; rfl
    · rw [if_neg h, if_neg h]; rfl)
  have e2 : ns (12 * 12) (fun q => if V 12 q = 0 then 0 else 1) = 2 * ns 12 (fun i => ns i (fun j => sb1 V i j)) := by
    rw [ns_mul]
    exact ns_tri (b := sb1 V) 12 hs (fun i hi => by unfold sb1; rw [if_pos (k3 i hi)])
  have e3 : ∀ n, nW V ≤ n → n ≤ 12 → ns n (fun i => ns i (fun j => sb1 V i j)) = cnt V := by
    intro n
    induction n with
    | zero => intro h _; unfold cnt; rw [Nat.le_zero.1 h]
    | succ n ih =>
      intro h h12
      by_cases e : nW V = n + 1
      · unfold cnt; rw [e]
      · show ns n (fun i => ns i (fun j => sb1 V i j)) + ns n (fun j => sb1 V n j) = cnt V
        rw [ih (by omega) (by omega), ns_0 (fun j hj => h0 n j (by omega) (by omega) (by omega))]
        rfl
  have e4 := e3 12 b3 (Nat.le_refl _)
  rw [e1, e2, e4]
  refine ⟨rfl, ?_⟩
  unfold cnt
  refine Nat.le_trans (ns_bd (x := 12) (fun i hi => ?_)) (by omega)
  exact Nat.le_trans (ns_bd (x := 1) (fun j hj => sb1_le)) (by omega)
theorem cnt_half {V : VV} (I : I1 V) (Q : I6 V) : prs V 144 / 2 = z (cnt V) := by
  obtain ⟨a, b⟩ := cnt_prs I Q
  rw [a, z_half (by omega)]
  congr 1
  omega
/-- a work of one exhibition and one of another that hang against a separation -/
def wbr (V : VV) (w w' : Nat) (kd : Int32) (e g k j : Nat) : Prop := ic V e k = w ∧ ic V g j = w' ∧ ao V e g = true ∧ br kd (V 19 (5 * e + k)) (V 19 (5 * g + j)) = true
section MT
variable {S : St} {A : Nat → Nat → Nat} {V U : VV} {M : MM}
theorem t_areBroken (R : Rep S A U M) (m : MV V M) (I : I1 V) (J : I2 V) {e g k j : Nat} {kd : Int32} {f : Int32 → St → Prop} (he : e < nE V) (hg : g < nE V) (hk : k < cn V e) (hj : j < cn V g) (h1 : ao V e g = true → br kd (V 19 (5 * e + k)) (V 19 (5 * g + j)) = true → f 1 S) (h0 : ¬ (ao V e g = true ∧ br kd (V 19 (5 * e + k)) (V 19 (5 * g + j)) = true) → f 0 S) : w_X10_areBroken S (A 11 0) (z e) (z k) (z g) (z j) kd f := by
  have II := I
  obtain ⟨_, _, _, _, b1, b2, b3, b4⟩ := I
  have c1 := (J e he).2.1
  have c2 := (J g hg).2.1
  unfold w_X10_areBroken
  refine ⟨o11 R, t_areAtOnce R m II he hg (fun a => ⟨fun hc => absurd hc (by decide), fun _ => ?_⟩) (fun a => ⟨fun _ => h0 (fun h => by rw [h.1] at a; cases a), fun hc => absurd rfl hc⟩)⟩
  rw [show (5 : Int32) = z 5 from rfl, z_mul, z_mul, z_add, z_add]
  refine ⟨o11 R, _, p11_19 R, o27 R (by decide), v27 R (by decide) (show 5 * e + k < 40 by omega) (by omega), v27 R (by decide) (show 5 * g + j < 40 by omega) (by omega), ?_⟩
  rw [r27 R m (k := 19) (by decide) (show 5 * e + k < 40 by omega) (by omega), r27 R m (k := 19) (by decide) (show 5 * g + j < 40 by omega) (by omega)]
  refine t_isBroken (fun b => ⟨fun hc => absurd hc (by decide), fun _ => h1 a b⟩) (fun b => ⟨fun _ => h0 (fun h => by rw [h.2] at b; cases b), fun hc => absurd rfl hc⟩)
theorem l_wb4 (R : Rep S A U M) (m : MV V M) (I : I1 V) (J : I2 V) {w w' e g k : Nat} {kd : Int32} {f : Int32 → St → Prop} {k3 : St → Nat → Int32 → Int32 → Int32 → Int32 → Prop} {k15 : St → Nat → Int32 → Int32 → Int32 → Int32 → Int32 → Prop} {k54 : St → Nat → Int32 → Int32 → Int32 → Int32 → Int32 → Int32 → Prop} (hw : w < nW V) (hw' : w' < nW V) (he : e < nE V) (hg : g < nE V) (hk : k < cn V e)
    (h1 : (∃ j, j < cn V g ∧ wbr V w w' kd e g k j) → f 1 S) (h0 : (¬ ∃ j, j < cn V g ∧ wbr V w w' kd e g k j) → k54 S (A 11 0) (z w) (z w') kd (z e) (z g) (z (k + 1))) : ∀ n j, j ≤ cn V g → cn V g < j + n → (∀ i, i < j → ¬ wbr V w w' kd e g k i) → wl_X10_wouldBreak_69 f k3 k15 k54 n S (A 11 0) (z w) (z w') kd (z e) (z g) (z k) (z j) := by
  have II := I
  obtain ⟨_, _, _, _, b1, b2, b3, b4⟩ := I
  obtain ⟨j1, j2, j3⟩ := J g hg
  obtain ⟨e1, e2, e3⟩ := J e he
  obtain ⟨y1, y2, _⟩ := e3 k hk
  intro n
  induction n with
  | zero => intro k h1 h2; omega
  | succ n ih =>
    intro j k1 k2 hn
    unfold wl_X10_wouldBreak_69
    refine ⟨o11 R, _, p11_17 R, o27 R (by decide), v27 R (by decide) (show g < 8 by omega) (by omega), ?_⟩
    rw [r27 R m (k := 17) (by decide) (show g < 8 by omega) (by omega), j1]
    refine ⟨fun hc => ?_, fun hc => ?_⟩
    · have h3 := z_ex k1 (by omega) hc
      subst h3
      rw [z_s]
      exact h0 (fun ⟨i, a, b⟩ => hn i a b)
    · have h3 := z_go k1 (by omega) hc
      obtain ⟨x1, x2, _⟩ := j3 j h3
      have nx : ¬ wbr V w w' kd e g k j → wl_X10_wouldBreak_69 f k3 k15 k54 n S (A 11 0) (z w) (z w') kd (z e) (z g) (z k) (z j + 1) := fun hb => by
        rw [z_s]
        refine ih (j + 1) (by omega) (by omega) (fun i hi => ?_)
        by_cases h : i = j
        · rw [h]; exact hb
        · exact hn i (by omega)
      rw [show (5 : Int32) = z 5 from rfl, z_mul, z_mul, z_add, z_add]
      refine ⟨_, p11_18 R, o27 R (by decide), v27 R (by decide) (show 5 * e + k < 40 by omega) (by omega), ?_⟩
      rw [r27 R m (k := 18) (by decide) (show 5 * e + k < 40 by omega) (by omega), y1, z_eq (by omega) (by omega)]
      refine ⟨fun a => nx (fun h => a h.1), fun a => ⟨v27 R (by decide) (show 5 * g + j < 40 by omega) (by omega), ?_⟩⟩
      rw [r27 R m (k := 18) (by decide) (show 5 * g + j < 40 by omega) (by omega), x1, z_eq (by omega) (by omega)]
      refine ⟨fun b => nx (fun h => b h.2.1), fun b => t_areBroken R m II J he hg hk h3 (fun c d => ?_) (fun c => ?_)⟩
      · exact ⟨fun hc => absurd hc (by decide), fun _ => h1 ⟨j, h3, a, b, c, d⟩⟩
      · exact ⟨fun _ => nx (fun h => c ⟨h.2.2.1, h.2.2.2⟩), fun hc => absurd rfl hc⟩
theorem l_wb3 (R : Rep S A U M) (m : MV V M) (I : I1 V) (J : I2 V) {w w' e g : Nat} {kd : Int32} {f : Int32 → St → Prop} {k3 : St → Nat → Int32 → Int32 → Int32 → Int32 → Prop} {k15 : St → Nat → Int32 → Int32 → Int32 → Int32 → Int32 → Prop} (hw : w < nW V) (hw' : w' < nW V) (he : e < nE V) (hg : g < nE V)
    (h1 : (∃ k, k < cn V e ∧ ∃ j, j < cn V g ∧ wbr V w w' kd e g k j) → f 1 S) (h0 : (¬ ∃ k, k < cn V e ∧ ∃ j, j < cn V g ∧ wbr V w w' kd e g k j) → k15 S (A 11 0) (z w) (z w') kd (z e) (z (g + 1))) : ∀ n k, k ≤ cn V e → cn V e < k + n → (∀ i, i < k → ¬ ∃ j, j < cn V g ∧ wbr V w w' kd e g i j) → wl_X10_wouldBreak_54 f k3 k15 n S (A 11 0) (z w) (z w') kd (z e) (z g) (z k) := by
  have II := I
  obtain ⟨_, _, _, _, b1, b2, b3, b4⟩ := I
  obtain ⟨e1, e2, e3⟩ := J e he
  intro n
  induction n with
  | zero => intro k h1 h2; omega
  | succ n ih =>
    intro k k1 k2 hn
    unfold wl_X10_wouldBreak_54
    refine ⟨o11 R, _, p11_17 R, o27 R (by decide), v27 R (by decide) (show e < 8 by omega) (by omega), ?_⟩
    rw [r27 R m (k := 17) (by decide) (show e < 8 by omega) (by omega), e1]
    refine ⟨fun hc => ?_, fun hc => ?_⟩
    · have h3 := z_ex k1 (by omega) hc
      subst h3
      rw [z_s]
      exact h0 (fun ⟨i, a, b⟩ => hn i a b)
    · have h3 := z_go k1 (by omega) hc
      refine ⟨cn V g + 1, l_wb4 R m II J hw hw' he hg h3 (fun a => h1 ⟨k, h3, a⟩) (fun a => ?_) _ 0 (Nat.zero_le _) (by omega) (fun i hi => absurd hi (by omega))⟩
      refine ih (k + 1) (by omega) (by omega) (fun i hi => ?_)
      by_cases h : i = k
      · rw [h]; exact a
      · exact hn i (by omega)
theorem l_wb2 (R : Rep S A U M) (m : MV V M) (I : I1 V) (J : I2 V) {w w' e : Nat} {kd : Int32} {f : Int32 → St → Prop} {k3 : St → Nat → Int32 → Int32 → Int32 → Int32 → Prop} (hw : w < nW V) (hw' : w' < nW V) (he : e < nE V)
    (h1 : (V 16 e = 112 ∧ ∃ g, g < nE V ∧ V 16 g = 112 ∧ ∃ k, k < cn V e ∧ ∃ j, j < cn V g ∧ wbr V w w' kd e g k j) → f 1 S) (h0 : (¬ (V 16 e = 112 ∧ ∃ g, g < nE V ∧ V 16 g = 112 ∧ ∃ k, k < cn V e ∧ ∃ j, j < cn V g ∧ wbr V w w' kd e g k j)) → k3 S (A 11 0) (z w) (z w') kd (z (e + 1))) : ∀ n g, g ≤ nE V → nE V < g + n → (∀ i, i < g → ¬ (V 16 e = 112 ∧ V 16 i = 112 ∧ ∃ k, k < cn V e ∧ ∃ j, j < cn V i ∧ wbr V w w' kd e i k j)) → wl_X10_wouldBreak_15 f k3 n S (A 11 0) (z w) (z w') kd (z e) (z g) := by
  have II := I
  obtain ⟨_, _, _, i27', b1, b2, b3, b4⟩ := I
  intro n
  induction n with
  | zero => intro k h1 h2; omega
  | succ n ih =>
    intro g k1 k2 hn
    unfold wl_X10_wouldBreak_15
    refine ⟨o11 R, ?_⟩
    rw [r11 R m (by decide) (by decide), i27']
    refine ⟨fun hc => ?_, fun hc => ?_⟩
    · have h3 := z_ex k1 (by omega) hc
      subst h3
      rw [z_s]
      exact h0 (fun ⟨x, i, a, b, c⟩ => hn i a ⟨x, b, c⟩)
    · have h3 := z_go k1 (by omega) hc
      have nx : ¬ (V 16 e = 112 ∧ V 16 g = 112 ∧ ∃ k, k < cn V e ∧ ∃ j, j < cn V g ∧ wbr V w w' kd e g k j) → wl_X10_wouldBreak_15 f k3 n S (A 11 0) (z w) (z w') kd (z e) (z (g + 1)) := fun hb => by
        refine ih (g + 1) (by omega) (by omega) (fun i hi => ?_)
        by_cases h : i = g
        · rw [h]; exact hb
        · exact hn i (by omega)
      rw [z_s]
      refine ⟨_, p11_16 R, o27 R (by decide), v27 R (by decide) (show e < 8 by omega) (by omega), ?_⟩
      rw [r27 R m (k := 16) (by decide) (show e < 8 by omega) (by omega)]
      refine ⟨fun a => nx (fun h => a h.1), fun a => ⟨v27 R (by decide) (show g < 8 by omega) (by omega), ?_⟩⟩
      rw [r27 R m (k := 16) (by decide) (show g < 8 by omega) (by omega)]
      refine ⟨fun b => ⟨cn V e + 1, l_wb3 R m II J hw hw' he h3 (fun c => h1 ⟨a, g, h3, b, c⟩) (fun c => nx (fun h => c h.2.2)) _ 0 (Nat.zero_le _) (by omega) (fun i hi => absurd hi (by omega))⟩, fun b => nx (fun h => b h.2.1)⟩
theorem l_wb1 (R : Rep S A U M) (m : MV V M) (I : I1 V) (J : I2 V) {w w' : Nat} {kd : Int32} {f : Int32 → St → Prop} (hw : w < nW V) (hw' : w' < nW V)
    (h1 : (∃ e, e < nE V ∧ V 16 e = 112 ∧ ∃ g, g < nE V ∧ V 16 g = 112 ∧ ∃ k, k < cn V e ∧ ∃ j, j < cn V g ∧ wbr V w w' kd e g k j) → f 1 S) (h0 : (¬ ∃ e, e < nE V ∧ V 16 e = 112 ∧ ∃ g, g < nE V ∧ V 16 g = 112 ∧ ∃ k, k < cn V e ∧ ∃ j, j < cn V g ∧ wbr V w w' kd e g k j) → f 0 S) : ∀ n e, e ≤ nE V → nE V < e + n → (∀ i, i < e → ¬ (V 16 i = 112 ∧ ∃ g, g < nE V ∧ V 16 g = 112 ∧ ∃ k, k < cn V i ∧ ∃ j, j < cn V g ∧ wbr V w w' kd i g k j)) → wl_X10_wouldBreak_3 f n S (A 11 0) (z w) (z w') kd (z e) := by
  have II := I
  obtain ⟨_, _, _, i27', b1, b2, b3, b4⟩ := I
  intro n
  induction n with
  | zero => intro k h1 h2; omega
  | succ n ih =>
    intro e k1 k2 hn
    unfold wl_X10_wouldBreak_3
    refine ⟨o11 R, ?_⟩
    rw [r11 R m (by decide) (by decide), i27']
    refine ⟨fun hc => ?_, fun hc => ?_⟩
    · have h3 := z_ex k1 (by omega) hc
      subst h3
      exact h0 (fun ⟨i, a, b⟩ => hn i a b)
    · have h3 := z_go k1 (by omega) hc
      refine ⟨nE V + 1, l_wb2 R m II J hw hw' h3 (fun a => h1 ⟨e, h3, a⟩) (fun a => ?_) _ 0 (Nat.zero_le _) (by omega) (fun i hi => absurd hi (by omega))⟩
      refine ih (e + 1) (by omega) (by omega) (fun i hi => ?_)
      by_cases h : i = e
      · rw [h]; exact a
      · exact hn i (by omega)
theorem hag_iff (J : I2 V) {w w' : Nat} {kd : Int32} : (∃ e, e < nE V ∧ V 16 e = 112 ∧ ∃ g, g < nE V ∧ V 16 g = 112 ∧ ∃ k, k < cn V e ∧ ∃ j, j < cn V g ∧ wbr V w w' kd e g k j) ↔ hag V w w' kd := by
  constructor
  · rintro ⟨e, he, se, g, hg, sg, k, hk, j, hj, a, b, c, d⟩
    have c' := of_decide_eq_true c
    refine ⟨e, he, se, k, ⟨hk, a, fun i hi => ?_⟩, g, hg, hd_t ⟨sg, c'.2, c'.1⟩, j, ⟨hj, b, fun i hi => ?_⟩, d⟩
    · rw [← a]
      exact ((J e he).2.2 k hk).2.2 i hi
    · rw [← b]
      exact ((J g hg).2.2 j hj).2.2 i hi
  · rintro ⟨e, he, se, k, ⟨hk, a, _⟩, g, hg, hh, j, ⟨hj, b, _⟩, d⟩
    have h := of_decide_eq_true hh
    exact ⟨e, he, se, g, hg, h.1, k, hk, j, hj, a, b, decide_eq_true ⟨h.2.2, h.2.1⟩, d⟩
theorem t_wouldBreak (R : Rep S A U M) (m : MV V M) (I : I1 V) (J : I2 V) {w w' : Nat} {kd : Int32} {f : Int32 → St → Prop} (hw : w < nW V) (hw' : w' < nW V) (h1 : hag V w w' kd → f 1 S) (h0 : ¬ hag V w w' kd → f 0 S) : w_X10_wouldBreak S (A 11 0) (z w) (z w') kd f := by
  unfold w_X10_wouldBreak
  refine ⟨nE V + 1, l_wb1 R m I J hw hw' (fun a => h1 ((hag_iff J).1 a)) (fun a => h0 (fun h => a ((hag_iff J).2 h))) _ 0 (Nat.zero_le _) (by omega) (fun i hi => absurd hi (by omega))⟩
theorem l_cnt2 (R : Rep S A U M) (m : MV V M) (I : I1 V) (K : KO V) {c i : Nat} {f : Int32 → St → Prop} {k99 : St → Nat → Int32 → Int32 → Prop} (hi : i < nW V) (h0 : k99 S (A 11 0) (z (c + ns i (fun j => sb1 V i j))) (z (i + 1))) : ∀ n j, j ≤ i → i < j + n → wl_X10_separate_111 f k99 n S (A 11 0) (z (c + ns j (fun j => sb1 V i j))) (z i) (z j) := by
  have b3 := I.2.2.2.2.2.2.1
  intro n
  induction n with
  | zero => intro k h1 h2; omega
  | succ n ih =>
    intro j k1 k2
    unfold wl_X10_separate_111
    refine ⟨fun hc => ?_, fun hc => ?_⟩
    · have h3 := z_ex k1 (by omega) hc
      subst h3
      rw [z_s]
      exact h0
    · have h3 := z_go k1 (by omega) hc
      have h4 := ih (j + 1) (by omega) (by omega)
      simp only [ns] at h4
      rw [← Nat.add_assoc] at h4
      rw [show (12 : Int32) = z 12 from rfl, z_mul, z_add]
      refine ⟨o11 R, _, p11_12 R, o27 R (by decide), v27 R (by decide) (show 12 * i + j < 144 by omega) (by omega), ?_⟩
      rw [r27 R m (k := 12) (by decide) (show 12 * i + j < 144 by omega) (by omega), z_s, z_s, Int32.add_zero, Nat.mul_comm 12 i]
      unfold sb1 at h4
      rcases K (i * 12 + j) (by omega) with h | h | h
      · rw [if_pos h, Nat.add_zero] at h4
        exact ⟨fun _ => h4, fun hc => absurd (by rw [h]; decide) hc⟩
      · rw [if_neg (by rw [h]; decide)] at h4
        exact ⟨fun hc => absurd hc (by rw [h]; decide), fun _ => h4⟩
      · rw [if_neg (by rw [h]; decide)] at h4
        exact ⟨fun hc => absurd hc (by rw [h]; decide), fun _ => h4⟩
theorem l_cnt (R : Rep S A U M) (m : MV V M) (I : I1 V) (K : KO V) {f : Int32 → St → Prop} (h0 : w_X10_looks S (A 11 0) (fun (r19 : Int32) (S20 : St) => f (z (cnt V)) S20)) : ∀ n i, i ≤ nW V → nW V < i + n → wl_X10_separate_99 f n S (A 11 0) (z (ns i (fun i => ns i (fun j => sb1 V i j)))) (z i) := by
  have b3 := I.2.2.2.2.2.2.1
  intro n
  induction n with
  | zero => intro k h1 h2; omega
  | succ n ih =>
    intro i k1 k2
    unfold wl_X10_separate_99
    refine ⟨o11 R, ?_⟩
    rw [r11 R m (by decide) (by decide), I.2.2.1]
    refine ⟨fun hc => ?_, fun hc => ?_⟩
    · have h3 := z_ex k1 (by omega) hc
      subst h3
      exact h0
    · have h3 := z_go k1 (by omega) hc
      have h5 := l_cnt2 (f := f) (k99 := wl_X10_separate_99 f n) (c := ns i (fun i => ns i (fun j => sb1 V i j))) R m I K h3 (ih (i + 1) (by omega) (by omega)) (i + 1) 0 (Nat.zero_le _) (by omega)
      simp only [ns, Nat.add_zero] at h5
      exact ⟨i + 1, h5⟩
end MT
section MT
variable {S : St} {A : Nat → Nat → Nat} {V U : VV} {M : MM} {G : (Nat → Nat → Int64) × (Nat → Nat → UInt64)}
theorem t_separate (R : Rq G S A U M) (m : MV V M) (I : Iv V) {x y kd : Int32} {f : Int32 → St → Prop} (hf : ∀ k r V' S' M', spSep V x y kd k r V' → Rq G S' A U M' → MV V' M' → Iv V' → Kf M M' k → f r S') : w_X10_separate S (A 11 0) x y kd f := by
  have b3 := I.1.2.2.2.2.2.2.1
  have no : ∀ k : Nat, ¬ z k ≤ 0 → spSep V x y kd k 0 V → wj_X10_separate_57 f S (A 11 0) x y kd (z k) (A 11 0) := fun k hk h => by
    obtain ⟨a, b, c, d⟩ := thrw R m k
    unfold wj_X10_separate_57
    exact ⟨o11 R.1, o11 a.1, fun hc => absurd hc (gt0 d hk), fun _ => hf k 0 V _ _ h a b I c⟩
  unfold w_X10_separate
  refine ⟨o11 R.1, t_isWork R.1 m I.1 (fun hx => ⟨fun hc => absurd hc (by decide), fun _ => ⟨o11 R.1, t_isWork R.1 m I.1 (fun hy => ⟨fun _ => ?_, fun hc => absurd hc (by decide)⟩) (fun hy => ⟨fun hc => absurd rfl hc, fun _ => no 1 (by decide) (Or.inl ⟨fun h => hy h.2, rfl, rfl⟩)⟩)⟩⟩) (fun hx => ⟨fun _ => no 1 (by decide) (Or.inl ⟨fun h => hx h.1, rfl, rfl⟩), fun hc => absurd rfl hc⟩)⟩
  obtain ⟨i, hi, rfl⟩ := hx
  obtain ⟨j, hj, rfl⟩ := hy
  rw [z_eq (by omega) (by omega)]
  have bad : (i = j ∨ ¬ (kd = 114 ∨ kd = 119)) → wj_X10_separate_38 f S (A 11 0) (z i) (z j) kd (A 11 0) := fun h => no 2 (by decide) (Or.inr ⟨i, j, hi, hj, rfl, rfl, Or.inl ⟨h, rfl, rfl⟩⟩)
  have go : i ≠ j → (kd = 114 ∨ kd = 119) → wj_X10_separate_42 f S (A 11 0) (z i) (z j) kd (A 11 0) := fun hne hk => by
    unfold wj_X10_separate_42
    refine ⟨o11 R.1, t_wouldBreak R.1 m I.1 I.2.1 hi hj (fun h => ⟨fun hc => absurd hc (by decide), fun _ => no 3 (by decide) (Or.inr ⟨i, j, hi, hj, rfl, rfl, Or.inr (Or.inl ⟨⟨hne, hk⟩, h, rfl, rfl⟩)⟩)⟩) (fun h => ⟨fun _ => ?_, fun hc => absurd rfl hc⟩)⟩
    obtain ⟨a, b, c, d⟩ := thrw R m 0
    unfold wj_X10_separate_57
    refine ⟨o11 R.1, o11 a.1, fun _ => ⟨_, p11_12 a.1, o27 a.1 (by decide), ?_⟩, fun hc => absurd (le0 d) hc⟩
    dsimp only
    rw [show setI S (A 11 0) 23 0 = setI S (A 11 0) 23 (z 0) from rfl, show (12 : Int32) = z 12 from rfl, z_mul, z_mul, z_add, z_add]
    refine ⟨v27 a.1 (by decide) (show 12 * i + j < 144 by omega) (by omega), ?_⟩
    rw [z_c (show 12 * i + j < 2147483648 by omega), z_c (show 12 * j + i < 2147483648 by omega)]
    have a2 := R27 (j := 12) (k := 12 * i + j) (v := kd) a (by decide)
    have m2 := MVrow (j := 12) (e := 12 * i + j) (v := kd) b (by decide)
    have a3 := R27 (j := 12) (k := 12 * j + i) (v := kd) a2 (by decide)
    have m3 := MVrow (j := 12) (e := 12 * j + i) (v := kd) m2 (by decide)
    have eV : up2 (up2 V 12 (12 * i + j) kd) 12 (12 * j + i) kd = sepV V i j kd := by
      unfold sepV
      rw [Nat.mul_comm 12 i, Nat.mul_comm 12 j]
    rw [eV] at m3
    have I2 := sepV_Iv I hi hj hne hk
    have n3 : nW (sepV V i j kd) = nW V := by unfold nW; rw [sepV_row (by decide)]
    refine ⟨v27 a2.1 (by decide) (show 12 * j + i < 144 by omega) (by omega), nW V + 1, ?_⟩
    have h5 := l_cnt (f := f) a3.1 m3 I2.1 I2.2.2.2.2.2.1.1 (t_looks (V := sepV V i j kd) a3 m3 I2 (fun S' M' V' r a4 b4 i4 l4 h4 => ?_)) (nW V + 1) 0 (Nat.zero_le _) (by omega)
    · exact h5
    · have hE : nE (sepV V i j kd) = nE V := by unfold nE; rw [sepV_row (by decide)]
      rw [hE] at h4
      rw [← cnt_half I2.1 I2.2.2.2.2.2.1]
      exact hf 0 _ V' S' M' (Or.inr ⟨i, j, hi, hj, rfl, rfl, Or.inr (Or.inr ⟨⟨hne, hk⟩, h, rfl, rfl, r, h4⟩)⟩) a4 b4 i4 (Lf.kf c (((Lf.up27 _ _ _ _).trans (Lf.up27 _ _ _ _)).trans l4))
  refine ⟨fun he => bad (Or.inl he), fun hne => ⟨fun h => go hne (Or.inl h), fun h => ⟨fun h2 => go hne (Or.inr h2), fun h2 => bad (Or.inr ?_)⟩⟩⟩
  rintro (h3 | h3)
  · exact h h3
  · exact h2 h3
end MT
