/-! ===== sums and differences of small numbers ===== -/
theorem bm {x : Int} (h1 : -2147483648 ≤ x) (h2 : x < 2147483648) : x.bmod (2 ^ 32) = x := by
  unfold Int.bmod
  dsimp only
  split <;> omega
theorem ti_add {a b : Int32} (h1 : -2147483648 ≤ a.toInt + b.toInt) (h2 : a.toInt + b.toInt < 2147483648) : (a + b).toInt = a.toInt + b.toInt := by rw [Int32.toInt_add, bm h1 h2]
theorem ti_sub {a b : Int32} (h1 : -2147483648 ≤ a.toInt - b.toInt) (h2 : a.toInt - b.toInt < 2147483648) : (a - b).toInt = a.toInt - b.toInt := by rw [Int32.toInt_sub, bm h1 h2]
theorem ti_mul {a b : Int32} (h1 : -2147483648 ≤ a.toInt * b.toInt) (h2 : a.toInt * b.toInt < 2147483648) : (a * b).toInt = a.toInt * b.toInt := by rw [Int32.toInt_mul, bm h1 h2]
theorem inr_i {x : Int32} {a b : Nat} (ha : a < 2147483648) (hb : b < 2147483648) (h : inr x (z a) (z b)) : (a : Int) ≤ x.toInt ∧ x.toInt ≤ b := by
  have h1 := Int32.le_iff_toInt_le.1 h.1
  have h2 := Int32.le_iff_toInt_le.1 h.2
  rw [z_i ha] at h1
  rw [z_i hb] at h2
  exact ⟨h1, h2⟩
section MT
variable {S : St} {A : Nat → Nat → Nat} {V U : VV} {M : MM}
theorem tr_i (J : I3 V) (Q : I4 V) {w : Nat} (hw : w < nW V) : 0 ≤ (tr V w).toInt ∧ (tr V w).toInt ≤ 9 := by
  unfold tr
  rcases J w hw with ⟨_, h⟩ | ⟨l, hl, _, h⟩
  · rw [h]
    show 0 ≤ (0 : Int32).toInt ∧ (0 : Int32).toInt ≤ 9
    decide
  · rw [h]
    exact inr_i (a := 0) (b := 9) (by decide) (by decide) (Q.2.2.1 l hl).2.1
/-- away at once, by the reference's words -/
theorem away_iff (J : I3 V) (Q : I4 V) {g e w : Nat} (hg : g < nE V) (he : e < nE V) (hw : w < nW V) : (V 16 g = 112 ∧ has V g w ∧ ¬ V 14 g < V 13 e - 2 * tr V w ∧ ¬ V 14 e < V 13 g - 2 * tr V w) ↔ away V g w (V 13 e - tr V w) (V 14 e + tr V w) := by
  obtain ⟨t1, t2⟩ := tr_i J Q hw
  obtain ⟨a1, a2⟩ := inr_i (a := 0) (b := 99) (by decide) (by decide) (Q.2.2.2.2 g hg).1
  obtain ⟨a3, a4⟩ := inr_i (a := 0) (b := 99) (by decide) (by decide) (Q.2.2.2.2 g hg).2.1
  obtain ⟨b1, b2⟩ := inr_i (a := 0) (b := 99) (by decide) (by decide) (Q.2.2.2.2 e he).1
  obtain ⟨b3, b4⟩ := inr_i (a := 0) (b := 99) (by decide) (by decide) (Q.2.2.2.2 e he).2.1
  have e2 : (2 * tr V w).toInt = 2 * (tr V w).toInt := by
    have h2 : (2 : Int32).toInt = 2 := by decide
    rw [ti_mul (by rw [h2]; omega) (by rw [h2]; omega), h2]
  have x1 : (V 13 e - 2 * tr V w).toInt = (V 13 e).toInt - 2 * (tr V w).toInt := by rw [ti_sub (by rw [e2]; omega) (by rw [e2]; omega), e2]
  have x2 : (V 13 g - 2 * tr V w).toInt = (V 13 g).toInt - 2 * (tr V w).toInt := by rw [ti_sub (by rw [e2]; omega) (by rw [e2]; omega), e2]
  have x3 : (V 13 g - tr V w).toInt = (V 13 g).toInt - (tr V w).toInt := ti_sub (by omega) (by omega)
  have x4 : (V 13 e - tr V w).toInt = (V 13 e).toInt - (tr V w).toInt := ti_sub (by omega) (by omega)
  have x5 : (V 14 e + tr V w).toInt = (V 14 e).toInt + (tr V w).toInt := ti_add (by omega) (by omega)
  have x6 : (V 14 g + tr V w).toInt = (V 14 g).toInt + (tr V w).toInt := ti_add (by omega) (by omega)
  unfold away
  rw [Int32.lt_iff_toInt_lt, Int32.lt_iff_toInt_lt, Int32.le_iff_toInt_le, Int32.le_iff_toInt_le, x1, x2, x3, x4, x5, x6]
  constructor
  · rintro ⟨h1, h2, h3, h4⟩
    exact ⟨h1, by omega, by omega, h2⟩
  · rintro ⟨h1, h2, h3, h4⟩
    exact ⟨h1, h4, by omega, by omega⟩
theorem l_elsewhere (R : Rep S A U M) (m : MV V M) (I : I1 V) (J : I2 V) (P : I3 V) (Q : I4 V) {e w : Nat} {f : Int32 → St → Prop} (he : e < nE V) (hw : w < nW V) (h1 : (∃ g, g < nE V ∧ g ≠ e ∧ away V g w (V 13 e - tr V w) (V 14 e + tr V w)) → f 1 S) (h0 : (¬ ∃ g, g < nE V ∧ g ≠ e ∧ away V g w (V 13 e - tr V w) (V 14 e + tr V w)) → f 0 S) :
    ∀ n k, k ≤ nE V → nE V < k + n → (∀ g, g < k → g ≠ e → ¬ away V g w (V 13 e - tr V w) (V 14 e + tr V w)) → wl_X10_isElsewhere_11 f n S (A 11 0) (z e) (z w) (2 * tr V w) (z k) := by
  have II := I
  obtain ⟨_, _, _, i27', b1, b2, b3, b4⟩ := I
  intro n
  induction n with
  | zero => intro k h1 h2; omega
  | succ n ih =>
    intro k k1 k2 hn
    unfold wl_X10_isElsewhere_11
    refine ⟨o11 R, ?_⟩
    rw [r11 R m (by decide) (by decide), i27']
    refine ⟨fun hc => ?_, fun hc => ?_⟩
    · have h3 := z_ex k1 (by omega) hc
      subst h3
      exact h0 (fun ⟨g, a, b, c⟩ => hn g a b c)
    · have h3 := z_go k1 (by omega) hc
      have nx : (k ≠ e → ¬ away V k w (V 13 e - tr V w) (V 14 e + tr V w)) → wl_X10_isElsewhere_11 f n S (A 11 0) (z e) (z w) (2 * tr V w) (z k + 1) := fun hk => by
        rw [z_s]
        refine ih (k + 1) (by omega) (by omega) (fun g hg hne => ?_)
        by_cases h : g = k
        · rw [h] at hne ⊢; exact hk hne
        · exact hn g (by omega) hne
      rw [z_eq (by omega) (by omega)]
      refine ⟨fun a => nx (fun h => absurd a h), fun a => ⟨_, p11_16 R, o27 R (by decide), v27 R (by decide) (show k < 8 by omega) (by omega), ?_⟩⟩
      rw [r27 R m (k := 16) (by decide) (show k < 8 by omega) (by omega)]
      have key := away_iff P Q h3 he hw
      refine ⟨fun b => nx (fun _ h => b h.1), fun b => t_includes R m II J h3 hw (fun c => ?_) (fun c => ?_)⟩
      · refine ⟨fun _ => ⟨o11 R, _, p11_13 R, o27 R (by decide), v27 R (by decide) (show e < 8 by omega) (by omega), _, p11_14 R, o27 R (by decide), v27 R (by decide) (show k < 8 by omega) (by omega), ?_⟩, fun hc => absurd hc (by decide)⟩
        rw [r27 R m (k := 13) (i := e) (by decide) (show e < 8 by omega) (by omega), r27 R m (k := 14) (i := k) (by decide) (show k < 8 by omega) (by omega), r27 R m (k := 13) (i := k) (by decide) (show k < 8 by omega) (by omega), r27 R m (k := 14) (i := e) (by decide) (show e < 8 by omega) (by omega)]
        refine ⟨fun d => nx (fun _ h => (key.2 h).2.2.1 d), fun d => ⟨v27 R (by decide) (show k < 8 by omega) (by omega), v27 R (by decide) (show e < 8 by omega) (by omega), fun x => nx (fun _ h => (key.2 h).2.2.2 x), fun x => h1 ⟨k, h3, a, key.1 ⟨b, c, d, x⟩⟩⟩⟩
      · exact ⟨fun hc => absurd rfl hc, fun _ => nx (fun _ h => c h.2.2.2)⟩
theorem t_elsewhere (R : Rep S A U M) (m : MV V M) (I : I1 V) (J : I2 V) (P : I3 V) (Q : I4 V) {e w : Nat} {f : Int32 → St → Prop} (he : e < nE V) (hw : w < nW V) (h1 : (∃ g, g < nE V ∧ g ≠ e ∧ away V g w (V 13 e - tr V w) (V 14 e + tr V w)) → f 1 S) (h0 : (¬ ∃ g, g < nE V ∧ g ≠ e ∧ away V g w (V 13 e - tr V w) (V 14 e + tr V w)) → f 0 S) : w_X10_isElsewhere S (A 11 0) (z e) (z w) f := by
  unfold w_X10_isElsewhere
  exact ⟨o11 R, t_travelOf R m I P hw ⟨nE V + 1, l_elsewhere R m I J P Q he hw h1 h0 _ 0 (Nat.zero_le _) (by omega) (fun j hj => absurd hj (by omega))⟩⟩
theorem t_takes (R : Rep S A U M) (m : MV V M) (I : I1 V) (J : I2 V) (P : I3 V) (Q : I4 V) {e w : Nat} {f : Int32 → St → Prop} (he : e < nE V) (hw : w < nW V) (h1 : takes V e w → f 1 S) (h0 : ¬ takes V e w → f 0 S) : w_X10_takes S (A 11 0) (z e) (z w) f := by
  have II := I
  obtain ⟨_, _, _, _, b1, b2, b3, b4⟩ := I
  unfold w_X10_takes
  refine ⟨o11 R, t_elsewhere R m II J P Q he hw (fun a => ?_) (fun a => ?_)⟩
  · refine ⟨fun hc => absurd hc (by decide), fun _ => h0 (fun h => ?_)⟩
    obtain ⟨g, x1, x2, x3⟩ := a
    exact h.1 g x1 x2 x3
  · have ha : ∀ g, g < nE V → g ≠ e → ¬ away V g w (V 13 e - tr V w) (V 14 e + tr V w) := fun g x1 x2 x3 => a ⟨g, x1, x2, x3⟩
    refine ⟨fun _ => ⟨o11 R, _, p11_11 R, o27 R (by decide), v27 R (by decide) (show w < 12 by omega) (by omega), ?_⟩, fun hc => absurd rfl hc⟩
    rw [r27 R m (k := 11) (by decide) (show w < 12 by omega) (by omega)]
    rcases P w hw with ⟨x1, x2⟩ | ⟨l, hl, x1, x2⟩
    · rw [x1]
      refine ⟨fun _ => h1 ⟨ha, fun l hl => ?_⟩, fun hc => absurd (by decide) hc⟩
      rw [x2] at hl
      cases hl
    · rw [x1]
      refine ⟨fun hc => absurd hc (z_neg (by omega)), fun _ => ⟨_, p11_10 R, o27 R (by decide), v27 R (by decide) (show w < 12 by omega) (by omega), _, p11_3 R, o27 R (by decide), v27 R (by decide) (show l < 4 by omega) (by omega), ?_⟩⟩
      rw [r27 R m (k := 10) (by decide) (show w < 12 by omega) (by omega), r27 R m (k := 3) (by decide) (show l < 4 by omega) (by omega)]
      have lt : lent V w e ↔ (V 10 w ≤ V 3 l ∧ V 14 e - V 13 e + 1 ≤ V 5 l ∧ V 4 l ≤ V 13 e) := by
        constructor
        · exact fun h => h l x2
        · intro h l' hl'
          rw [x2] at hl'
          cases hl'
          exact h
      refine ⟨fun c => h0 (fun h => Int32.not_lt.2 (lt.1 h.2).1 c), fun c => ⟨_, p11_14 R, o27 R (by decide), v27 R (by decide) (show e < 8 by omega) (by omega), _, p11_13 R, o27 R (by decide), v27 R (by decide) (show e < 8 by omega) (by omega), _, p11_5 R, o27 R (by decide), v27 R (by decide) (show l < 4 by omega) (by omega), ?_⟩⟩
      rw [r27 R m (k := 14) (by decide) (show e < 8 by omega) (by omega), r27 R m (k := 13) (by decide) (show e < 8 by omega) (by omega), r27 R m (k := 5) (by decide) (show l < 4 by omega) (by omega)]
      have dd : (V 5 l ≤ V 14 e - V 13 e) ↔ ¬ (V 14 e - V 13 e + 1 ≤ V 5 l) := by
        obtain ⟨y1, y2⟩ := inr_i (a := 0) (b := 99) (by decide) (by decide) (Q.2.2.2.2 e he).1
        obtain ⟨y3, y4⟩ := inr_i (a := 0) (b := 99) (by decide) (by decide) (Q.2.2.2.2 e he).2.1
        have s1 : (V 14 e - V 13 e).toInt = (V 14 e).toInt - (V 13 e).toInt := ti_sub (by omega) (by omega)
        have o1 : (1 : Int32).toInt = 1 := by decide
        have s2 : (V 14 e - V 13 e + 1).toInt = (V 14 e).toInt - (V 13 e).toInt + 1 := by rw [ti_add (by rw [s1, o1]; omega) (by rw [s1, o1]; omega), s1, o1]
        rw [Int32.le_iff_toInt_le, Int32.le_iff_toInt_le, s1, s2]
        omega
      refine ⟨fun d => h0 (fun h => dd.1 d (lt.1 h.2).2.1), fun d => ⟨_, p11_4 R, o27 R (by decide), v27 R (by decide) (show l < 4 by omega) (by omega), ?_⟩⟩
      rw [r27 R m (k := 4) (by decide) (show l < 4 by omega) (by omega)]
      refine ⟨fun x => h0 (fun h => Int32.not_lt.2 (lt.1 h.2).2.2 x), fun x => h1 ⟨ha, lt.2 ⟨Int32.not_lt.1 c, Classical.byContradiction (fun y => d (dd.2 y)), Int32.not_lt.1 x⟩⟩⟩
end MT
