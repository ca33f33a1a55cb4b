/-! ===== what always holds of the museum ===== -/
def I1 (V : VV) : Prop := V 24 0 = z (nR V) ∧ V 25 0 = z (nL V) ∧ V 26 0 = z (nW V) ∧ V 27 0 = z (nE V) ∧ nR V ≤ 4 ∧ nL V ≤ 4 ∧ nW V ≤ 12 ∧ nE V ≤ 8
def I2 (V : VV) : Prop := ∀ e, e < nE V → V 17 e = z (cn V e) ∧ cn V e ≤ 5 ∧ ∀ k, k < cn V e → V 18 (5 * e + k) = z (ic V e k) ∧ ic V e k < nW V ∧ ∀ j, j < k → ic V e j ≠ ic V e k
def I3 (V : VV) : Prop := ∀ w, w < nW V → (V 11 w = -1 ∧ ow V w = none) ∨ ∃ l, l < nL V ∧ V 11 w = z l ∧ ow V w = some l
def I4 (V : VV) : Prop := (∀ r, r < nR V → inr (V 0 r) 0 100 ∧ inr (V 1 r) 0 100) ∧ (∀ i, i < 2 * nR V → inr (V 2 i) 1 400) ∧ (∀ l, l < nL V → inr (V 3 l) 1 9999 ∧ inr (V 4 l) 0 9 ∧ inr (V 5 l) 1 100) ∧
  (∀ w, w < nW V → inr (V 6 w) 1 200 ∧ inr (V 10 w) 1 999) ∧ (∀ e, e < nE V → inr (V 13 e) 0 99 ∧ inr (V 14 e) 0 99 ∧ inr (V 15 e) 0 50 ∧ V 13 e ≤ V 14 e)
def I5 (V : VV) : Prop := ST V ∧ (∀ e, e < nE V → (V 16 e = 112 ∨ V 16 e = 119) → 0 < cn V e) ∧ ∀ e, e < nE V → V 16 e = 112 → ∀ k, k < cn V e → (∃ w, w < 2 * nR V ∧ V 19 (5 * e + k) = z w) ∧ lent V (ic V e k) e
def I6 (V : VV) : Prop := KO V ∧ (∀ i j, i < 12 → j < 12 → V 12 (i * 12 + j) = V 12 (j * 12 + i)) ∧ (∀ i, i < 12 → V 12 (i * 12 + i) = 0) ∧ ∀ i j, i < 12 → j < 12 → nW V ≤ i → V 12 (i * 12 + j) = 0
def I7 (V : VV) : Prop := ∀ e, nE V ≤ e → e < 8 → V 17 e = 0 ∧ ∀ k, k < 5 → V 19 (5 * e + k) = 0
def Iv (V : VV) : Prop := I1 V ∧ I2 V ∧ I3 V ∧ I4 V ∧ I5 V ∧ I6 V ∧ I7 V
/-! ===== the reference's small methods ===== -/
section MB
variable {S : St} {A : Nat → Nat → Nat} {V U : VV} {M : MM}
theorem v27 (R : Rep S A U M) {k i : Nat} (hk : k < 23) (hi : i < ml k) (hb : i < 2147483648) : vp_in (z i) (sN S (A 27 k)) := by
  have e : sN S (A 27 k) = ml k := R.2.2.2.1 27 k (show us U 27 k from hk) (by decide)
  rw [e]
  refine z_vp hi ?_
  unfold ml
  repeat' split
  all_goals omega
theorem r27 (R : Rep S A U M) (m : MV V M) {k i : Nat} (hk : k < 20) (hi : i < ml k) (hb : i < 2147483648) : sI S (A 27 k) (Int32.toNatClampNeg (z i)) = V k i := by
  rw [z_c hb, i27 R (show k < 23 by omega)]
  exact m.1 k hk i hi
theorem r11 (R : Rep S A U M) (m : MV V M) {k : Nat} (h1 : 24 ≤ k) (h2 : k < 29) : sI S (A 11 0) k = V k 0 := by
  rw [i11 R]
  exact m.2 k h1 h2
theorem t_in {x a b : Int32} {f : Int32 → St → Prop} (h1 : a ≤ x → x ≤ b → f 1 S) (h0 : ¬ (a ≤ x ∧ x ≤ b) → f 0 S) : w_X10_in S x a b f := by
  unfold w_X10_in
  refine ⟨fun hc => h0 (fun h => Int32.not_lt.2 h.1 hc), fun hc => ⟨fun hd => h0 (fun h => Int32.not_lt.2 h.2 hd), fun hd => h1 (Int32.not_lt.1 hc) (Int32.not_lt.1 hd)⟩⟩
theorem t_isRoom (R : Rep S A U M) (m : MV V M) (I : I1 V) {x : Int32} {f : Int32 → St → Prop} (h1 : ix (nR V) x → f 1 S) (h0 : ¬ ix (nR V) x → f 0 S) : w_X10_isRoom S (A 11 0) x f := by
  unfold w_X10_isRoom
  rw [r11 R m (by decide) (by decide), I.1]
  have := I.2.2.2.2.1
  exact ⟨o11 R, t_in (fun a b => ⟨Or.inr rfl, h1 (ix_in (by omega) a b)⟩) (fun a => ⟨Or.inl rfl, h0 (ix_out (by omega) a)⟩)⟩
theorem t_isWork (R : Rep S A U M) (m : MV V M) (I : I1 V) {x : Int32} {f : Int32 → St → Prop} (h1 : ix (nW V) x → f 1 S) (h0 : ¬ ix (nW V) x → f 0 S) : w_X10_isWork S (A 11 0) x f := by
  unfold w_X10_isWork
  rw [r11 R m (by decide) (by decide), I.2.2.1]
  have := I.2.2.2.2.2.2.1
  exact ⟨o11 R, t_in (fun a b => ⟨Or.inr rfl, h1 (ix_in (by omega) a b)⟩) (fun a => ⟨Or.inl rfl, h0 (ix_out (by omega) a)⟩)⟩
theorem t_isExhibition (R : Rep S A U M) (m : MV V M) (I : I1 V) {x : Int32} {f : Int32 → St → Prop} (h1 : ix (nE V) x → f 1 S) (h0 : ¬ ix (nE V) x → f 0 S) : w_X10_isExhibition S (A 11 0) x f := by
  unfold w_X10_isExhibition
  rw [r11 R m (by decide) (by decide), I.2.2.2.1]
  have := I.2.2.2.2.2.2.2
  exact ⟨o11 R, t_in (fun a b => ⟨Or.inr rfl, h1 (ix_in (by omega) a b)⟩) (fun a => ⟨Or.inl rfl, h0 (ix_out (by omega) a)⟩)⟩
theorem t_travelOf (R : Rep S A U M) (m : MV V M) (I : I1 V) (J : I3 V) {w : Nat} {f : Int32 → St → Prop} (hw : w < nW V) (hf : f (tr V w) S) : w_X10_travelOf S (A 11 0) (z w) f := by
  obtain ⟨_, _, _, _, _, b2, b3, b4⟩ := I
  unfold w_X10_travelOf
  refine ⟨o11 R, _, p11_11 R, o27 R (by decide), v27 R (by decide) (show w < 12 by omega) (by omega), ?_⟩
  rw [r27 R m (k := 11) (by decide) (show w < 12 by omega) (by omega)]
  unfold tr at hf
  rcases J w hw with ⟨h1, h2⟩ | ⟨l, hl, h1, h2⟩
  · rw [h1]
    rw [h2] at hf
    exact ⟨fun hc => absurd hc (by decide), fun _ => hf⟩
  · rw [h1]
    rw [h2] at hf
    refine ⟨fun _ => ⟨_, p11_4 R, o27 R (by decide), v27 R (by decide) (show l < 4 by omega) (by omega), ?_⟩, fun hc => absurd (z_nn (by omega)) hc⟩
    rw [r27 R m (k := 4) (by decide) (show l < 4 by omega) (by omega)]
    exact hf
theorem t_hangsWhere (R : Rep S A U M) (m : MV V M) (I : I1 V) {w r : Nat} {f : Int32 → St → Prop} (hw : w < nW V) (hr : r < nR V) (h1 : stn V w r = true → f 1 S) (h0 : stn V w r = false → f 0 S) : w_X10_hangsWhere S (A 11 0) (z w) (z r) f := by
  obtain ⟨_, _, _, _, b1, b2, b3, b4⟩ := I
  unfold w_X10_hangsWhere
  refine ⟨o11 R, _, p11_0 R, o27 R (by decide), v27 R (by decide) (show r < 4 by omega) (by omega), _, p11_7 R, o27 R (by decide), v27 R (by decide) (show w < 12 by omega) (by omega), _, p11_8 R, o27 R (by decide), v27 R (by decide) (show w < 12 by omega) (by omega), ?_⟩
  rw [r27 R m (k := 0) (by decide) (show r < 4 by omega) (by omega), r27 R m (k := 7) (by decide) (show w < 12 by omega) (by omega), r27 R m (k := 8) (by decide) (show w < 12 by omega) (by omega)]
  refine t_in (fun a b => ?_) (fun a => ?_)
  · refine ⟨fun hc => absurd hc (by decide), fun _ => ⟨o11 R, _, p11_1 R, o27 R (by decide), v27 R (by decide) (show r < 4 by omega) (by omega), _, p11_9 R, o27 R (by decide), v27 R (by decide) (show w < 12 by omega) (by omega), ?_⟩⟩
    rw [r27 R m (k := 1) (by decide) (show r < 4 by omega) (by omega), r27 R m (k := 9) (by decide) (show w < 12 by omega) (by omega)]
    exact ⟨fun c => h0 (decide_eq_false fun h => Int32.not_lt.2 h.2.2 c), fun c => h1 (decide_eq_true ⟨a, b, Int32.not_lt.1 c⟩)⟩
  · exact ⟨fun _ => h0 (decide_eq_false fun h => a ⟨h.1, h.2.1⟩), fun hc => absurd rfl hc⟩
/-- both on a day that they share, whatever their states -/
def ao (V : VV) (e g : Nat) : Bool := decide (V 13 e ≤ V 14 g ∧ V 13 g ≤ V 14 e)
theorem t_areAtOnce (R : Rep S A U M) (m : MV V M) (I : I1 V) {e g : Nat} {f : Int32 → St → Prop} (he : e < nE V) (hg : g < nE V) (h1 : ao V e g = true → f 1 S) (h0 : ao V e g = false → f 0 S) : w_X10_areAtOnce S (A 11 0) (z e) (z g) f := by
  obtain ⟨_, _, _, _, b1, b2, b3, b4⟩ := I
  unfold w_X10_areAtOnce
  have e13 := r27 R m (k := 13) (i := e) (by decide) (show e < 8 by omega) (by omega)
  have e14 := r27 R m (k := 14) (i := e) (by decide) (show e < 8 by omega) (by omega)
  have g13 := r27 R m (k := 13) (i := g) (by decide) (show g < 8 by omega) (by omega)
  have g14 := r27 R m (k := 14) (i := g) (by decide) (show g < 8 by omega) (by omega)
  refine ⟨o11 R, _, p11_13 R, o27 R (by decide), v27 R (by decide) (show e < 8 by omega) (by omega), _, p11_14 R, o27 R (by decide), v27 R (by decide) (show g < 8 by omega) (by omega), ?_⟩
  rw [e13, e14, g13, g14]
  refine ⟨fun a => h0 (decide_eq_false fun h => Int32.not_lt.2 h.1 a), fun a => ⟨v27 R (by decide) (show g < 8 by omega) (by omega), v27 R (by decide) (show e < 8 by omega) (by omega), fun b => h0 (decide_eq_false fun h => Int32.not_lt.2 h.2 b), fun b => h1 (decide_eq_true ⟨Int32.not_lt.1 a, Int32.not_lt.1 b⟩)⟩⟩
theorem t_isBroken {k x y : Int32} {f : Int32 → St → Prop} (h1 : br k x y = true → f 1 S) (h0 : br k x y = false → f 0 S) : w_X10_isBroken S k x y f := by
  unfold w_X10_isBroken
  have n114 : ∀ {k : Int32}, k = 114 → ¬ k = 119 := fun h h2 => by rw [h] at h2; exact absurd h2 (by decide)
  refine ⟨fun a => ⟨fun b => h0 (brk_f ?_), fun b => ⟨fun c => h0 (brk_f ?_), fun c => h1 (brk_t (Or.inr ⟨b, c⟩))⟩⟩, fun a => ⟨fun b => h1 (brk_t (Or.inl ⟨a, b⟩)), fun b => ⟨fun c => h0 (brk_f ?_), fun c => absurd c (n114 a)⟩⟩⟩
  · rintro (h | h)
    · exact a h.1
    · exact b h.1
  · rintro (h | h)
    · exact a h.1
    · exact c h.2
  · rintro (h | h)
    · exact b h.2
    · exact c h.1
theorem kq_br {V : VV} {i j : Nat} {x y : Int32} : br (V 12 (12 * i + j)) x y = br (kq V i j) x y := by
  unfold kq
  rw [Nat.mul_comm 12 i]
  by_cases h : V 12 (i * 12 + j) = 0
  · rw [if_pos h, h]
    rw [brk_f, brk_f]
    · rintro (h | h) <;> exact absurd h.1 (by decide)
    · rintro (h | h) <;> exact absurd h.1 (by decide)
  · rw [if_neg h]
theorem l_tincludes (R : Rep S A U M) (m : MV V M) (I : I1 V) (J : I2 V) {e w : Nat} {f : Int32 → St → Prop} (he : e < nE V) (hw : w < nW V) (h1 : has V e w → f 1 S) (h0 : ¬ has V e w → f 0 S) : ∀ n k, k ≤ cn V e → cn V e < k + n → (∀ j, j < k → ic V e j ≠ w) → wl_X10_includes_2 f n S (A 11 0) (z e) (z w) (z k) := by
  obtain ⟨_, _, _, _, b1, b2, b3, b4⟩ := I
  obtain ⟨j1, j2, j3⟩ := J e he
  intro n
  induction n with
  | zero => intro k h1 h2; omega
  | succ n ih =>
    intro k k1 k2 hn
    unfold wl_X10_includes_2
    refine ⟨o11 R, _, p11_17 R, o27 R (by decide), v27 R (by decide) (show e < 8 by omega) (by omega), ?_⟩
    rw [r27 R m (k := 17) (by decide) (show e < 8 by omega) (by omega), j1]
    refine ⟨fun hc => ?_, fun hc => ?_⟩
    · have h3 := z_ex k1 (by omega) hc
      subst h3
      exact h0 (fun ⟨j, a, b⟩ => hn j a b)
    · have h3 := z_go k1 (by omega) hc
      rw [show (5 : Int32) = z 5 from rfl, z_mul, z_add]
      refine ⟨_, p11_18 R, o27 R (by decide), v27 R (by decide) (show 5 * e + k < 40 by omega) (by omega), ?_⟩
      obtain ⟨y1, y2, _⟩ := j3 k h3
      rw [r27 R m (k := 18) (by decide) (show 5 * e + k < 40 by omega) (by omega), y1, z_eq (by omega) (by omega), z_s]
      refine ⟨fun a => ih (k + 1) (by omega) (by omega) (fun j hj => ?_), fun a => h1 ⟨k, h3, a⟩⟩
      by_cases h : j = k
      · rw [h]; exact a
      · exact hn j (by omega)
theorem t_includes (R : Rep S A U M) (m : MV V M) (I : I1 V) (J : I2 V) {e w : Nat} {f : Int32 → St → Prop} (he : e < nE V) (hw : w < nW V) (h1 : has V e w → f 1 S) (h0 : ¬ has V e w → f 0 S) : w_X10_includes S (A 11 0) (z e) (z w) f := by
  unfold w_X10_includes
  exact ⟨cn V e + 1, l_tincludes R m I J he hw h1 h0 _ 0 (Nat.zero_le _) (by omega) (fun j hj => absurd hj (by omega))⟩
end MB
