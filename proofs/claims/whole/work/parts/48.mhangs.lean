/-! ===== the reference: may a work hang on a wall ===== -/
def agx (V : VV) (e w : Nat) (x : Int32) : Prop := ∃ g, g < nE V ∧ g ≠ e ∧ hd V g e = true ∧ ∃ k, k < cn V g ∧ br (kq V w (ic V g k)) x (V 19 (5 * g + k)) = true
def tkb (V : VV) (w d : Int32) (b : Nat) : Int32 := su (nE V) (fun g => if g = b then 0 else if ho V g d then sp V g w else 0)
def own (V : VV) (e i : Nat) (p : Nat → Nat) : Int32 := su (i + 1) (fun k => if p k = p i then spc V e k else 0)
def okm (V : VV) (e : Nat) (p : Nat → Nat) (i : Nat) : Prop := stn V (ic V e i) (p i / 2) = true ∧ ¬ agx V e (ic V e i) (z (p i)) ∧ (∀ d, V 13 e ≤ d → d ≤ V 14 e → tkb V (z (p i)) d e + own V e i p ≤ V 2 (p i)) ∧ ∀ k, k < i → br (kq V (ic V e i) (ic V e k)) (z (p i)) (z (p k)) = false
section MH
variable {S : St} {A : Nat → Nat → Nat} {V U : VV} {M : MM}
theorem l_breaks2 (R : Rep S A U M) (m : MV V M) (I : I1 V) (J : I2 V) {e w g : Nat} {x : Int32} {f : Int32 → St → Prop} {kk : St → Nat → Int32 → Int32 → Int32 → Int32 → Prop} (hw : w < nW V) (hg : g < nE V)
    (h1 : (∃ k, k < cn V g ∧ br (kq V w (ic V g k)) x (V 19 (5 * g + k)) = true) → f 1 S) (h0 : (¬ ∃ k, k < cn V g ∧ br (kq V w (ic V g k)) x (V 19 (5 * g + k)) = true) → kk S (A 11 0) (z e) (z w) x (z (g + 1))) : ∀ n k, k ≤ cn V g → cn V g < k + n → (∀ j, j < k → br (kq V w (ic V g j)) x (V 19 (5 * g + j)) = false) → wl_X10_breaksOthers_46 f kk n S (A 11 0) (z e) (z w) x (z g) (z k) := by
  obtain ⟨_, _, _, _, b1, b2, b3, b4⟩ := I
  obtain ⟨j1, j2, j3⟩ := J g hg
  intro n
  induction n with
  | zero => intro k h1 h2; omega
  | succ n ih =>
    intro k k1 k2 hn
    unfold wl_X10_breaksOthers_46
    refine ⟨o11 R, _, p11_17 R, o27 R (by decide), v27 R (by decide) (show g < 8 by omega) (by omega), ?_⟩
    rw [r27 R m (k := 17) (by decide) (show g < 8 by omega) (by omega), j1]
    refine ⟨fun hc => ?_, fun hc => ?_⟩
    · have h3 := z_ex k1 (by omega) hc
      subst h3
      rw [z_s]
      refine h0 (fun ⟨j, a, b⟩ => ?_)
      rw [hn j a] at b
      cases b
    · have h3 := z_go k1 (by omega) hc
      obtain ⟨y1, y2, _⟩ := j3 k h3
      rw [show (5 : Int32) = z 5 from rfl, z_mul, z_add]
      refine ⟨_, p11_12 R, _, p11_18 R, o27 R (by decide), v27 R (by decide) (show 5 * g + k < 40 by omega) (by omega), o27 R (by decide), ?_⟩
      rw [r27 R m (k := 18) (by decide) (show 5 * g + k < 40 by omega) (by omega), y1, show (12 : Int32) = z 12 from rfl, z_mul, z_add]
      refine ⟨v27 R (by decide) (show 12 * w + ic V g k < 144 by omega) (by omega), _, p11_19 R, o27 R (by decide), v27 R (by decide) (show 5 * g + k < 40 by omega) (by omega), ?_⟩
      rw [r27 R m (k := 12) (by decide) (show 12 * w + ic V g k < 144 by omega) (by omega), r27 R m (k := 19) (by decide) (show 5 * g + k < 40 by omega) (by omega)]
      refine t_isBroken (fun a => ?_) (fun a => ?_)
      · rw [kq_br] at a
        exact ⟨fun hc => absurd hc (by decide), fun _ => h1 ⟨k, h3, a⟩⟩
      · rw [kq_br] at a
        refine ⟨fun _ => ?_, fun hc => absurd rfl hc⟩
        rw [z_s]
        refine ih (k + 1) (by omega) (by omega) (fun j hj => ?_)
        by_cases h : j = k
        · rw [h]; exact a
        · exact hn j (by omega)
theorem l_breaks (R : Rep S A U M) (m : MV V M) (I : I1 V) (J : I2 V) {e w : Nat} {x : Int32} {f : Int32 → St → Prop} (he : e < nE V) (hw : w < nW V) (h1 : agx V e w x → f 1 S) (h0 : ¬ agx V e w x → f 0 S) : ∀ n k, k ≤ nE V → nE V < k + n → (∀ g, g < k → ¬ (g ≠ e ∧ hd V g e = true ∧ ∃ k, k < cn V g ∧ br (kq V w (ic V g k)) x (V 19 (5 * g + k)) = true)) → wl_X10_breaksOthers_3 f n S (A 11 0) (z e) (z w) x (z k) := by
  have II := I
  obtain ⟨_, _, _, i27', b1, b2, b3, b4⟩ := I
  intro n
  induction n with
  | zero => intro k h1 h2; omega
  | succ n ih =>
    intro k k1 k2 hn
    unfold wl_X10_breaksOthers_3
    refine ⟨o11 R, ?_⟩
    rw [r11 R m (by decide) (by decide), i27']
    refine ⟨fun hc => ?_, fun hc => ?_⟩
    · have h3 := z_ex k1 (by omega) hc
      subst h3
      exact h0 (fun ⟨g, a, b⟩ => hn g a b)
    · have h3 := z_go k1 (by omega) hc
      have nx : ¬ (k ≠ e ∧ hd V k e = true ∧ ∃ j, j < cn V k ∧ br (kq V w (ic V k j)) x (V 19 (5 * k + j)) = true) → wl_X10_breaksOthers_3 f n S (A 11 0) (z e) (z w) x (z (k + 1)) := fun hk => by
        refine ih (k + 1) (by omega) (by omega) (fun g hg => ?_)
        by_cases h : g = k
        · rw [h]; exact hk
        · exact hn g (by omega)
      rw [z_eq (by omega) (by omega)]
      refine ⟨fun a => ?_, fun a => ⟨_, p11_16 R, o27 R (by decide), v27 R (by decide) (show k < 8 by omega) (by omega), ?_⟩⟩
      · rw [z_s]
        exact nx (fun h => h.1 a)
      · rw [r27 R m (k := 16) (by decide) (show k < 8 by omega) (by omega)]
        refine ⟨fun b => ?_, fun b => t_areAtOnce R m II h3 he (fun c => ?_) (fun c => ?_)⟩
        · rw [z_s]
          exact nx (fun h => b (of_decide_eq_true h.2.1).1)
        · have hh : hd V k e = true := hd_t ⟨b, of_decide_eq_true c⟩
          refine ⟨fun _ => ⟨cn V k + 1, l_breaks2 R m II J hw h3 (fun d => h1 ⟨k, h3, a, hh, d⟩) (fun d => nx (fun h => d h.2.2)) _ 0 (Nat.zero_le _) (by omega) (fun j hj => absurd hj (by omega))⟩, fun hc => absurd hc (by decide)⟩
        · refine ⟨fun hc => absurd rfl hc, fun _ => ?_⟩
          rw [z_s]
          refine nx (fun h => ?_)
          have x1 := (of_decide_eq_true h.2.1).2
          rw [show ao V k e = true from decide_eq_true x1] at c
          cases c
theorem t_breaks (R : Rep S A U M) (m : MV V M) (I : I1 V) (J : I2 V) {e w : Nat} {x : Int32} {f : Int32 → St → Prop} (he : e < nE V) (hw : w < nW V) (h1 : agx V e w x → f 1 S) (h0 : ¬ agx V e w x → f 0 S) : w_X10_breaksOthers S (A 11 0) (z e) (z w) x f := by
  unfold w_X10_breaksOthers
  exact ⟨nE V + 1, l_breaks R m I J he hw h1 h0 _ 0 (Nat.zero_le _) (by omega) (fun j hj => absurd hj (by omega))⟩
theorem l_mtaken2 (R : Rep S A U M) (m : MV V M) (I : I1 V) (J : I2 V) {g : Nat} {w d x3 acc : Int32} {f : Int32 → St → Prop} {kk : St → Nat → Int32 → Int32 → Int32 → Int32 → Int32 → Prop} (hg : g < nE V)
    (h0 : kk S (A 11 0) w d x3 (acc + sp V g w) (z (g + 1))) : ∀ n k, k ≤ cn V g → cn V g < k + n → wl_X10_takenOn_60 f kk n S (A 11 0) w d x3 (acc + su k (fun k => if V 19 (5 * g + k) = w then V 6 (ic V g k) + V 15 g else 0)) (z g) (z k) := by
  obtain ⟨_, _, _, _, b1, b2, b3, b4⟩ := I
  obtain ⟨j1, j2, j3⟩ := J g hg
  intro n
  induction n with
  | zero => intro k h1 h2; omega
  | succ n ih =>
    intro k k1 k2
    unfold wl_X10_takenOn_60
    refine ⟨o11 R, _, p11_17 R, o27 R (by decide), v27 R (by decide) (show g < 8 by omega) (by omega), ?_⟩
    rw [r27 R m (k := 17) (by decide) (show g < 8 by omega) (by omega), j1]
    refine ⟨fun hc => ?_, fun hc => ?_⟩
    · have h3 := z_ex k1 (by omega) hc
      subst h3
      rw [z_s]
      exact h0
    · have h3 := z_go k1 (by omega) hc
      obtain ⟨y1, y2, _⟩ := j3 k h3
      have h4 := ih (k + 1) (by omega) (by omega)
      simp only [su] at h4
      rw [show (5 : Int32) = z 5 from rfl, z_mul, z_add]
      refine ⟨_, p11_19 R, o27 R (by decide), v27 R (by decide) (show 5 * g + k < 40 by omega) (by omega), ?_⟩
      rw [r27 R m (k := 19) (by decide) (show 5 * g + k < 40 by omega) (by omega)]
      refine ⟨fun a => ?_, fun a => ⟨_, p11_6 R, _, p11_18 R, o27 R (by decide), v27 R (by decide) (show 5 * g + k < 40 by omega) (by omega), o27 R (by decide), ?_⟩⟩
      · rw [if_neg a] at h4
        rw [z_s, Int32.add_assoc]
        exact h4
      · rw [if_pos a] at h4
        rw [r27 R m (k := 18) (by decide) (show 5 * g + k < 40 by omega) (by omega), y1]
        refine ⟨v27 R (by decide) (show ic V g k < 12 by omega) (by omega), _, p11_15 R, o27 R (by decide), v27 R (by decide) (show g < 8 by omega) (by omega), ?_⟩
        rw [r27 R m (k := 6) (by decide) (show ic V g k < 12 by omega) (by omega), r27 R m (k := 15) (by decide) (show g < 8 by omega) (by omega), z_s, Int32.add_assoc]
        exact h4
theorem l_mtaken (R : Rep S A U M) (m : MV V M) (I : I1 V) (J : I2 V) {w d x3 : Int32} {b : Nat} {f : Int32 → St → Prop} (hb : ∀ g, g < nE V → (z g = x3 ↔ g = b)) (hf : f (tkb V w d b) S) : ∀ n k, k ≤ nE V → nE V < k + n → wl_X10_takenOn_6 f n S (A 11 0) w d x3 (su k (fun g => if g = b then 0 else if ho V g d then sp V g w else 0)) (z k) := by
  have II := I
  obtain ⟨_, _, _, i27', b1, b2, b3, b4⟩ := I
  intro n
  induction n with
  | zero => intro k h1 h2; omega
  | succ n ih =>
    intro k k1 k2
    unfold wl_X10_takenOn_6
    refine ⟨o11 R, ?_⟩
    rw [r11 R m (by decide) (by decide), i27']
    refine ⟨fun hc => ?_, fun hc => ?_⟩
    · have h3 := z_ex k1 (by omega) hc
      subst h3
      exact hf
    · have h3 := z_go k1 (by omega) hc
      have h4 := ih (k + 1) (by omega) (by omega)
      simp only [su] at h4
      have skip : (k = b ∨ ho V k d = false) → wl_X10_takenOn_6 f n S (A 11 0) w d x3 (su k (fun g => if g = b then 0 else if ho V g d then sp V g w else 0)) (z k + 1) := fun hx => by
        rw [z_s]
        rcases hx with hx | hx
        · rw [if_pos hx, Int32.add_zero] at h4
          exact h4
        · rw [hx] at h4
          by_cases e : k = b
          · rw [if_pos e, Int32.add_zero] at h4
            exact h4
          · rw [if_neg e, if_neg (by decide), Int32.add_zero] at h4
            exact h4
      rw [hb k h3]
      refine ⟨fun a => skip (Or.inl a), fun a => ⟨_, p11_16 R, o27 R (by decide), v27 R (by decide) (show k < 8 by omega) (by omega), ?_⟩⟩
      rw [r27 R m (k := 16) (by decide) (show k < 8 by omega) (by omega)]
      refine ⟨fun c => skip (Or.inr (ho_f fun h => c h.1)), fun c => ⟨_, p11_13 R, o27 R (by decide), v27 R (by decide) (show k < 8 by omega) (by omega), _, p11_14 R, o27 R (by decide), v27 R (by decide) (show k < 8 by omega) (by omega), ?_⟩⟩
      rw [r27 R m (k := 13) (by decide) (show k < 8 by omega) (by omega), r27 R m (k := 14) (by decide) (show k < 8 by omega) (by omega)]
      refine t_in (fun x y => ?_) (fun x => ?_)
      · have hh : ho V k d = true := ho_t ⟨c, x, y⟩
        refine ⟨fun _ => ⟨cn V k + 1, ?_⟩, fun hc => absurd hc (by decide)⟩
        have h5 := l_mtaken2 (f := f) (kk := wl_X10_takenOn_6 f n) (w := w) (d := d) (x3 := x3) (acc := su k (fun g => if g = b then 0 else if ho V g d then sp V g w else 0)) R m II J h3 (by
          rw [if_neg a, hh, if_pos rfl] at h4
          exact h4) (cn V k + 1) 0 (Nat.zero_le _) (by omega)
        simp only [su, Int32.add_zero] at h5
        exact h5
      · exact ⟨fun hc => absurd rfl hc, fun _ => skip (Or.inr (ho_f fun h => x ⟨h.2.1, h.2.2⟩))⟩
theorem t_taken (R : Rep S A U M) (m : MV V M) (I : I1 V) (J : I2 V) {w d x3 : Int32} {b : Nat} {f : Int32 → St → Prop} (hb : ∀ g, g < nE V → (z g = x3 ↔ g = b)) (hf : f (tkb V w d b) S) : w_X10_takenOn S (A 11 0) w d x3 f := by
  unfold w_X10_takenOn
  exact ⟨nE V + 1, l_mtaken R m I J hb hf _ 0 (Nat.zero_le _) (by omega)⟩
end MH
