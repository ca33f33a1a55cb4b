/-! ===== the reference's hanging, awayFor, insured, meanWorks ===== -/
section MT
variable {S : St} {A : Nat → Nat → Nat} {V U : VV} {M : MM} {G : (Nat → Nat → Int64) × (Nat → Nat → UInt64)}
theorem l_hanging2 (R : Rep S A U M) (m : MV V M) (I : I1 V) (J : I2 V) {g : Nat} {w d acc : Int32} {f : Int32 → St → Prop} {kk : St → Nat → Int32 → Int32 → Int32 → Int32 → Prop} (hg : g < nE V)
    (h0 : kk S (A 11 0) w d (acc + if ho V g d then co V g w else 0) (z (g + 1))) : ∀ n k, k ≤ cn V g → cn V g < k + n → wl_X10_hanging_28 f kk n S (A 11 0) w d (acc + if ho V g d then su k (fun k => if V 19 (5 * g + k) = w then 1 else 0) else 0) (z g) (z k) := by
  obtain ⟨_, _, _, _, b1, b2, b3, b4⟩ := I
  obtain ⟨j1, j2, j3⟩ := J g hg
  intro n
  induction n with
  | zero => intro k h1 h2; omega
  | succ n ih =>
    intro k k1 k2
    unfold wl_X10_hanging_28
    refine ⟨o11 R, _, p11_17 R, o27 R (by decide), v27 R (by decide) (show g < 8 by omega) (by omega), ?_⟩
    rw [r27 R m (k := 17) (by decide) (show g < 8 by omega) (by omega), j1]
    refine ⟨fun hc => ?_, fun hc => ?_⟩
    · have h3 := z_ex k1 (by omega) hc
      subst h3
      rw [z_s]
      exact h0
    · have h3 := z_go k1 (by omega) hc
      have h4 := ih (k + 1) (by omega) (by omega)
      simp only [su] at h4
      refine ⟨_, p11_16 R, o27 R (by decide), v27 R (by decide) (show g < 8 by omega) (by omega), ?_⟩
      rw [r27 R m (k := 16) (by decide) (show g < 8 by omega) (by omega), Int32.add_zero, z_s]
      refine ⟨fun a => ?_, fun a => ⟨_, p11_13 R, o27 R (by decide), v27 R (by decide) (show g < 8 by omega) (by omega), _, p11_14 R, o27 R (by decide), v27 R (by decide) (show g < 8 by omega) (by omega), ?_⟩⟩
      · have hf' : ho V g d = false := ho_f (fun h => a h.1)
        rw [hf', if_neg (by decide)] at h4 ⊢
        exact h4
      · rw [r27 R m (k := 13) (by decide) (show g < 8 by omega) (by omega), r27 R m (k := 14) (by decide) (show g < 8 by omega) (by omega)]
        refine t_in (fun x y => ?_) (fun x => ?_)
        · have ht : ho V g d = true := ho_t ⟨a, x, y⟩
          rw [ht, if_pos rfl] at h4 ⊢
          rw [show (5 : Int32) = z 5 from rfl, z_mul, z_add]
          refine ⟨fun hc => absurd hc (by decide), fun _ => ⟨o11 R, _, p11_19 R, o27 R (by decide), v27 R (by decide) (show 5 * g + k < 40 by omega) (by omega), ?_⟩⟩
          rw [r27 R m (k := 19) (by decide) (show 5 * g + k < 40 by omega) (by omega)]
          refine ⟨fun b => ?_, fun b => ?_⟩
          · rw [if_neg b, Int32.add_zero] at h4
            exact h4
          · rw [if_pos b] at h4
            rw [Int32.add_assoc]
            exact h4
        · have hf' : ho V g d = false := ho_f (fun h => x ⟨h.2.1, h.2.2⟩)
          rw [hf', if_neg (by decide)] at h4 ⊢
          exact ⟨fun _ => h4, fun hc => absurd rfl hc⟩
theorem l_hanging (R : Rep S A U M) (m : MV V M) (I : I1 V) (J : I2 V) {w d : Int32} {f : Int32 → St → Prop} (hf : f (hg V w d) S) : ∀ n k, k ≤ nE V → nE V < k + n → wl_X10_hanging_16 f n S (A 11 0) w d (su k (fun g => if ho V g d then co V g w else 0)) (z k) := by
  have II := I
  obtain ⟨_, _, _, i27', b1, b2, b3, b4⟩ := I
  intro n
  induction n with
  | zero => intro k h1 h2; omega
  | succ n ih =>
    intro k k1 k2
    unfold wl_X10_hanging_16
    refine ⟨o11 R, ?_⟩
    rw [r11 R m (by decide) (by decide), i27']
    refine ⟨fun hc => ?_, fun hc => ?_⟩
    · have h3 := z_ex k1 (by omega) hc
      subst h3
      exact hf
    · have h3 := z_go k1 (by omega) hc
      have h4 := ih (k + 1) (by omega) (by omega)
      simp only [su] at h4
      have h5 := l_hanging2 (f := f) (kk := wl_X10_hanging_16 f n) (acc := su k (fun g => if ho V g d then co V g w else 0)) R m II J h3 h4 (cn V k + 1) 0 (Nat.zero_le _) (by omega)
      simp only [su, ite_self, Int32.add_zero] at h5
      exact ⟨cn V k + 1, h5⟩
theorem t_hanging (R : Rq G S A U M) (m : MV V M) (I : I1 V) (J : I2 V) {x y : Int32} {f : Int32 → St → Prop} (hf : ∀ k r S' M', spU V x y k → (k = 0 → r = hg V x y) → Rq G S' A U M' → MV V M' → Kf M M' k → f r S') : w_X10_hanging S (A 11 0) x y f := by
  unfold w_X10_hanging
  refine ⟨o11 R.1, t_isOff R m I (fun S' M' h a b c => ?_) (fun k S' M' h hk a b c => ?_)⟩
  · exact ⟨fun _ => ⟨nE V + 1, l_hanging a.1 b I J (hf 0 _ _ _ h (fun _ => rfl) a b c) _ 0 (Nat.zero_le _) (by omega)⟩, fun hc => absurd rfl hc⟩
  · exact ⟨fun hc => absurd hc (by decide), fun _ => hf k 0 _ _ h (fun e => by omega) a b c⟩
theorem l_away (I : I1 V) (J : I2 V) (P : I3 V) {M0 : MM} {w : Nat} {y : Int32} {f : Int32 → St → Prop} (hw : w < nW V) (R : Rq G S A U M) (m : MV V M) (kf : Kf M0 M 3)
    (h1 : ∀ g S' M', g < nE V → away V g w y y → (∀ j, j < g → ¬ away V j w y y) → Rq G S' A U M' → MV V M' → Kf M0 M' 0 → f (z g) S') (h0 : (∀ g, g < nE V → ¬ away V g w y y) → f 0 S) : ∀ n k, k ≤ nE V → nE V < k + n → (∀ j, j < k → ¬ away V j w y y) → wl_X10_awayFor_34 f n S (A 11 0) (z w) y (z k) := by
  have II := I
  obtain ⟨_, _, _, i27', b1, b2, b3, b4⟩ := I
  have et : sI S (A 11 0) 23 = 3 := by rw [i11 R.1]; exact kf.2
  intro n
  induction n with
  | zero => intro k h1 h2; omega
  | succ n ih =>
    intro k k1 k2 hn
    unfold wl_X10_awayFor_34
    refine ⟨o11 R.1, ?_⟩
    rw [r11 R.1 m (by decide) (by decide), i27', et]
    refine ⟨fun hc => ?_, fun hc => ⟨fun hx => absurd rfl hx, fun _ => ?_⟩⟩
    · have h3 := z_ex k1 (by omega) hc
      subst h3
      exact h0 hn
    · have h3 := z_go k1 (by omega) hc
      have nx : ¬ away V k w y y → wl_X10_awayFor_34 f n S (A 11 0) (z w) y (z k + 1) := fun hb => by
        rw [z_s]
        refine ih (k + 1) (by omega) (by omega) (fun i hi => ?_)
        by_cases h : i = k
        · rw [h]; exact hb
        · exact hn i (by omega)
      refine ⟨_, p11_16 R.1, o27 R.1 (by decide), v27 R.1 (by decide) (show k < 8 by omega) (by omega), ?_⟩
      rw [r27 R.1 m (k := 16) (by decide) (show k < 8 by omega) (by omega)]
      refine ⟨fun a => nx (fun h => a h.1), fun a => t_includes R.1 m II J h3 hw (fun b => ⟨fun hc => absurd hc (by decide), fun _ => ⟨o11 R.1, _, p11_13 R.1, o27 R.1 (by decide), v27 R.1 (by decide) (show k < 8 by omega) (by omega), ?_⟩⟩) (fun b => ⟨fun _ => nx (fun h => b h.2.2.2), fun hc => absurd rfl hc⟩)⟩
      rw [r27 R.1 m (k := 13) (by decide) (show k < 8 by omega) (by omega)]
      refine t_travelOf R.1 m II P hw ⟨o11 R.1, _, p11_14 R.1, o27 R.1 (by decide), v27 R.1 (by decide) (show k < 8 by omega) (by omega), ?_⟩
      rw [r27 R.1 m (k := 14) (by decide) (show k < 8 by omega) (by omega)]
      refine t_travelOf R.1 m II P hw (t_in (fun c d => ⟨fun _ => ⟨o11 R.1, ?_⟩, fun hc => absurd hc (by decide)⟩) (fun c => ⟨fun hc => absurd rfl hc, fun _ => nx (fun h => c ⟨h.2.1, h.2.2.1⟩)⟩))
      obtain ⟨a2, b2', c2, d2⟩ := thrw R m 0
      exact h1 k _ _ h3 ⟨a, c, d, b⟩ hn a2 b2' (kf2 kf)
theorem l_away0 (R : Rep S A U M) (m : MV V M) (I : I1 V) {x y : Int32} {t : Nat} {f : Int32 → St → Prop} (ht : sI S (A 11 0) 23 = z t) (h3 : ¬ z t = 3) (h0 : f 0 S) : wl_X10_awayFor_34 f 1 S (A 11 0) x y 0 := by
  unfold wl_X10_awayFor_34
  refine ⟨o11 R, ?_⟩
  rw [ht]
  exact ⟨fun _ => h0, fun _ => ⟨fun _ => h0, fun hc => absurd hc h3⟩⟩
theorem t_awayFor (R : Rq G S A U M) (m : MV V M) (I : I1 V) (J : I2 V) (P : I3 V) {x y : Int32} {f : Int32 → St → Prop} (hf : ∀ k r S' M', spAw V x y k r → Rq G S' A U M' → MV V M' → Kf M M' k → f r S') : w_X10_awayFor S (A 11 0) x y f := by
  unfold w_X10_awayFor
  refine ⟨o11 R.1, t_isWork R.1 m I (fun hx => ⟨fun _ => ?_, fun hc => absurd hc (by decide)⟩) (fun hx => ⟨fun hc => absurd rfl hc, fun _ => ⟨o11 R.1, 1, ?_⟩⟩)⟩
  · obtain ⟨w, hw, rfl⟩ := hx
    refine t_in (fun p1 p2 => ⟨fun _ => ⟨o11 R.1, nE V + 1, ?_⟩, fun hc => absurd hc (by decide)⟩) (fun p => ⟨fun hc => absurd rfl hc, fun _ => ⟨o11 R.1, 1, ?_⟩⟩)
    · obtain ⟨a, b, c, d⟩ := thrw R m 3
      refine l_away I J P hw a b c (fun g S' M' hg ha hj a2 b2 c2 => ?_) (fun hn => ?_) _ 0 (Nat.zero_le _) (by omega) (fun j hj => absurd hj (by omega))
      · exact hf 0 (z g) S' M' (Or.inr ⟨w, hw, rfl, Or.inr ⟨⟨p1, p2⟩, Or.inr ⟨g, hg, ha, hj, rfl, rfl⟩⟩⟩) a2 b2 c2
      · exact hf 3 0 _ _ (Or.inr ⟨w, hw, rfl, Or.inr ⟨⟨p1, p2⟩, Or.inl ⟨hn, rfl⟩⟩⟩) a b c
    · obtain ⟨a, b, c, d⟩ := thrw R m 2
      exact l_away0 a.1 b I d (by decide) (hf 2 0 _ _ (Or.inr ⟨w, hw, rfl, Or.inl ⟨p, rfl⟩⟩) a b c)
  · obtain ⟨a, b, c, d⟩ := thrw R m 1
    exact l_away0 a.1 b I d (by decide) (hf 1 0 _ _ (Or.inl ⟨hx, rfl⟩) a b c)
theorem l_mean (I : I1 V) (J : I2 V) (R : Rq G S A U M) (m : MV V M) {f : UInt64 → St → Prop} (hf : ∀ k r S' M', spMW V k r → Rq G S' A U M' → MV V M' → Kf M M' k → f r S') : ∀ n k, k ≤ nE V → nE V < k + n → wl_X10_meanWorks_6 f n S (A 11 0) (su k (fun e => if V 16 e = 112 then z (cn V e) else 0)) (su k (fun e => if V 16 e = 112 then 1 else 0)) (z k) := by
  have II := I
  obtain ⟨_, _, _, i27', b1, b2, b3, b4⟩ := I
  intro n
  induction n with
  | zero => intro k h1 h2; omega
  | succ n ih =>
    intro k k1 k2
    unfold wl_X10_meanWorks_6
    refine ⟨o11 R.1, ?_⟩
    rw [r11 R.1 m (by decide) (by decide), i27']
    refine ⟨fun hc => ?_, fun hc => ?_⟩
    · have h3 := z_ex k1 (by omega) hc
      subst h3
      unfold w_X10_checked
      show (pes V ≤ 0 → _) ∧ (¬ pes V ≤ 0 → _)
      obtain ⟨p1, p2⟩ := pes_z II
      refine ⟨fun hx => ⟨fun _ => ⟨o11 R.1, ?_⟩, fun hc => absurd rfl hc⟩, fun hx => ⟨fun hc => absurd hc (by decide), fun _ => ⟨o11 R.1, ?_⟩⟩⟩
      · have h0 : pes V = 0 := by
          rw [p1] at hx ⊢
          have := (z_le (a := pen V) (b := 0) (by omega) (by decide)).1 hx
          rw [show pen V = 0 by omega]
          rfl
        obtain ⟨a, b, c, d⟩ := thrw R m 1
        show (sI (setI S (A 11 0) 23 (z 1)) (A 11 0) 23 ≤ 0 → _) ∧ _
        exact ⟨fun hc => absurd hc (gt0 d (by decide)), fun _ => hf 1 0 _ _ (Or.inl ⟨h0, rfl⟩) a b c⟩
      · have h0 : ¬ pes V = 0 := fun h => hx (by rw [h]; decide)
        obtain ⟨a, b, c, d⟩ := thrw R m 0
        show (sI (setI S (A 11 0) 23 (z 0)) (A 11 0) 23 ≤ 0 → _) ∧ _
        exact ⟨fun _ => ⟨mw_ok II J h0, hf 0 _ _ _ (Or.inr ⟨h0, rfl, rfl⟩) a b c⟩, fun hc => absurd (le0 d) hc⟩
    · have h3 := z_go k1 (by omega) hc
      have h4 := ih (k + 1) (by omega) (by omega)
      simp only [su] at h4
      unfold wj_X10_meanWorks_36
      have e16 := r27 R.1 m (k := 16) (by decide) (show k < 8 by omega) (by omega)
      refine ⟨_, p11_16 R.1, o27 R.1 (by decide), v27 R.1 (by decide) (show k < 8 by omega) (by omega), ?_⟩
      rw [e16]
      refine ⟨fun a => ⟨o11 R.1, _, p11_16 R.1, o27 R.1 (by decide), v27 R.1 (by decide) (show k < 8 by omega) (by omega), ?_⟩, fun a => ⟨_, p11_17 R.1, o27 R.1 (by decide), v27 R.1 (by decide) (show k < 8 by omega) (by omega), o11 R.1, _, p11_16 R.1, o27 R.1 (by decide), v27 R.1 (by decide) (show k < 8 by omega) (by omega), ?_⟩⟩
      · rw [e16, z_s]
        rw [if_neg a, if_neg a] at h4
        exact ⟨fun _ => h4, fun hc => absurd hc a⟩
      · rw [e16, z_s, r27 R.1 m (k := 17) (by decide) (show k < 8 by omega) (by omega), (J k h3).1]
        rw [if_pos a, if_pos a] at h4
        exact ⟨fun hc => absurd a hc, fun _ => h4⟩
theorem t_meanWorks (R : Rq G S A U M) (m : MV V M) (I : I1 V) (J : I2 V) {f : UInt64 → St → Prop} (hf : ∀ k r S' M', spMW V k r → Rq G S' A U M' → MV V M' → Kf M M' k → f r S') : w_X10_meanWorks S (A 11 0) f := by
  unfold w_X10_meanWorks
  exact ⟨nE V + 1, l_mean I J R m hf _ 0 (Nat.zero_le _) (by omega)⟩
/-! the insured sum -/
def isk (V : VV) (e k : Nat) : Int64 := match ow V (ic V e k) with
  | none => 0
  | some _ => Int32.toInt64 (V 10 (ic V e k)) * Int32.toInt64 (V 14 e - V 13 e + 1 + 2 * tr V (ic V e k))
theorem isk_ise {e : Nat} : sj (cn V e) (isk V e) = ise V e := by
  unfold ise
  refine congrArg (sj (cn V e)) (funext fun k => ?_)
  unfold isk
  cases ow V (ic V e k) <;> rfl
theorem isk_n {e k : Nat} (h : ow V (ic V e k) = none) : isk V e k = 0 := by
  unfold isk
  rw [h]
theorem isk_s {e k l : Nat} (h : ow V (ic V e k) = some l) : isk V e k = Int32.toInt64 (V 10 (ic V e k)) * Int32.toInt64 (V 14 e - V 13 e + 1 + 2 * tr V (ic V e k)) := by
  unfold isk
  rw [h]
theorem l_ins2 (R : Rep S A U M) (m : MV V M) (I : I1 V) (J : I2 V) (P : I3 V) {g : Nat} {acc : Int64} {f : Int64 → St → Prop} {kk : St → Nat → Int64 → Int32 → Prop} (hg : g < nE V)
    (h0 : kk S (A 11 0) (acc + if V 16 g = 112 then sj (cn V g) (isk V g) else 0) (z (g + 1))) : ∀ n k, k ≤ cn V g → cn V g < k + n → wl_X10_insured_20 f kk n S (A 11 0) (acc + if V 16 g = 112 then sj k (isk V g) else 0) (z g) (z k) := by
  have II := I
  obtain ⟨_, _, _, _, b1, b2, b3, b4⟩ := I
  obtain ⟨j1, j2, j3⟩ := J g hg
  intro n
  induction n with
  | zero => intro k h1 h2; omega
  | succ n ih =>
    intro k k1 k2
    unfold wl_X10_insured_20
    refine ⟨o11 R, _, p11_17 R, o27 R (by decide), v27 R (by decide) (show g < 8 by omega) (by omega), ?_⟩
    rw [r27 R m (k := 17) (by decide) (show g < 8 by omega) (by omega), j1]
    refine ⟨fun hc => ?_, fun hc => ?_⟩
    · have h3 := z_ex k1 (by omega) hc
      subst h3
      rw [z_s]
      exact h0
    · have h3 := z_go k1 (by omega) hc
      have h4 := ih (k + 1) (by omega) (by omega)
      simp only [sj] at h4
      obtain ⟨y1, y2, _⟩ := j3 k h3
      rw [show (5 : Int32) = z 5 from rfl, z_mul, z_add]
      refine ⟨_, p11_18 R, o27 R (by decide), v27 R (by decide) (show 5 * g + k < 40 by omega) (by omega), _, p11_16 R, o27 R (by decide), v27 R (by decide) (show g < 8 by omega) (by omega), ?_⟩
      rw [r27 R m (k := 16) (by decide) (show g < 8 by omega) (by omega), r27 R m (k := 18) (by decide) (show 5 * g + k < 40 by omega) (by omega), y1]
      refine ⟨fun a => ?_, fun a => ⟨_, p11_11 R, o27 R (by decide), v27 R (by decide) (show ic V g k < 12 by omega) (by omega), ?_⟩⟩
      · rw [if_neg a] at h4 ⊢
        rw [z_s]
        exact h4
      · rw [if_pos a] at h4 ⊢
        rw [r27 R m (k := 11) (by decide) (show ic V g k < 12 by omega) (by omega)]
        rcases P (ic V g k) y2 with ⟨x1, x2⟩ | ⟨l, hl, x1, x2⟩
        · have e0 : isk V g k = 0 := isk_n x2
          rw [x1]
          rw [e0, Int64.add_zero] at h4
          refine ⟨fun _ => ?_, fun hc => absurd (by decide) hc⟩
          rw [z_s]
          exact h4
        · have e0 := isk_s x2
          rw [x1]
          refine ⟨fun hc => absurd hc (z_neg (by omega)), fun _ => ⟨_, p11_10 R, o27 R (by decide), v27 R (by decide) (show ic V g k < 12 by omega) (by omega), _, p11_14 R, o27 R (by decide), v27 R (by decide) (show g < 8 by omega) (by omega), _, p11_13 R, o27 R (by decide), v27 R (by decide) (show g < 8 by omega) (by omega), t_travelOf R m II P y2 ?_⟩⟩
          rw [r27 R m (k := 10) (by decide) (show ic V g k < 12 by omega) (by omega), r27 R m (k := 14) (by decide) (show g < 8 by omega) (by omega), r27 R m (k := 13) (by decide) (show g < 8 by omega) (by omega), ← e0, z_s, Int64.add_assoc]
          exact h4
theorem l_ins (R : Rep S A U M) (m : MV V M) (I : I1 V) (J : I2 V) (P : I3 V) {f : Int64 → St → Prop} (hf : f (sj (nE V) (fun e => if V 16 e = 112 then sj (cn V e) (isk V e) else 0)) S) : ∀ n k, k ≤ nE V → nE V < k + n → wl_X10_insured_9 f n S (A 11 0) (sj k (fun e => if V 16 e = 112 then sj (cn V e) (isk V e) else 0)) (z k) := by
  have II := I
  obtain ⟨_, _, _, i27', b1, b2, b3, b4⟩ := I
  intro n
  induction n with
  | zero => intro k h1 h2; omega
  | succ n ih =>
    intro k k1 k2
    unfold wl_X10_insured_9
    refine ⟨o11 R, ?_⟩
    rw [r11 R m (by decide) (by decide), i27']
    refine ⟨fun hc => ?_, fun hc => ?_⟩
    · have h3 := z_ex k1 (by omega) hc
      subst h3
      exact hf
    · have h3 := z_go k1 (by omega) hc
      have h4 := ih (k + 1) (by omega) (by omega)
      simp only [sj] at h4
      have h5 := l_ins2 (f := f) (kk := wl_X10_insured_9 f n) (acc := sj k (fun e => if V 16 e = 112 then sj (cn V e) (isk V e) else 0)) R m II J P h3 h4 (cn V k + 1) 0 (Nat.zero_le _) (by omega)
      simp only [sj, ite_self, Int64.add_zero] at h5
      exact ⟨cn V k + 1, h5⟩
theorem t_insured (R : Rq G S A U M) (m : MV V M) (I : I1 V) (J : I2 V) (P : I3 V) {f : Int64 → St → Prop} (hf : ∀ S' M', Rq G S' A U M' → MV V M' → Kf M M' 0 → f (iss V) S') : w_X10_insured S (A 11 0) f := by
  obtain ⟨a, b, c, d⟩ := thrw R m 0
  have h := hf _ _ a b c
  have e : iss V = sj (nE V) (fun e => if V 16 e = 112 then sj (cn V e) (isk V e) else 0) := by
    unfold iss
    refine congrArg (sj (nE V)) (funext fun e => ?_)
    rw [isk_ise]
  rw [e] at h
  unfold w_X10_insured
  exact ⟨o11 R.1, nE V + 1, l_ins a.1 b I J P h _ 0 (Nat.zero_le _) (by omega)⟩
end MT
