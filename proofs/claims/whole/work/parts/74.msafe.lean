/-! ===== the reference's isSafe ===== -/
theorem br_sym {k x y : Int32} : br k x y = br k y x := by
  unfold br
  congr 1
  exact propext ⟨fun h => h.elim (fun a => Or.inl ⟨a.1, a.2.symm⟩) (fun a => Or.inr ⟨a.1, a.2.symm⟩), fun h => h.elim (fun a => Or.inl ⟨a.1, a.2.symm⟩) (fun a => Or.inr ⟨a.1, a.2.symm⟩)⟩
def rgt (V : VV) (e : Nat) : Prop := swh V e ∧ ∀ k, k < cn V e → (¬ ∃ g, g < nE V ∧ g ≠ e ∧ away V g (ic V e k) (V 13 e - tr V (ic V e k)) (V 14 e + tr V (ic V e k))) ∧ ¬ agx V e (ic V e k) (V 19 (5 * e + k)) ∧ ∀ j, j < k → br (kq V (ic V e k) (ic V e j)) (V 19 (5 * e + k)) (V 19 (5 * e + j)) = false
section MS
variable {S : St} {A : Nat → Nat → Nat} {V U : VV} {M : MM}
theorem kq_sym (I : I1 V) (J : I2 V) (Q : I6 V) {i j : Nat} (hi : i < nW V) (hj : j < nW V) : kq V i j = kq V j i := by
  have b3 := I.2.2.2.2.2.2.1
  unfold kq
  rw [Q.2.1 i j (by omega) (by omega)]
theorem kq_dia (I : I1 V) (Q : I6 V) {i : Nat} (hi : i < nW V) : kq V i i = 110 := by
  have b3 := I.2.2.2.2.2.2.1
  unfold kq
  rw [if_pos (Q.2.2.1 i (by omega))]
/-- right by the reference's words and by the class's -/
theorem rgt_iff (I : Iv V) {e : Nat} (he : e < nE V) (hs : V 16 e = 112) : rgt V e ↔ (swh V e ∧ kap V e) ∧ ata V e := by
  have hd0 : hd V e e = true := hd_t ⟨hs, (I.2.2.2.1.2.2.2.2 e he).2.2.2, (I.2.2.2.1.2.2.2.2 e he).2.2.2⟩
  have hj := fun k (hk : k < cn V e) => ((I.2.1 e he).2.2 k hk).2.1
  constructor
  · rintro ⟨h1, h2⟩
    refine ⟨⟨h1, fun k hk => ?_⟩, fun k hk => ⟨fun g hg hne ha => (h2 k hk).1 ⟨g, hg, hne, ha⟩, (I.2.2.2.2.1.2.2 e he hs k hk).2⟩⟩
    rintro ⟨g, hg, hh, j, hj2, hb⟩
    by_cases hge : g = e
    · subst hge
      rcases Nat.lt_trichotomy j k with h | h | h
      · rw [(h2 k hk).2.2 j h] at hb
        cases hb
      · rw [h, kq_dia I.1 I.2.2.2.2.2.1 (hj k hk), brk_f (fun x => x.elim (fun y => absurd y.1 (by decide)) (fun y => absurd y.1 (by decide)))] at hb
        cases hb
      · rw [kq_sym I.1 I.2.1 I.2.2.2.2.2.1 (hj k hk) (hj j hj2), br_sym, (h2 j hj2).2.2 k h] at hb
        cases hb
    · exact (h2 k hk).2.1 ⟨g, hg, hge, hh, j, hj2, hb⟩
  · rintro ⟨⟨h1, h2⟩, h3⟩
    refine ⟨h1, fun k hk => ⟨fun ⟨g, a, b, c⟩ => (h3 k hk).1 g a b c, fun ⟨g, a, b, c, d⟩ => h2 k hk ⟨g, a, c, d⟩, fun j hjk => ?_⟩⟩
    cases hb : br (kq V (ic V e k) (ic V e j)) (V 19 (5 * e + k)) (V 19 (5 * e + j)) with
    | false => rfl
    | true => exact absurd ⟨e, he, hd0, j, by omega, hb⟩ (h2 k hk)
theorem l_right2 (R : Rep S A U M) (m : MV V M) (I : I1 V) (J : I2 V) {e k : Nat} {f : Int32 → St → Prop} {k12 : St → Nat → Int32 → Int32 → Prop} (he : e < nE V) (hk : k < cn V e)
    (h1 : (∀ j, j < k → br (kq V (ic V e k) (ic V e j)) (V 19 (5 * e + k)) (V 19 (5 * e + j)) = false) → k12 S (A 11 0) (z e) (z (k + 1))) (h0 : (¬ ∀ j, j < k → br (kq V (ic V e k) (ic V e j)) (V 19 (5 * e + k)) (V 19 (5 * e + j)) = false) → f 0 S) : ∀ n j, j ≤ k → k < j + n → (∀ i, i < j → br (kq V (ic V e k) (ic V e i)) (V 19 (5 * e + k)) (V 19 (5 * e + i)) = false) → wl_X10_isRight_70 f k12 n S (A 11 0) (z e) (z k) (z (ic V e k)) (V 19 (5 * e + k)) (z j) := by
  obtain ⟨_, _, _, _, b1, b2, b3, b4⟩ := I
  obtain ⟨j1, j2, j3⟩ := J e he
  obtain ⟨x1, x2, _⟩ := j3 k hk
  intro n
  induction n with
  | zero => intro k h1 h2; omega
  | succ n ih =>
    intro j k1 k2 hn
    unfold wl_X10_isRight_70
    refine ⟨fun hc => ?_, fun hc => ?_⟩
    · have h3 := z_ex k1 (by omega) hc
      subst h3
      rw [z_s]
      exact h1 hn
    · have h3 := z_go k1 (by omega) hc
      obtain ⟨y1, y2, _⟩ := j3 j (by omega)
      rw [show (5 : Int32) = z 5 from rfl, z_mul, z_add]
      refine ⟨o11 R, _, p11_12 R, _, p11_18 R, o27 R (by decide), v27 R (by decide) (show 5 * e + j < 40 by omega) (by omega), o27 R (by decide), ?_⟩
      rw [r27 R m (k := 18) (by decide) (show 5 * e + j < 40 by omega) (by omega), y1, show (12 : Int32) = z 12 from rfl, z_mul, z_add]
      refine ⟨v27 R (by decide) (show 12 * ic V e k + ic V e j < 144 by omega) (by omega), _, p11_19 R, o27 R (by decide), v27 R (by decide) (show 5 * e + j < 40 by omega) (by omega), ?_⟩
      rw [r27 R m (k := 12) (by decide) (show 12 * ic V e k + ic V e j < 144 by omega) (by omega), r27 R m (k := 19) (by decide) (show 5 * e + j < 40 by omega) (by omega)]
      refine t_isBroken (fun a => ?_) (fun a => ?_)
      · rw [kq_br] at a
        refine ⟨fun hc => absurd hc (by decide), fun _ => h0 (fun h => ?_)⟩
        rw [h j h3] at a
        cases a
      · rw [kq_br] at a
        refine ⟨fun _ => ?_, fun hc => absurd rfl hc⟩
        rw [z_s]
        refine ih (j + 1) (by omega) (by omega) (fun i hi => ?_)
        by_cases h : i = j
        · rw [h]; exact a
        · exact hn i (by omega)
theorem l_right (R : Rep S A U M) (m : MV V M) (I : Iv V) {e : Nat} {f : Int32 → St → Prop} (he : e < nE V) (hsw : swh V e) (h1 : rgt V e → f 1 S) (h0 : ¬ rgt V e → f 0 S) : ∀ n k, k ≤ cn V e → cn V e < k + n → (∀ i, i < k → (¬ ∃ g, g < nE V ∧ g ≠ e ∧ away V g (ic V e i) (V 13 e - tr V (ic V e i)) (V 14 e + tr V (ic V e i))) ∧ ¬ agx V e (ic V e i) (V 19 (5 * e + i)) ∧ ∀ j, j < i → br (kq V (ic V e i) (ic V e j)) (V 19 (5 * e + i)) (V 19 (5 * e + j)) = false) → wl_X10_isRight_12 f n S (A 11 0) (z e) (z k) := by
  obtain ⟨II, J, P, Q, _⟩ := I
  have b4 := II.2.2.2.2.2.2.2
  obtain ⟨j1, j2, j3⟩ := J e he
  intro n
  induction n with
  | zero => intro k h1 h2; omega
  | succ n ih =>
    intro k k1 k2 hn
    unfold wl_X10_isRight_12
    refine ⟨o11 R, _, p11_17 R, o27 R (by decide), v27 R (by decide) (show e < 8 by omega) (by omega), ?_⟩
    rw [r27 R m (k := 17) (by decide) (show e < 8 by omega) (by omega), j1]
    refine ⟨fun hc => ?_, fun hc => ?_⟩
    · have h3 := z_ex k1 (by omega) hc
      subst h3
      exact h1 ⟨hsw, hn⟩
    · have h3 := z_go k1 (by omega) hc
      obtain ⟨x1, x2, _⟩ := j3 k h3
      rw [show (5 : Int32) = z 5 from rfl, z_mul, z_add]
      refine ⟨_, p11_18 R, o27 R (by decide), v27 R (by decide) (show 5 * e + k < 40 by omega) (by omega), _, p11_19 R, o27 R (by decide), v27 R (by decide) (show 5 * e + k < 40 by omega) (by omega), ?_⟩
      rw [r27 R m (k := 18) (by decide) (show 5 * e + k < 40 by omega) (by omega), x1, r27 R m (k := 19) (by decide) (show 5 * e + k < 40 by omega) (by omega)]
      refine t_elsewhere R m II J P Q he x2 (fun a => ?_) (fun a => ?_)
      · exact ⟨fun _ => h0 (fun h => (h.2 k h3).1 a), fun hc => absurd hc (by decide)⟩
      · refine ⟨fun hc => absurd rfl hc, fun _ => ⟨o11 R, t_breaks R m II J he x2 (fun b => ?_) (fun b => ?_)⟩⟩
        · exact ⟨fun hc => absurd hc (by decide), fun _ => h0 (fun h => (h.2 k h3).2.1 b)⟩
        · refine ⟨fun _ => ⟨k + 1, l_right2 R m II J he h3 (fun c => ?_) (fun c => h0 (fun h => c (h.2 k h3).2.2)) _ 0 (Nat.zero_le _) (by omega) (fun i hi => absurd hi (by omega))⟩, fun hc => absurd rfl hc⟩
          refine ih (k + 1) (by omega) (by omega) (fun i hi => ?_)
          by_cases h : i = k
          · rw [h]; exact ⟨a, b, c⟩
          · exact hn i (by omega)
theorem t_right (R : Rep S A U M) (m : MV V M) (I : Iv V) {e : Nat} {f : Int32 → St → Prop} (he : e < nE V) (hs : V 16 e = 112) (h1 : rgt V e → f 1 S) (h0 : ¬ rgt V e → f 0 S) : w_X10_isRight S (A 11 0) (z e) f := by
  unfold w_X10_isRight
  refine ⟨o11 R, t_spoiled R m I.1 I.2.1 he (fun k hk => (I.2.2.2.2.1.2.2 e he hs k hk).1) (fun a => ?_) (fun a => ?_)⟩
  · exact ⟨fun hc => absurd hc (by decide), fun _ => h0 (fun h => a h.1)⟩
  · exact ⟨fun _ => ⟨cn V e + 1, l_right R m I he a h1 h0 _ 0 (Nat.zero_le _) (by omega) (fun i hi => absurd hi (by omega))⟩, fun hc => absurd rfl hc⟩
theorem l_mfits2 (R : Rep S A U M) (m : MV V M) (I : I1 V) (J : I2 V) {w : Nat} {f : Int32 → St → Prop} {k63 : St → Nat → Int32 → Prop} (hw : w < 2 * nR V) (h1 : (∀ d, d < 100 → tk V (z w) (z d) ≤ V 2 w) → k63 S (A 11 0) (z (w + 1))) (h0 : (¬ ∀ d, d < 100 → tk V (z w) (z d) ≤ V 2 w) → f 0 S) : ∀ n d, d ≤ 100 → 100 < d + n → (∀ i, i < d → tk V (z w) (z i) ≤ V 2 w) → wl_X10_isSafe_75 f k63 n S (A 11 0) (z w) (z d) := by
  have II := I
  obtain ⟨_, _, _, _, b1, b2, b3, b4⟩ := I
  intro n
  induction n with
  | zero => intro k h1 h2; omega
  | succ n ih =>
    intro d k1 k2 hn
    unfold wl_X10_isSafe_75
    refine ⟨fun hc => ?_, fun hc => ?_⟩
    · have h3 : d = 100 := z_ex (n := 100) k1 (by decide) hc
      subst h3
      rw [z_s]
      exact h1 hn
    · have h3 : d < 100 := z_go (n := 100) k1 (by decide) hc
      refine ⟨o11 R, t_taken R m II J (none_b II) ⟨o11 R, _, p11_2 R, o27 R (by decide), v27 R (by decide) (show w < 8 by omega) (by omega), ?_⟩⟩
      rw [tkb_all, r27 R m (k := 2) (by decide) (show w < 8 by omega) (by omega)]
      refine ⟨fun a => ?_, fun a => h0 (fun h => a (h d h3))⟩
      rw [z_s]
      refine ih (d + 1) (by omega) (by omega) (fun i hi => ?_)
      by_cases h : i = d
      · rw [h]; exact a
      · exact hn i (by omega)
theorem l_mfits (R : Rep S A U M) (m : MV V M) (I : I1 V) (J : I2 V) {f : Int32 → St → Prop} (h1 : fit V → f 1 S) (h0 : ¬ fit V → f 0 S) : ∀ n w, w ≤ 2 * nR V → 2 * nR V < w + n → (∀ i, i < w → ∀ d, d < 100 → tk V (z i) (z d) ≤ V 2 i) → wl_X10_isSafe_63 f n S (A 11 0) (z w) := by
  have II := I
  obtain ⟨i24, _, _, _, b1, b2, b3, b4⟩ := I
  intro n
  induction n with
  | zero => intro k h1 h2; omega
  | succ n ih =>
    intro w k1 k2 hn
    unfold wl_X10_isSafe_63
    refine ⟨o11 R, ?_⟩
    rw [r11 R m (by decide) (by decide), i24, show (2 : Int32) = z 2 from rfl, z_mul]
    refine ⟨fun hc => ?_, fun hc => ?_⟩
    · have h3 := z_ex k1 (by omega) hc
      subst h3
      exact h1 hn
    · have h3 := z_go k1 (by omega) hc
      refine ⟨101, l_mfits2 R m II J h3 (fun a => ?_) (fun a => h0 (fun h => a (h w h3))) _ 0 (Nat.zero_le _) (by omega) (fun i hi => absurd hi (by omega))⟩
      refine ih (w + 1) (by omega) (by omega) (fun i hi => ?_)
      by_cases h : i = w
      · rw [h]; exact a
      · exact hn i (by omega)
end MS
section MU
variable {A : Nat → Nat → Nat} {V U : VV} {G : (Nat → Nat → Int64) × (Nat → Nat → UInt64)}
def sft (V : VV) : Prop := (∀ e, e < nE V → (V 16 e = 112 → rgt V e) ∧ (V 16 e = 119 → nopl V e)) ∧ fit V
theorem sft_iff (I : Iv V) : sft V ↔ safe V := by
  constructor
  · rintro ⟨h1, h2⟩
    exact ⟨fun e he hs => ((rgt_iff I he hs).1 ((h1 e he).1 hs)).1, h2, fun e he hs => ((rgt_iff I he hs).1 ((h1 e he).1 hs)).2, fun e he hs => (h1 e he).2 hs⟩
  · rintro ⟨h1, h2, h3, h4⟩
    exact ⟨fun e he => ⟨fun hs => (rgt_iff I he hs).2 ⟨h1 e he hs, h3 e he hs⟩, fun hs => h4 e he hs⟩, h2⟩
theorem l_safe (I : Iv V) {M0 : MM} {f : Int32 → St → Prop} (h1 : sft V → ∀ S' M', Rq G S' A U M' → MV V M' → Kf M0 M' 0 → f 1 S') (h0 : ¬ sft V → ∀ S' M', Rq G S' A U M' → MV V M' → Kf M0 M' 0 → f 0 S') : ∀ n k S M, k ≤ nE V → nE V < k + n → Rq G S A U M → MV V M → Kf M0 M 0 → (∀ e, e < k → (V 16 e = 112 → rgt V e) ∧ (V 16 e = 119 → nopl V e)) → wl_X10_isSafe_7 f n S (A 11 0) (z k) := by
  have i27 := I.1.2.2.2.1
  have b1 := I.1.2.2.2.2.1
  have b4 := I.1.2.2.2.2.2.2.2
  intro n
  induction n with
  | zero => intro k S M h1 h2; omega
  | succ n ih =>
    intro k S M k1 k2 R m kf hn
    unfold wl_X10_isSafe_7
    refine ⟨o11 R.1, ?_⟩
    rw [r11 R.1 m (by decide) (by decide), i27]
    refine ⟨fun hc => ?_, fun hc => ?_⟩
    · have h3 := z_ex k1 (by omega) hc
      subst h3
      exact ⟨2 * nR V + 1, l_mfits R.1 m I.1 I.2.1 (fun a => h1 ⟨hn, a⟩ S M R m kf) (fun a => h0 (fun h => a h.2) S M R m kf) _ 0 (Nat.zero_le _) (by omega) (fun i hi => absurd hi (by omega))⟩
    · have h3 := z_go k1 (by omega) hc
      have e16 := r27 R.1 m (k := 16) (by decide) (show k < 8 by omega) (by omega)
      have nx : ∀ S' M', Rq G S' A U M' → MV V M' → Kf M0 M' 0 → (V 16 k = 112 → rgt V k) → (V 16 k = 119 → nopl V k) → wl_X10_isSafe_7 f n S' (A 11 0) (z k + 1) := fun S' M' R' m' kf' a b => by
        rw [z_s]
        refine ih (k + 1) S' M' (by omega) (by omega) R' m' kf' (fun i hi => ?_)
        by_cases h : i = k
        · rw [h]; exact ⟨a, b⟩
        · exact hn i (by omega)
      have tail : (V 16 k = 112 → rgt V k) → wj_X10_isSafe_34 f (wl_X10_isSafe_7 f n) S (A 11 0) (z k) := fun hr => by
        unfold wj_X10_isSafe_34
        refine ⟨o11 R.1, _, p11_16 R.1, o27 R.1 (by decide), v27 R.1 (by decide) (show k < 8 by omega) (by omega), ?_⟩
        rw [e16]
        refine ⟨fun a => nx S M R m kf hr (fun h => absurd h a), fun a => ?_⟩
        have hne : V 16 k ≠ 112 := by rw [a]; decide
        unfold w_X10_plans
        refine ⟨cn V k + 1, l_mplans I.1 I.2.1 I.2.2.1 I.2.2.2.1 h3 (I.2.2.2.2.1.2.1 k h3 (Or.inr a)) R m (fun ha S2 M2 p R2 t2 hp ht => ?_) (fun hx S2 M2 R2 t2 => ?_) _ 0 (Nat.zero_le _) (by omega) (fun j hj => absurd hj (by omega))⟩
        · exact ⟨fun hc => absurd hc (by decide), fun _ => h0 (fun h => nopl_pln ((h.1 k h3).2 a) ⟨p, ha, Fi_iff I.1 I.2.1 I.2.2.2.1 h3 hne hp⟩) S2 M2 R2 (t2.mv m) (Kf.tf kf t2)⟩
        · exact ⟨fun _ => nx S2 M2 R2 (t2.mv m) (Kf.tf kf t2) hr (fun _ => fun ⟨p, ha, hv⟩ => hx ⟨p, ha, (Va_iff I.1 I.2.1 I.2.2.2.1 h3 hne).2 hv⟩), fun hc => absurd rfl hc⟩
      refine ⟨_, p11_16 R.1, o27 R.1 (by decide), v27 R.1 (by decide) (show k < 8 by omega) (by omega), ?_⟩
      rw [e16]
      refine ⟨fun a => tail (fun h => absurd h a), fun a => t_right R.1 m I h3 a (fun b => ?_) (fun b => ?_)⟩
      · exact ⟨fun hc => absurd hc (by decide), fun _ => tail (fun _ => b)⟩
      · exact ⟨fun _ => h0 (fun h => b ((h.1 k h3).1 a)) S M R m kf, fun hc => absurd rfl hc⟩
theorem t_isSafe {S : St} {M : MM} (R : Rq G S A U M) (m : MV V M) (I : Iv V) {f : Int32 → St → Prop} (h1 : safe V → ∀ S' M', Rq G S' A U M' → MV V M' → Kf M M' 0 → f 1 S') (h0 : ¬ safe V → ∀ S' M', Rq G S' A U M' → MV V M' → Kf M M' 0 → f 0 S') : w_X10_isSafe S (A 11 0) f := by
  obtain ⟨a, b, c, d⟩ := thrw R m 0
  unfold w_X10_isSafe
  exact ⟨o11 R.1, nE V + 1, l_safe I (M0 := M) (fun h => h1 ((sft_iff I).1 h)) (fun h => h0 (fun x => h ((sft_iff I).2 x))) _ 0 _ _ (Nat.zero_le _) (by omega) a b c (fun e he => absurd he (by omega))⟩
end MU
