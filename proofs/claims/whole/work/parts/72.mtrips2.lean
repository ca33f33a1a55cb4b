/-! ===== the reference's trips, asked ===== -/
section MR
variable {A : Nat → Nat → Nat} {V U : VV} {G : (Nat → Nat → Int64) × (Nat → Nat → UInt64)}
theorem vq_all {e l : Nat} (n : Nat) : ∀ j, j < n → ow V (ic V e j) = some l → ∃ i, i < (vq V e l n).1 ∧ (vq V e l n).2 i = V 10 (ic V e j) := by
  induction n with
  | zero => intro j hj; omega
  | succ n ih =>
    intro j hj ho
    simp only [vq]
    by_cases h : ow V (ic V e n) = some l
    · rw [if_pos h]
      dsimp only
      by_cases e1 : j = n
      · exact ⟨_, Nat.lt_succ_self _, by rw [upd_s, e1]⟩
      · obtain ⟨i, a, b⟩ := ih j (by omega) ho
        exact ⟨i, by omega, by rw [upd_n _ _ (by omega)]; exact b⟩
    · rw [if_neg h]
      have e1 : j ≠ n := fun e1 => h (by rw [← e1]; exact ho)
      exact ih j (by omega) ho
theorem lim_vq {e l : Nat} : lim V e l (cn V e) ↔ ∀ i, i < (vq V e l (cn V e)).1 → (vq V e l (cn V e)).2 i ≤ V 3 l := by
  constructor
  · intro h i hi
    obtain ⟨j, a, b, c⟩ := vq_val (V := V) (e := e) (l := l) _ i hi
    rw [c]
    exact h j a b
  · intro h j hj ho
    obtain ⟨i, a, b⟩ := vq_all (cn V e) j hj ho
    rw [← b]
    exact h i a
theorem l_mtr (I : I1 V) {c l : Nat} {q2 : Nat → Int32} {M0 : MM} {f : Int32 → St → Prop} (hc : c ≤ 5) (hl : l < nL V)
    (h0 : (∀ i, i < c → q2 i ≤ V 3 l) → ∀ S' M', Rq G S' A U M' → MV V M' → Kf M0 M' 0 → (∀ i, i < c → M' 27 21 i = q2 i) → w_X10_leastTrips S' (A 11 0) (z c) (V 3 l) (fun r S => f r S))
    (h1 : (¬ ∀ i, i < c → q2 i ≤ V 3 l) → ∀ S' M', Rq G S' A U M' → MV V M' → Kf M0 M' 3 → f 0 S') :
    ∀ n k S M t, k ≤ c → c < k + n → Rq G S A U M → MV V M → Kf M0 M t → (∀ i, i < c → M 27 21 i = q2 i) → (((∀ i, i < k → q2 i ≤ V 3 l) ∧ t = 0) ∨ ((¬ ∀ i, i < k → q2 i ≤ V 3 l) ∧ t = 3)) → wl_X10_trips_54 f n S (A 11 0) (z l) (z c) (z k) := by
  obtain ⟨_, _, _, _, b1, b2, b3, b4⟩ := I
  intro n
  induction n with
  | zero => intro k S M t k1 k2; omega
  | succ n ih =>
    intro k S M t k1 k2 R m kf hv ht
    have et : sI S (A 11 0) 23 = z t := by rw [i11 R.1]; exact kf.2
    unfold wl_X10_trips_54
    refine ⟨fun hx => ⟨o11 R.1, ?_⟩, fun hx => ⟨o11 R.1, _, p11_21 R.1, o27 R.1 (by decide), v27 R.1 (by decide) (show k < 5 by have := z_go k1 (by omega) hx; omega) (by omega), _, p11_3 R.1, o27 R.1 (by decide), v27 R.1 (by decide) (show l < 4 by omega) (by omega), ?_⟩⟩
    · have h3 := z_ex k1 (by omega) hx
      subst h3
      rw [et]
      rcases ht with ⟨a, rfl⟩ | ⟨a, rfl⟩
      · refine ⟨fun _ => ⟨_, p11_3 R.1, o27 R.1 (by decide), v27 R.1 (by decide) (show l < 4 by omega) (by omega), ?_⟩, fun hc => absurd (by decide) hc⟩
        rw [r27 R.1 m (k := 3) (by decide) (show l < 4 by omega) (by omega)]
        exact h0 a S M R m kf hv
      · exact ⟨fun hc => absurd hc (by decide), fun _ => h1 a S M R m kf⟩
    · have h3 := z_go k1 (by omega) hx
      rw [tq21 R.1 (show k < 5 by omega), hv k h3, r27 R.1 m (k := 3) (by decide) (show l < 4 by omega) (by omega), et]
      refine ⟨fun a => ?_, fun a => ?_⟩
      · obtain ⟨a2, b2', c2, d2⟩ := thrw R m t
        dsimp only
        rw [z_s]
        refine ih (k + 1) _ _ t (by omega) (by omega) a2 b2' (kf2 kf) (fun i hi => by rw [up3_t _ _ (by decide)]; exact hv i hi) ?_
        rcases ht with ⟨x, y⟩ | ⟨x, y⟩
        · refine Or.inl ⟨fun i hi => ?_, y⟩
          by_cases h : i = k
          · rw [h]; exact a
          · exact x i (by omega)
        · exact Or.inr ⟨fun h => x (fun i hi => h i (by omega)), y⟩
      · obtain ⟨a2, b2', c2, d2⟩ := thrw R m 3
        dsimp only
        rw [z_s]
        exact ih (k + 1) _ _ 3 (by omega) (by omega) a2 b2' (kf2 kf) (fun i hi => by rw [up3_t _ _ (by decide)]; exact hv i hi) (Or.inr ⟨fun h => a (h k (by omega)), rfl⟩)
theorem t_trips {S : St} {M : MM} (R : Rq G S A U M) (m : MV V M) (I : I1 V) (J : I2 V) (P : I3 V) (Q : I4 V) {x y : Int32} {f : Int32 → St → Prop} (hf : ∀ k r S' M', spTr V x y k r → Rq G S' A U M' → MV V M' → Kf M M' k → f r S') : w_X10_trips S (A 11 0) x y f := by
  have II := I
  obtain ⟨i24, i25, i26, i27, b1, b2, b3, b4⟩ := I
  unfold w_X10_trips
  refine ⟨o11 R.1, t_isExhibition R.1 m II (fun hx => ⟨fun _ => ⟨o11 R.1, ?_⟩, fun hc => absurd hc (by decide)⟩) (fun hx => ⟨fun hc => absurd rfl hc, fun _ => ⟨o11 R.1, ?_⟩⟩)⟩
  · obtain ⟨e, he, rfl⟩ := hx
    rw [r11 R.1 m (k := 25) (by decide) (by decide), i25]
    refine t_in (fun p1 p2 => ⟨fun _ => ⟨o11 R.1, ?_⟩, fun hc => absurd hc (by decide)⟩) (fun p => ⟨fun hc => absurd rfl hc, fun _ => ⟨o11 R.1, ?_⟩⟩)
    · obtain ⟨l, hl, rfl⟩ := ix_in (show nL V < 2147483648 by omega) p1 p2
      obtain ⟨a, b, c, d⟩ := thrw R m 0
      refine ⟨fun _ => ?_, fun hc => absurd (le0 d) hc⟩
      have hc5 := (J e he).2.1
      have hq5 := Nat.le_trans (vq_le (V := V) (e := e) (l := l) (cn V e)) hc5
      refine t_layL II J P he hl a b (fun S' M' a2 tl hv => ⟨(vq V e l (cn V e)).1 + 1, ?_⟩)
      refine l_mtr (M0 := M) (q2 := (vq V e l (cn V e)).2) II hq5 hl (fun hlim S2 M2 a3 b3' c3 hv3 => ?_) (fun hlim S2 M2 a3 b3' c3 => ?_) _ 0 S' M' 0 (Nat.zero_le _) (by omega) a2 (tl.mv b) (Lf.kf c tl.lf) hv (Or.inl ⟨fun i hi => absurd hi (by omega), rfl⟩)
      · have hlm := lim_vq.2 hlim
        have VRv : VR V := ⟨fun w hw => (Q.2.2.2.1 w hw).2, fun l hl => (Q.2.2.1 l hl).1⟩
        have hok := vn_ok VRv hl (fun k hk => ((J e he).2.2 k hk).2.1) hlm
        obtain ⟨y1, y2, y3⟩ := inr_nat (a := 1) (b := 9999) (by decide) (VRv.2 l hl) (by decide)
        rw [y1]
        refine t_least (v := vn V e l) a3 hq5 (fun i hi => (hok i hi).2.2) y3 (fun i hi => (hok i hi).2.1) (fun i hi => by rw [hv3 i hi]; exact (hok i hi).1) (fun S3 M3 q a4 tl4 hm hq => ?_)
        exact hf 0 (z q) S3 M3 (Or.inr ⟨e, he, rfl, Or.inr ⟨l, hl, rfl, Or.inr ⟨hlm, rfl, q, hq, hm, rfl⟩⟩⟩) a4 (tl4.mv b3') (Lf.kf c3 tl4.lf)
      · exact hf 3 0 S2 M2 (Or.inr ⟨e, he, rfl, Or.inr ⟨l, hl, rfl, Or.inl ⟨fun h => hlim (lim_vq.1 h), rfl⟩⟩⟩) a3 b3' c3
    · obtain ⟨a, b, c, d⟩ := thrw R m 2
      exact ⟨fun hc => absurd hc (gt0 d (by decide)), fun _ => hf 2 0 _ _ (Or.inr ⟨e, he, rfl, Or.inl ⟨ix_out (show nL V < 2147483648 by omega) p, rfl⟩⟩) a b c⟩
  · obtain ⟨a, b, c, d⟩ := thrw R m 1
    exact ⟨fun hc => absurd hc (gt0 d (by decide)), fun _ => hf 1 0 _ _ (Or.inl ⟨hx, rfl⟩) a b c⟩
theorem t_tripsT {S : St} {M : MM} (R : Rq G S A U M) (m : MV V M) (I : I1 V) (J : I2 V) (P : I3 V) (Q : I4 V) {x y : Int32} {f : Int32 → St → Prop} (hf : ∀ k r S' M', spTr V x y k r → Rq G S' A U M' → MV V M' → Kf M M' k → f r S') : w_X10_tripsByTrying S (A 11 0) x y f := by
  unfold w_X10_tripsByTrying
  exact ⟨o11 R.1, t_trips R m I J P Q hf⟩
end MR
