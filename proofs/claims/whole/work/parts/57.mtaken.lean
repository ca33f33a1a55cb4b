/-! ===== the reference's taken and share and canHang ===== -/
section MT
variable {S : St} {A : Nat → Nat → Nat} {V U : VV} {M : MM} {G : (Nat → Nat → Int64) × (Nat → Nat → UInt64)}
theorem none_b (I : I1 V) : ∀ g, g < nE V → (z g = -1 ↔ g = nE V) := fun g hg => by
  have := I.2.2.2.2.2.2.2
  exact ⟨fun h => absurd h (z_nm (by omega)), fun h => absurd h (by omega)⟩
theorem tkb_all {w d : Int32} : tkb V w d (nE V) = tk V w d := su_c (fun g hg => if_neg (by omega))
theorem t_takenX (R : Rq G S A U M) (m : MV V M) (I : I1 V) (J : I2 V) {x y : Int32} {f : Int32 → St → Prop} (hf : ∀ k r S' M', spU V x y k → (k = 0 → r = tk V x y) → Rq G S' A U M' → MV V M' → Kf M M' k → f r S') : w_X10_taken S (A 11 0) x y f := by
  unfold w_X10_taken
  refine ⟨o11 R.1, t_isOff R m I (fun S' M' h a b c => ?_) (fun k S' M' h hk a b c => ?_)⟩
  · refine ⟨fun _ => ⟨o11 a.1, t_taken a.1 b I J (none_b I) ?_⟩, fun hc => absurd rfl hc⟩
    rw [tkb_all]
    exact hf 0 _ _ _ h (fun _ => rfl) a b c
  · exact ⟨fun hc => absurd hc (by decide), fun _ => hf k 0 _ _ h (fun e => by omega) a b c⟩
theorem t_shareX (R : Rq G S A U M) (m : MV V M) (I : I1 V) (J : I2 V) (Q : I4 V) {x y : Int32} {f : UInt32 → St → Prop} (hf : ∀ k r S' M', spU V x y k → (k = 0 → r = shr V x y) → Rq G S' A U M' → MV V M' → Kf M M' k → f r S') : w_X10_share S (A 11 0) x y f := by
  have bR4 := I.2.2.2.2.1
  unfold w_X10_share
  refine ⟨o11 R.1, t_isOff R m I (fun S' M' h a b c => ?_) (fun k S' M' h hk a b c => ?_)⟩
  · refine ⟨fun _ => ⟨o11 a.1, t_taken a.1 b I J (none_b I) ?_⟩, fun hc => absurd rfl hc⟩
    rw [tkb_all]
    have hx : ix (2 * nR V) x := by
      rcases h with ⟨_, h⟩ | ⟨_, _, h⟩ | ⟨h, _, _⟩
      · exact absurd h (by decide)
      · exact absurd h (by decide)
      · exact h
    obtain ⟨n, e1, e2, e3⟩ := len_z I Q hx
    have hv := shr_ok (y := y) I J Q hx
    have h2 := hf 0 _ _ _ h (fun _ => rfl) a b c
    have hle : ¬ len V x ≤ 0 := by
      rw [e1]
      intro h
      have := (z_le (show n < 2147483648 by omega) (show 0 < 2147483648 by decide)).1 h
      omega
    unfold shr at hv h2
    rw [if_neg hle] at hv h2
    obtain ⟨i, hi, rfl⟩ := hx
    have e4 : len V (z i) = V 2 i := by
      unfold len
      rw [if_neg, z_c (by omega)]
      rintro (h | h)
      · exact absurd h (Int32.not_lt.mpr (z_nn (show i < 2147483648 by omega)))
      · have := (z_le (by omega) (by omega)).1 h
        omega
    rw [e4] at hv h2
    refine ⟨o11 a.1, _, p11_2 a.1, o27 a.1 (by decide), v27 a.1 (by decide) (show i < 8 by omega) (by omega), ?_⟩
    rw [r27 a.1 b (k := 2) (by decide) (show i < 8 by omega) (by omega)]
    exact ⟨hv, h2⟩
  · exact ⟨fun hc => absurd hc (by decide), fun _ => hf k 0 _ _ h (fun e => by omega) a b c⟩
theorem t_canHang (R : Rq G S A U M) (m : MV V M) (I : I1 V) {x y : Int32} {f : Int32 → St → Prop} (hf : ∀ k r S' M', spCH V x y k r → Rq G S' A U M' → MV V M' → Kf M M' k → f r S') : w_X10_canHang S (A 11 0) x y f := by
  unfold w_X10_canHang w_X10_checked
  obtain ⟨a, b, c, d⟩ := thrw R m 1
  obtain ⟨a0, b0, c0, d0⟩ := thrw R m 0
  have hne : ¬ sI (setI S (A 11 0) 23 (z 1)) (A 11 0) 23 = 0 := by rw [d]; decide
  refine ⟨o11 R.1, t_isWork R.1 m I (fun h => ⟨fun hc => absurd hc (by decide), fun _ => ⟨o11 R.1, t_isRoom R.1 m I (fun h2 => ?_) (fun h2 => ?_)⟩⟩) (fun h => ?_)⟩
  · refine ⟨fun hc => absurd hc (by decide), fun _ => ⟨o11 R.1, fun hc => absurd hc (by decide), fun _ => ⟨o11 R.1, fun hc => absurd d0 hc, fun _ => ?_⟩⟩⟩
    obtain ⟨i, hi, rfl⟩ := h
    obtain ⟨j, hj, rfl⟩ := h2
    refine ⟨o11 a0.1, t_hangsWhere a0.1 b0 I hi hj (fun hs => ⟨fun hc => absurd hc (by decide), fun _ => ?_⟩) (fun hs => ⟨fun _ => ?_, fun hc => absurd rfl hc⟩)⟩
    · exact hf 0 1 _ _ (Or.inr ⟨i, j, hi, hj, rfl, rfl, rfl, by rw [if_pos hs]⟩) a0 b0 c0
    · exact hf 0 0 _ _ (Or.inr ⟨i, j, hi, hj, rfl, rfl, rfl, by rw [if_neg (by rw [hs]; decide)]⟩) a0 b0 c0
  · exact ⟨fun _ => ⟨o11 R.1, fun _ => ⟨o11 R.1, fun _ => hf 1 0 _ _ (Or.inl ⟨fun q => h2 q.2, rfl⟩) a b c, fun hc => absurd hc hne⟩, fun hc => absurd rfl hc⟩, fun hc => absurd rfl hc⟩
  · exact ⟨fun _ => ⟨o11 R.1, fun _ => ⟨o11 R.1, fun _ => hf 1 0 _ _ (Or.inl ⟨fun q => h q.1, rfl⟩) a b c, fun hc => absurd hc hne⟩, fun hc => absurd rfl hc⟩, fun hc => absurd rfl hc⟩
end MT
