/-! ===== more of the reference's small answers ===== -/
theorem st_cof {V : VV} (h : ST V) {e : Nat} (he : e < nE V) : cof (V 16 e) = V 16 e := by
  rcases h e he with h | h | h | h <;> rw [h] <;> rfl
section MT
variable {S : St} {A : Nat → Nat → Nat} {V U : VV} {M : MM} {G : (Nat → Nat → Int64) × (Nat → Nat → UInt64)}
theorem t_stateOf (R : Rq G S A U M) (m : MV V M) (I : I1 V) (T : ST V) {x : Int32} {f : Int32 → St → Prop} (hf : ∀ k r S' M', spSt V x k r → Rq G S' A U M' → MV V M' → Kf M M' k → f r S') : w_X10_stateOf S (A 11 0) x f := by
  have bE8 := I.2.2.2.2.2.2.2
  unfold w_X10_stateOf w_X10_checked
  refine ⟨o11 R.1, t_isExhibition R.1 m I (fun h => ⟨o11 R.1, fun hc => absurd hc (by decide), fun _ => ⟨o11 R.1, ?_⟩⟩) (fun h => ⟨o11 R.1, fun _ => ⟨o11 R.1, ?_⟩, fun hc => absurd rfl hc⟩)⟩
  · obtain ⟨e, he, rfl⟩ := h
    obtain ⟨a, b, c, d⟩ := thrw R m 0
    show (sI (setI S (A 11 0) 23 (z 0)) (A 11 0) 23 ≤ 0 → _) ∧ _
    refine ⟨fun _ => ⟨o11 a.1, _, p11_16 a.1, o27 a.1 (by decide), v27 a.1 (by decide) (show e < 8 by omega) (by omega), ?_⟩, fun hc => absurd (le0 d) hc⟩
    have e1 := r27 a.1 b (k := 16) (by decide) (show e < 8 by omega) (by omega)
    show narrow .char (.int (cof (sI (setI S (A 11 0) 23 (z 0)) (A 27 16) (Int32.toNatClampNeg (z e))))) = .int (cof (sI (setI S (A 11 0) 23 (z 0)) (A 27 16) (Int32.toNatClampNeg (z e)))) ∧ f (cof (sI (setI S (A 11 0) 23 (z 0)) (A 27 16) (Int32.toNatClampNeg (z e)))) (setI S (A 11 0) 23 (z 0))
    rw [e1, st_cof T he]
    exact ⟨nar_st T he, hf 0 _ _ _ (Or.inr ⟨e, he, rfl, rfl, rfl⟩) a b c⟩
  · obtain ⟨a, b, c, d⟩ := thrw R m 1
    show (sI (setI S (A 11 0) 23 (z 1)) (A 11 0) 23 ≤ 0 → _) ∧ _
    exact ⟨fun hc => absurd hc (gt0 d (by decide)), fun _ => hf 1 97 _ _ (Or.inl ⟨h, rfl⟩) a b c⟩
theorem kf2 {M M' : MM} {i k : Nat} (h : Kf M M' i) : Kf M (up3 M' 11 0 23 (z k)) k := ⟨fun t a b => by rw [up3_t M' _ a]; exact h.1 t a b, by rw [up3_s, upd_s]⟩
theorem t_wallOf (R : Rq G S A U M) (m : MV V M) (I : I1 V) (J : I2 V) {x y : Int32} {f : Int32 → St → Prop} (hf : ∀ k r S' M', spWl V x y k r → Rq G S' A U M' → MV V M' → Kf M M' k → f r S') : w_X10_wallOf S (A 11 0) x y f := by
  have bE8 := I.2.2.2.2.2.2.2
  unfold w_X10_wallOf
  refine ⟨o11 R.1, t_hasNo R m I J (fun e q S' M' he ex hq ey a b c => ?_) (fun h S' M' a b c => ?_) (fun e S' M' he ex hn a b c => ?_)⟩
  · subst ex ey
    have hc5 := (J e he).2.1
    refine ⟨fun _ => ⟨o11 a.1, _, p11_16 a.1, o27 a.1 (by decide), v27 a.1 (by decide) (show e < 8 by omega) (by omega), ?_⟩, fun hc => absurd rfl hc⟩
    rw [r27 a.1 b (k := 16) (by decide) (show e < 8 by omega) (by omega)]
    unfold wj_X10_wallOf_28
    refine ⟨fun hs => ⟨o11 a.1, ?_⟩, fun hs => ⟨o11 a.1, ?_⟩⟩
    · obtain ⟨a2, b2, c2, d2⟩ := thrw a b 3
      refine ⟨o11 a2.1, fun hc => absurd hc (gt0 d2 (by decide)), fun _ => ?_⟩
      exact hf 3 0 _ _ (Or.inr ⟨e, he, rfl, Or.inr ⟨q, hq, rfl, Or.inl ⟨hs, rfl⟩⟩⟩) a2 b2 (kf2 c)
    · obtain ⟨a2, b2, c2, d2⟩ := thrw a b 0
      refine ⟨o11 a2.1, fun _ => ⟨_, p11_19 a2.1, o27 a2.1 (by decide), ?_⟩, fun hc => absurd (le0 d2) hc⟩
      have e1 := r27 a2.1 b2 (k := 19) (by decide) (show 5 * e + q < 40 by omega) (by omega)
      have e2 := hf 0 _ _ _ (Or.inr ⟨e, he, rfl, Or.inr ⟨q, hq, rfl, Or.inr ⟨hs, rfl, rfl⟩⟩⟩) a2 b2 (kf2 c)
      rw [show (5 : Int32) = z 5 from rfl, z_mul, z_add]
      exact ⟨v27 a2.1 (by decide) (show 5 * e + q < 40 by omega) (by omega), e1.symm ▸ e2⟩
  · exact ⟨fun hc => absurd hc (by decide), fun _ => hf 1 0 _ _ (Or.inl ⟨h, rfl⟩) a b c⟩
  · exact ⟨fun hc => absurd hc (by decide), fun _ => hf 2 0 _ _ (Or.inr ⟨e, he, ex, Or.inl ⟨hn, rfl⟩⟩) a b c⟩
theorem t_canTake (R : Rq G S A U M) (m : MV V M) (I : I1 V) (J : I2 V) (P : I3 V) (Q : I4 V) {x y : Int32} {f : Int32 → St → Prop} (hf : ∀ k r S' M', spCT V x y k r → Rq G S' A U M' → MV V M' → Kf M M' k → f r S') : w_X10_canTake S (A 11 0) x y f := by
  have bE8 := I.2.2.2.2.2.2.2
  unfold w_X10_canTake
  refine ⟨o11 R.1, t_hasNo R m I J (fun e q S' M' he ex hq ey a b c => ?_) (fun h S' M' a b c => ?_) (fun e S' M' he ex hn a b c => ?_)⟩
  · subst ex ey
    obtain ⟨j1, hc5, j3⟩ := J e he
    obtain ⟨y1, y2, _⟩ := j3 q hq
    refine ⟨fun _ => ⟨o11 a.1, _, p11_16 a.1, o27 a.1 (by decide), v27 a.1 (by decide) (show e < 8 by omega) (by omega), ?_⟩, fun hc => absurd rfl hc⟩
    rw [r27 a.1 b (k := 16) (by decide) (show e < 8 by omega) (by omega)]
    unfold wj_X10_canTake_28
    refine ⟨fun hs => ⟨o11 a.1, ?_⟩, fun hs => ⟨o11 a.1, ?_⟩⟩
    · obtain ⟨a2, b2, c2, d2⟩ := thrw a b 0
      refine ⟨o11 a2.1, fun hc => absurd d2 hc, fun _ => ⟨_, p11_18 a2.1, o27 a2.1 (by decide), ?_⟩⟩
      have e1 := r27 a2.1 b2 (k := 18) (by decide) (show 5 * e + q < 40 by omega) (by omega)
      rw [y1] at e1
      rw [show (5 : Int32) = z 5 from rfl, z_mul, z_add]
      refine ⟨v27 a2.1 (by decide) (show 5 * e + q < 40 by omega) (by omega), ?_⟩
      show w_X10_takes (setI S' (A 11 0) 23 (z 0)) (A 11 0) (z e) (sI (setI S' (A 11 0) 23 (z 0)) (A 27 18) (Int32.toNatClampNeg (z (5 * e + q)))) _
      rw [e1]
      refine t_takes a2.1 b2 I J P Q he y2 (fun h => ⟨fun hc => absurd hc (by decide), fun _ => ?_⟩) (fun h => ⟨fun _ => ?_, fun hc => absurd rfl hc⟩)
      · exact hf 0 1 _ _ (Or.inr ⟨e, he, rfl, Or.inr ⟨q, hq, rfl, Or.inr ⟨hs, rfl, Or.inl ⟨h, rfl⟩⟩⟩⟩) a2 b2 (kf2 c)
      · exact hf 0 0 _ _ (Or.inr ⟨e, he, rfl, Or.inr ⟨q, hq, rfl, Or.inr ⟨hs, rfl, Or.inr ⟨h, rfl⟩⟩⟩⟩) a2 b2 (kf2 c)
    · obtain ⟨a2, b2, c2, d2⟩ := thrw a b 3
      have hne : ¬ sI (setI S' (A 11 0) 23 (z 3)) (A 11 0) 23 = 0 := by rw [d2]; decide
      refine ⟨o11 a2.1, fun _ => ?_, fun hc => absurd hc hne⟩
      exact hf 3 0 _ _ (Or.inr ⟨e, he, rfl, Or.inr ⟨q, hq, rfl, Or.inl ⟨hs, rfl⟩⟩⟩) a2 b2 (kf2 c)
  · exact ⟨fun hc => absurd hc (by decide), fun _ => hf 1 0 _ _ (Or.inl ⟨h, rfl⟩) a b c⟩
  · exact ⟨fun hc => absurd hc (by decide), fun _ => hf 2 0 _ _ (Or.inr ⟨e, he, ex, Or.inl ⟨hn, rfl⟩⟩) a b c⟩
theorem t_isOff (R : Rq G S A U M) (m : MV V M) (I : I1 V) {x y : Int32} {f : Int32 → St → Prop} (h0 : ∀ S' M', spU V x y 0 → Rq G S' A U M' → MV V M' → Kf M M' 0 → f 0 S') (h1 : ∀ k S' M', spU V x y k → 0 < k → Rq G S' A U M' → MV V M' → Kf M M' k → f 1 S') : w_X10_isOff S (A 11 0) x y f := by
  have bR4 := I.2.2.2.2.1
  unfold w_X10_isOff
  rw [r11 R.1 m (by decide) (by decide), I.1, show (2 : Int32) = z 2 from rfl, z_mul]
  refine ⟨o11 R.1, t_in (fun a b => ?_) (fun a => ⟨fun hc => absurd rfl hc, fun _ => ⟨o11 R.1, ?_⟩⟩)⟩
  · have hx := ix_in (show 2 * nR V < 2147483648 by omega) a b
    refine ⟨fun _ => t_in (fun c d => ⟨fun _ => ⟨o11 R.1, ?_⟩, fun hc => absurd hc (by decide)⟩) (fun c => ⟨fun hc => absurd rfl hc, fun _ => ⟨o11 R.1, ?_⟩⟩), fun hc => absurd hc (by decide)⟩
    · obtain ⟨a2, b2, c2, d2⟩ := thrw R m 0
      exact ⟨fun _ => h0 _ _ (Or.inr (Or.inr ⟨hx, ⟨c, d⟩, rfl⟩)) a2 b2 c2, fun hc => absurd (le0 d2) hc⟩
    · obtain ⟨a2, b2, c2, d2⟩ := thrw R m 2
      exact ⟨fun hc => absurd hc (gt0 d2 (by decide)), fun _ => h1 2 _ _ (Or.inr (Or.inl ⟨hx, c, rfl⟩)) (by decide) a2 b2 c2⟩
  · obtain ⟨a2, b2, c2, d2⟩ := thrw R m 1
    exact ⟨fun hc => absurd hc (gt0 d2 (by decide)), fun _ => h1 1 _ _ (Or.inl ⟨ix_out (by omega) a, rfl⟩) (by decide) a2 b2 c2⟩
end MT
