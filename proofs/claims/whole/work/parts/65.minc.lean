/-! ===== the reference includes a work ===== -/
section MT
variable {S : St} {A : Nat → Nat → Nat} {V U : VV} {M : MM} {G : (Nat → Nat → Int64) × (Nat → Nat → UInt64)}
theorem t_include (R : Rq G S A U M) (m : MV V M) (I : I1 V) (J : I2 V) {x y : Int32} {f : Int32 → St → Prop} (hf : ∀ k r V' S' M', spInc V x y k r V' → Rq G S' A U M' → MV V' M' → Kf M M' k → f r S') : w_X10_include S (A 11 0) x y f := by
  have II := I
  obtain ⟨i24, i25, i26, i27, b1, b2, b3, b4⟩ := I
  unfold w_X10_include
  have no : ∀ k : Nat, ¬ z k ≤ 0 → spInc V x y k 0 V → wj_X10_include_60 f S (A 11 0) x y (z k) (A 11 0) := fun k hk h => by
    obtain ⟨a, b, c, d⟩ := thrw R m k
    unfold wj_X10_include_60
    exact ⟨o11 R.1, o11 a.1, fun hc => absurd hc (gt0 d hk), fun _ => hf k 0 V _ _ h a b c⟩
  refine ⟨o11 R.1, t_isExhibition R.1 m II (fun h => ⟨fun _ => ⟨o11 R.1, t_isWork R.1 m II (fun h2 => ⟨fun _ => ⟨o11 R.1, ?_⟩, fun hc => absurd hc (by decide)⟩) (fun h2 => ⟨fun hc => absurd rfl hc, fun _ => ?_⟩)⟩, fun hc => absurd hc (by decide)⟩) (fun h => ⟨fun hc => absurd rfl hc, fun _ => no 1 (by decide) (Or.inl ⟨h, rfl, rfl⟩)⟩)⟩
  · obtain ⟨e, he, rfl⟩ := h
    obtain ⟨w, hw, rfl⟩ := h2
    obtain ⟨j1, j2, j3⟩ := J e he
    have bad : (V 16 e ≠ 100 ∨ 5 ≤ cn V e ∨ has V e w) → wj_X10_include_55 f S (A 11 0) (z e) (z w) (A 11 0) := fun h => no 3 (by decide) (Or.inr ⟨e, he, rfl, Or.inr ⟨w, hw, rfl, Or.inl ⟨h, rfl, rfl⟩⟩⟩)
    refine ⟨_, p11_16 R.1, o27 R.1 (by decide), v27 R.1 (by decide) (show e < 8 by omega) (by omega), ?_⟩
    rw [r27 R.1 m (k := 16) (by decide) (show e < 8 by omega) (by omega)]
    refine ⟨fun hs => bad (Or.inl hs), fun hs => ⟨_, p11_17 R.1, o27 R.1 (by decide), v27 R.1 (by decide) (show e < 8 by omega) (by omega), ?_⟩⟩
    rw [r27 R.1 m (k := 17) (by decide) (show e < 8 by omega) (by omega), j1, show (5 : Int32) = z 5 from rfl, z_eq (by omega) (by decide)]
    refine ⟨fun h5 => bad (Or.inr (Or.inl (by omega))), fun h5 => t_includes R.1 m II J he hw (fun hh => ⟨fun hc => absurd hc (by decide), fun _ => bad (Or.inr (Or.inr hh))⟩) (fun hh => ⟨fun _ => ?_, fun hc => absurd rfl hc⟩)⟩
    unfold wj_X10_include_60
    obtain ⟨a, b, c, d⟩ := thrw R m 0
    refine ⟨o11 R.1, o11 a.1, fun _ => ⟨_, p11_18 a.1, _, p11_17 a.1, o27 a.1 (by decide), v27 a.1 (by decide) (show e < 8 by omega) (by omega), o27 a.1 (by decide), ?_⟩, fun hc => absurd (le0 d) hc⟩
    have e0 := r27 a.1 b (k := 17) (by decide) (show e < 8 by omega) (by omega)
    rw [j1] at e0
    have a2 := R27 (j := 18) (k := 5 * e + cn V e) (v := z w) a (by decide)
    have m2 := MVrow (j := 18) (e := 5 * e + cn V e) (v := z w) b (by decide)
    have e2 := r27 a2.1 m2 (k := 17) (by decide) (show e < 8 by omega) (by omega)
    rw [up2_n _ _ (by decide), j1] at e2
    have a3 := R27 (j := 17) (k := e) (v := z (cn V e + 1)) a2 (by decide)
    have m3 := MVrow (j := 17) (e := e) (v := z (cn V e + 1)) m2 (by decide)
    have e3 := r27 a3.1 m3 (k := 17) (by decide) (show e < 8 by omega) (by omega)
    rw [up2_s, upd_s] at e3
    dsimp only
    rw [show setI S (A 11 0) 23 0 = setI S (A 11 0) 23 (z 0) from rfl, e0, show (5 : Int32) = z 5 from rfl, z_mul, z_add]
    refine ⟨v27 a.1 (by decide) (show 5 * e + cn V e < 40 by omega) (by omega), ?_⟩
    rw [z_c (show 5 * e + cn V e < 2147483648 by omega), e2, z_s]
    rw [z_c (show e < 2147483648 by omega)] at e3 ⊢
    rw [e3]
    exact hf 0 _ _ _ _ (Or.inr ⟨e, he, rfl, Or.inr ⟨w, hw, rfl, Or.inr ⟨hs, by omega, hh, rfl, rfl, rfl⟩⟩⟩) a3 m3 (Lf.kf c ((Lf.up27 _ _ _ _).trans (Lf.up27 _ _ _ _)))
  · obtain ⟨e, he, ex⟩ := h
    exact no 2 (by decide) (Or.inr ⟨e, he, ex, Or.inl ⟨h2, rfl, rfl⟩⟩)
end MT
