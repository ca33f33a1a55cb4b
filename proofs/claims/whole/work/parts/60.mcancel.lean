/-! ===== the reference cancels and requests ===== -/
section MT
variable {S : St} {A : Nat → Nat → Nat} {V U : VV} {M : MM} {G : (Nat → Nat → Int64) × (Nat → Nat → UInt64)}
theorem MV16 (m : MV V M) {e : Nat} {v : Int32} : MV (up2 V 16 e v) (up3 M 27 16 e v) := by
  refine ⟨fun k hk i hi => ?_, fun k h1 h2 => ?_⟩
  · by_cases h : k = 16
    · subst h
      rw [up3_s, up2_s]
      by_cases h2 : i = e
      · rw [h2, upd_s, upd_s]
      · rw [upd_n _ _ h2, upd_n _ _ h2]
        exact m.1 16 hk i hi
    · rw [up3_i M _ h, up2_n V _ h]
      exact m.1 k hk i hi
  · rw [up3_t M _ (by decide), up2_n V _ (by omega)]
    exact m.2 k h1 h2
theorem t_cancel (R : Rq G S A U M) (m : MV V M) (I : Iv V) {x : Int32} {f : Int32 → St → Prop} (hf : ∀ k r V' S' M', spCan V x k r V' → Rq G S' A U M' → MV V' M' → Iv V' → Kf M M' k → f r S') : w_X10_cancel S (A 11 0) x f := by
  have bE8 := I.1.2.2.2.2.2.2.2
  unfold w_X10_cancel
  refine ⟨o11 R.1, t_isExhibition R.1 m I.1 (fun h => ⟨fun _ => ?_, fun hc => absurd hc (by decide)⟩) (fun h => ⟨fun hc => absurd rfl hc, fun _ => ?_⟩)⟩
  · obtain ⟨e, he, rfl⟩ := h
    refine ⟨o11 R.1, _, p11_16 R.1, o27 R.1 (by decide), v27 R.1 (by decide) (show e < 8 by omega) (by omega), ?_⟩
    rw [r27 R.1 m (k := 16) (by decide) (show e < 8 by omega) (by omega)]
    unfold wj_X10_cancel_29
    refine ⟨fun hs => ⟨o11 R.1, ?_⟩, fun hs => ⟨o11 R.1, ?_⟩⟩
    · obtain ⟨a, b, c, d⟩ := thrw R m 0
      refine ⟨o11 a.1, fun _ => ⟨_, p11_16 a.1, o27 a.1 (by decide), v27 a.1 (by decide) (show e < 8 by omega) (by omega), ?_⟩, fun hc => absurd (le0 d) hc⟩
      rw [z_c (by omega)]
      refine t_looks (V := up2 V 16 e 99) (R27 a (by decide)) (MV16 b) (up16_Iv I (Or.inr rfl) (fun h => absurd h (by decide))) (fun S' M' V' r a2 b2 i2 l2 h2 => ?_)
      have hE : nE (up2 V 16 e 99) = nE V := sm_nE up16_Sm
      rw [hE] at h2
      exact hf 0 _ V' _ _ (Or.inr ⟨e, he, rfl, Or.inr ⟨hs, rfl, r, h2, rfl⟩⟩) a2 b2 i2 (Lf.kf c ((Lf.up27 _ _ _ _).trans l2))
    · obtain ⟨a, b, c, d⟩ := thrw R m 2
      exact ⟨o11 a.1, fun hc => absurd hc (gt0 d (by decide)), fun _ => hf 2 0 V _ _ (Or.inr ⟨e, he, rfl, Or.inl ⟨hs, rfl, rfl⟩⟩) a b I c⟩
  · unfold wj_X10_cancel_29
    obtain ⟨a, b, c, d⟩ := thrw R m 1
    exact ⟨o11 R.1, o11 a.1, fun hc => absurd hc (gt0 d (by decide)), fun _ => hf 1 0 V _ _ (Or.inl ⟨h, rfl, rfl⟩) a b I c⟩
end MT
