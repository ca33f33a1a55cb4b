/-! ===== the reference requests ===== -/
section MT
variable {S : St} {A : Nat → Nat → Nat} {V U : VV} {M : MM} {G : (Nat → Nat → Int64) × (Nat → Nat → UInt64)}
theorem t_request (R : Rq G S A U M) (m : MV V M) (I : Iv V) {x : Int32} {f : Int32 → St → Prop} (hf : ∀ k r V' S' M', spReq V x k r V' → Rq G S' A U M' → MV V' M' → Iv V' → Kf M M' k → f r S') : w_X10_request S (A 11 0) x f := by
  have bE8 := I.1.2.2.2.2.2.2.2
  unfold w_X10_request
  refine ⟨o11 R.1, t_isExhibition R.1 m I.1 (fun h => ⟨fun _ => ?_, fun hc => absurd hc (by decide)⟩) (fun h => ⟨fun hc => absurd rfl hc, fun _ => ?_⟩)⟩
  · obtain ⟨e, he, rfl⟩ := h
    obtain ⟨j1, j2, j3⟩ := I.2.1 e he
    refine ⟨o11 R.1, _, p11_16 R.1, o27 R.1 (by decide), v27 R.1 (by decide) (show e < 8 by omega) (by omega), ?_⟩
    rw [r27 R.1 m (k := 16) (by decide) (show e < 8 by omega) (by omega)]
    unfold wj_X10_request_42
    refine ⟨fun hs => ⟨_, p11_17 R.1, o27 R.1 (by decide), v27 R.1 (by decide) (show e < 8 by omega) (by omega), ?_⟩, fun hs => ⟨o11 R.1, ?_⟩⟩
    · rw [r27 R.1 m (k := 17) (by decide) (show e < 8 by omega) (by omega), j1, show (0 : Int32) = z 0 from rfl, z_eq (by omega) (by decide)]
      refine ⟨fun hn => ⟨o11 R.1, ?_⟩, fun hn => ⟨o11 R.1, ?_⟩⟩
      · obtain ⟨a, b, c, d⟩ := thrw R m 0
        refine ⟨o11 a.1, fun _ => ⟨_, p11_16 a.1, o27 a.1 (by decide), v27 a.1 (by decide) (show e < 8 by omega) (by omega), ?_⟩, fun hc => absurd (le0 d) hc⟩
        rw [z_c (by omega)]
        have sm : Sm V (up2 V 16 e 119) := up16_Sm
        have I2 : Iv (up2 V 16 e 119) := up16_Iv I (Or.inl rfl) (fun _ => by omega)
        have hE : nE (up2 V 16 e 119) = nE V := sm_nE sm
        have hC : cn (up2 V 16 e 119) e = cn V e := by rw [sm_cn sm]
        have h16 : up2 V 16 e 119 16 e = 119 := by rw [up2_s, upd_s]
        refine t_settles (V := up2 V 16 e 119) I2.1 I2.2.1 I2.2.2.1 I2.2.2.2.1 (e := e) (by omega) (by omega) (by rw [h16]; decide) (R27 a (by decide)) (MV16 b) (fun S' M' p hp a2 b2 l2 => ⟨fun hc => absurd hc (by decide), fun _ => ?_⟩) (fun hn2 S' M' a2 b2 l2 => ⟨fun _ => ?_, fun hc => absurd rfl hc⟩)
        · refine hf 0 112 _ _ _ (Or.inr ⟨e, he, rfl, Or.inr (Or.inr ⟨hs, by omega, rfl, 1, Or.inl ⟨h16, p, hp, rfl, rfl⟩, ?_⟩)⟩) a2 b2 (setl_Iv I2 (by omega) h16 hp) (Lf.kf c ((Lf.up27 _ _ _ _).trans l2))
          rw [setl_16, if_pos rfl]
        · exact hf 0 119 _ _ _ (Or.inr ⟨e, he, rfl, Or.inr (Or.inr ⟨hs, by omega, rfl, 0, Or.inr ⟨fun h => nopl_pln hn2 h.2, rfl, rfl⟩, h16.symm⟩)⟩) a2 b2 I2 (Lf.kf c ((Lf.up27 _ _ _ _).trans l2))
      · obtain ⟨a, b, c, d⟩ := thrw R m 3
        exact ⟨o11 a.1, fun hc => absurd hc (gt0 d (by decide)), fun _ => hf 3 97 V _ _ (Or.inr ⟨e, he, rfl, Or.inr (Or.inl ⟨hs, hn, rfl, rfl⟩)⟩) a b I c⟩
    · obtain ⟨a, b, c, d⟩ := thrw R m 2
      exact ⟨o11 a.1, fun hc => absurd hc (gt0 d (by decide)), fun _ => hf 2 97 V _ _ (Or.inr ⟨e, he, rfl, Or.inl ⟨hs, rfl, rfl⟩⟩) a b I c⟩
  · unfold wj_X10_request_42
    obtain ⟨a, b, c, d⟩ := thrw R m 1
    exact ⟨o11 R.1, o11 a.1, fun hc => absurd hc (gt0 d (by decide)), fun _ => hf 1 97 V _ _ (Or.inl ⟨h, rfl, rfl⟩) a b I c⟩
end MT
