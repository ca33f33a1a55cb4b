/-! ===== the reference adds an exhibition ===== -/
section MT
variable {S : St} {A : Nat → Nat → Nat} {V U : VV} {M : MM} {G : (Nat → Nat → Int64) × (Nat → Nat → UInt64)}
theorem t_addExhibition (R : Rq G S A U M) (m : MV V M) (I : I1 V) {x y w : Int32} {f : Int32 → St → Prop} (hf : ∀ k r V' S' M', spE V x y w k r V' → Rq G S' A U M' → MV V' M' → Kf M M' k → f r S') : w_X10_addExhibition S (A 11 0) x y w f := by
  obtain ⟨i24, i25, i26, i27, b1, b2, b3, b4⟩ := I
  have no : ¬ (inr x 0 99 ∧ inr y x 99 ∧ inr w 0 50) → wj_X10_addExhibition_31 f S (A 11 0) x y w (A 11 0) := fun h => by
    obtain ⟨a, b, c, d⟩ := thrw R m 1
    unfold wj_X10_addExhibition_31 wj_X10_addExhibition_49
    exact ⟨o11 R.1, o11 a.1, fun hc => absurd hc (gt0 d (by decide)), fun _ => hf 1 0 V _ _ (Or.inl ⟨h, rfl, rfl⟩) a b c⟩
  unfold w_X10_addExhibition
  refine t_in (fun p1 p2 => ⟨fun hc => absurd hc (by decide), fun _ => t_in (fun q1 q2 => ⟨fun hc => absurd hc (by decide), fun _ => t_in (fun r1 r2 => ⟨fun _ => ?_, fun hc => absurd hc (by decide)⟩) (fun h => ⟨fun hc => absurd rfl hc, fun _ => no (fun q => h q.2.2)⟩)⟩) (fun h => ⟨fun _ => no (fun q => h q.2.1), fun hc => absurd rfl hc⟩)⟩) (fun h => ⟨fun _ => no (fun q => h q.1), fun hc => absurd rfl hc⟩)
  have hin : inr x 0 99 ∧ inr y x 99 ∧ inr w 0 50 := ⟨⟨p1, p2⟩, ⟨q1, q2⟩, ⟨r1, r2⟩⟩
  refine ⟨o11 R.1, ?_⟩
  rw [r11 R.1 m (by decide) (by decide), i27, show (8 : Int32) = z 8 from rfl, z_eq (by omega) (by decide)]
  unfold wj_X10_addExhibition_49
  refine ⟨fun hn => ⟨o11 R.1, ?_⟩, fun hn => ⟨o11 R.1, ?_⟩⟩
  · obtain ⟨a, b, c, d⟩ := thrw R m 0
    refine ⟨o11 a.1, fun _ => ?_, fun hc => absurd (le0 d) hc⟩
    have e0 := r11 a.1 b (k := 27) (by decide) (by decide)
    rw [i27] at e0
    have a2 := R27 (j := 13) (k := nE V) (v := x) a (by decide)
    have m2 := MVrow (j := 13) (e := nE V) (v := x) b (by decide)
    have e2 := r11 a2.1 m2 (k := 27) (by decide) (by decide)
    rw [up2_n _ _ (by decide), i27] at e2
    have a3 := R27 (j := 14) (k := nE V) (v := y) a2 (by decide)
    have m3 := MVrow (j := 14) (e := nE V) (v := y) m2 (by decide)
    have e3 := r11 a3.1 m3 (k := 27) (by decide) (by decide)
    rw [up2_n _ _ (by decide), up2_n _ _ (by decide), i27] at e3
    have a4 := R27 (j := 15) (k := nE V) (v := w) a3 (by decide)
    have m4 := MVrow (j := 15) (e := nE V) (v := w) m3 (by decide)
    have e4 := r11 a4.1 m4 (k := 27) (by decide) (by decide)
    rw [up2_n _ _ (by decide), up2_n _ _ (by decide), up2_n _ _ (by decide), i27] at e4
    have a5 := R27 (j := 16) (k := nE V) (v := 100) a4 (by decide)
    have m5 := MVrow (j := 16) (e := nE V) (v := 100) m4 (by decide)
    have e5 := r11 a5.1 m5 (k := 27) (by decide) (by decide)
    rw [up2_n _ _ (by decide), up2_n _ _ (by decide), up2_n _ _ (by decide), up2_n _ _ (by decide), i27] at e5
    have a6 := R11 (k := 27) (v := z (nE V + 1)) a5
    have m6 := MVcnt (j := 27) (v := z (nE V + 1)) m5 (by decide)
    have e6 := r11 a6.1 m6 (k := 27) (by decide) (by decide)
    rw [up2_s, upd_s] at e6
    refine ⟨_, p11_13 a.1, o27 a.1 (by decide), ?_⟩
    show vp_in (sI (setI S (A 11 0) 23 (z 0)) (A 11 0) 27) _ ∧ _
    rw [show setI S (A 11 0) 23 0 = setI S (A 11 0) 23 (z 0) from rfl, e0, z_c (by omega)]
    refine ⟨v27 a.1 (by decide) (show nE V < 8 by omega) (by omega), _, p11_14 a2.1, o27 a2.1 (by decide), ?_⟩
    rw [e2, z_c (by omega)]
    refine ⟨v27 a2.1 (by decide) (show nE V < 8 by omega) (by omega), _, p11_15 a3.1, o27 a3.1 (by decide), ?_⟩
    rw [e3, z_c (by omega)]
    refine ⟨v27 a3.1 (by decide) (show nE V < 8 by omega) (by omega), _, p11_16 a4.1, o27 a4.1 (by decide), ?_⟩
    rw [e4, z_c (by omega)]
    refine ⟨v27 a4.1 (by decide) (show nE V < 8 by omega) (by omega), ?_⟩
    dsimp only
    rw [e5, z_s, e6, z_pred]
    exact hf 0 _ _ _ _ (Or.inr (Or.inr ⟨hin, by omega, rfl, rfl, rfl⟩)) a6 m6 (Lf.kf c (((((Lf.up27 _ _ _ _).trans (Lf.up27 _ _ _ _)).trans (Lf.up27 _ _ _ _)).trans (Lf.up27 _ _ _ _)).trans (Lf.up11 _ _ (by decide))))
  · obtain ⟨a, b, c, d⟩ := thrw R m 2
    exact ⟨o11 a.1, fun hc => absurd hc (gt0 d (by decide)), fun _ => hf 2 0 V _ _ (Or.inr (Or.inl ⟨hin, by omega, rfl, rfl⟩)) a b c⟩
end MT
