/-! ===== the reference adds a lender ===== -/
section MT
variable {S : St} {A : Nat → Nat → Nat} {V U : VV} {M : MM} {G : (Nat → Nat → Int64) × (Nat → Nat → UInt64)}
theorem t_addLender (R : Rq G S A U M) (m : MV V M) (I : I1 V) {x y w : Int32} {f : Int32 → St → Prop} (hf : ∀ k r V' S' M', spL V x y w k r V' → Rq G S' A U M' → MV V' M' → Kf M M' k → f r S') : w_X10_addLender S (A 11 0) x y w f := by
  obtain ⟨i24, i25, i26, i27, b1, b2, b3, b4⟩ := I
  have no : ¬ (inr x 1 9999 ∧ inr y 0 9 ∧ inr w 1 100) → wj_X10_addLender_32 f S (A 11 0) x y w (A 11 0) := fun h => by
    obtain ⟨a, b, c, d⟩ := thrw R m 1
    unfold wj_X10_addLender_32 wj_X10_addLender_49
    exact ⟨o11 R.1, o11 a.1, fun hc => absurd hc (gt0 d (by decide)), fun _ => hf 1 0 V _ _ (Or.inl ⟨h, rfl, rfl⟩) a b c⟩
  unfold w_X10_addLender
  refine t_in (fun p1 p2 => ⟨fun hc => absurd hc (by decide), fun _ => t_in (fun q1 q2 => ⟨fun hc => absurd hc (by decide), fun _ => t_in (fun r1 r2 => ⟨fun _ => ?_, fun hc => absurd hc (by decide)⟩) (fun h => ⟨fun hc => absurd rfl hc, fun _ => no (fun q => h q.2.2)⟩)⟩) (fun h => ⟨fun _ => no (fun q => h q.2.1), fun hc => absurd rfl hc⟩)⟩) (fun h => ⟨fun _ => no (fun q => h q.1), fun hc => absurd rfl hc⟩)
  have hin : inr x 1 9999 ∧ inr y 0 9 ∧ inr w 1 100 := ⟨⟨p1, p2⟩, ⟨q1, q2⟩, ⟨r1, r2⟩⟩
  refine ⟨o11 R.1, ?_⟩
  rw [r11 R.1 m (by decide) (by decide), i25, show (4 : Int32) = z 4 from rfl, z_eq (by omega) (by decide)]
  unfold wj_X10_addLender_49
  refine ⟨fun hn => ⟨o11 R.1, ?_⟩, fun hn => ⟨o11 R.1, ?_⟩⟩
  · obtain ⟨a, b, c, d⟩ := thrw R m 0
    refine ⟨o11 a.1, fun _ => ?_, fun hc => absurd (le0 d) hc⟩
    have e0 := r11 a.1 b (k := 25) (by decide) (by decide)
    rw [i25] at e0
    have a2 := R27 (j := 3) (k := nL V) (v := x) a (by decide)
    have m2 := MVrow (j := 3) (e := nL V) (v := x) b (by decide)
    have e2 := r11 a2.1 m2 (k := 25) (by decide) (by decide)
    rw [up2_n _ _ (by decide), i25] at e2
    have a3 := R27 (j := 4) (k := nL V) (v := y) a2 (by decide)
    have m3 := MVrow (j := 4) (e := nL V) (v := y) m2 (by decide)
    have e3 := r11 a3.1 m3 (k := 25) (by decide) (by decide)
    rw [up2_n _ _ (by decide), up2_n _ _ (by decide), i25] at e3
    have a4 := R27 (j := 5) (k := nL V) (v := w) a3 (by decide)
    have m4 := MVrow (j := 5) (e := nL V) (v := w) m3 (by decide)
    have e4 := r11 a4.1 m4 (k := 25) (by decide) (by decide)
    rw [up2_n _ _ (by decide), up2_n _ _ (by decide), up2_n _ _ (by decide), i25] at e4
    have a5 := R11 (k := 25) (v := z (nL V + 1)) a4
    have m5 := MVcnt (j := 25) (v := z (nL V + 1)) m4 (by decide)
    have e5 := r11 a5.1 m5 (k := 25) (by decide) (by decide)
    rw [up2_s, upd_s] at e5
    refine ⟨_, p11_3 a.1, o27 a.1 (by decide), ?_⟩
    show vp_in (sI (setI S (A 11 0) 23 (z 0)) (A 11 0) 25) _ ∧ _
    rw [show setI S (A 11 0) 23 0 = setI S (A 11 0) 23 (z 0) from rfl, e0, z_c (by omega)]
    refine ⟨v27 a.1 (by decide) (show nL V < 4 by omega) (by omega), _, p11_4 a2.1, o27 a2.1 (by decide), ?_⟩
    rw [e2, z_c (by omega)]
    refine ⟨v27 a2.1 (by decide) (show nL V < 4 by omega) (by omega), _, p11_5 a3.1, o27 a3.1 (by decide), ?_⟩
    rw [e3, z_c (by omega)]
    refine ⟨v27 a3.1 (by decide) (show nL V < 4 by omega) (by omega), ?_⟩
    dsimp only
    rw [e4, z_s, e5, z_pred]
    exact hf 0 _ _ _ _ (Or.inr (Or.inr ⟨hin, by omega, rfl, rfl, rfl⟩)) a5 m5 (Lf.kf c ((((Lf.up27 _ _ _ _).trans (Lf.up27 _ _ _ _)).trans (Lf.up27 _ _ _ _)).trans (Lf.up11 _ _ (by decide))))
  · obtain ⟨a, b, c, d⟩ := thrw R m 2
    exact ⟨o11 a.1, fun hc => absurd hc (gt0 d (by decide)), fun _ => hf 2 0 V _ _ (Or.inr (Or.inl ⟨hin, by omega, rfl, rfl⟩)) a b c⟩
end MT
