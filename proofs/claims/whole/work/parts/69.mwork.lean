/-! ===== the reference adds a work ===== -/
section MT
variable {S : St} {A : Nat → Nat → Nat} {V U : VV} {M : MM} {G : (Nat → Nat → Int64) × (Nat → Nat → UInt64)}
theorem t_addWork (R : Rq G S A U M) (m : MV V M) (I : I1 V) {w lo hi li va o : Int32} {f : Int32 → St → Prop} (hf : ∀ k r V' S' M', spW V w lo hi li va o k r V' → Rq G S' A U M' → MV V' M' → Kf M M' k → f r S') : w_X10_addWork S (A 11 0) w lo hi li va o f := by
  obtain ⟨i24, i25, i26, i27, b1, b2, b3, b4⟩ := I
  have no : ¬ okW V w lo hi li va o → wj_X10_addWork_73 f S (A 11 0) w lo hi li va o := fun h => by
    obtain ⟨a, b, c, d⟩ := thrw R m 1
    unfold wj_X10_addWork_73 wj_X10_addWork_74 wj_X10_addWork_100
    exact ⟨fun hc => absurd rfl hc, fun _ => ⟨o11 R.1, o11 a.1, fun hc => absurd hc (gt0 d (by decide)), fun _ => hf 1 0 V _ _ (Or.inl ⟨h, rfl, rfl⟩) a b c⟩⟩
  unfold w_X10_addWork
  refine t_in (fun a1 a2 => ⟨fun hc => absurd hc (by decide), fun _ => ?_⟩) (fun h => ⟨fun _ => no (fun q => h q.1), fun hc => absurd rfl hc⟩)
  refine t_in (fun c1 c2 => ⟨fun hc => absurd hc (by decide), fun _ => ?_⟩) (fun h => ⟨fun _ => no (fun q => h q.2.1), fun hc => absurd rfl hc⟩)
  refine t_in (fun d1 d2 => ⟨fun hc => absurd hc (by decide), fun _ => ?_⟩) (fun h => ⟨fun _ => no (fun q => h q.2.2.1), fun hc => absurd rfl hc⟩)
  refine t_in (fun e1 e2 => ⟨fun hc => absurd hc (by decide), fun _ => ?_⟩) (fun h => ⟨fun _ => no (fun q => h q.2.2.2.1), fun hc => absurd rfl hc⟩)
  refine t_in (fun f1 f2 => ⟨fun hc => absurd hc (by decide), fun _ => ⟨o11 R.1, ?_⟩⟩) (fun h => ⟨fun _ => no (fun q => h q.2.2.2.2.1), fun hc => absurd rfl hc⟩)
  rw [r11 R.1 m (k := 25) (by decide) (by decide), i25]
  refine t_in (fun g1 g2 => ⟨fun hc => absurd hc (by decide), fun _ => ?_⟩) (fun h => ⟨fun _ => no (fun q => h q.2.2.2.2.2), fun hc => absurd rfl hc⟩)
  have hin : okW V w lo hi li va o := ⟨⟨a1, a2⟩, ⟨c1, c2⟩, ⟨d1, d2⟩, ⟨e1, e2⟩, ⟨f1, f2⟩, ⟨g1, g2⟩⟩
  unfold wj_X10_addWork_74
  refine ⟨fun _ => ⟨o11 R.1, ?_⟩, fun hc => absurd hc (by decide)⟩
  rw [r11 R.1 m (k := 26) (by decide) (by decide), i26, show (12 : Int32) = z 12 from rfl, z_eq (by omega) (by decide)]
  unfold wj_X10_addWork_100
  refine ⟨fun hn => ⟨o11 R.1, ?_⟩, fun hn => ⟨o11 R.1, ?_⟩⟩
  · obtain ⟨a, b, c, d⟩ := thrw R m 0
    refine ⟨o11 a.1, fun _ => ?_, fun hc => absurd (le0 d) hc⟩
    have hW : nW V < 12 := by omega
    have hW2 : nW V < 2147483648 := by omega
    have e0 := r11 a.1 b (k := 26) (by decide) (by decide)
    rw [i26] at e0
    have a2 := R27 (j := 6) (k := nW V) (v := w) a (by decide)
    have m2 := MVrow (j := 6) (e := nW V) (v := w) b (by decide)
    have e2 := r11 a2.1 m2 (k := 26) (by decide) (by decide)
    rw [up2_n _ _ (by decide), i26] at e2
    have a3 := R27 (j := 7) (k := nW V) (v := lo) a2 (by decide)
    have m3 := MVrow (j := 7) (e := nW V) (v := lo) m2 (by decide)
    have e3 := r11 a3.1 m3 (k := 26) (by decide) (by decide)
    rw [up2_n _ _ (by decide), up2_n _ _ (by decide), i26] at e3
    have a4 := R27 (j := 8) (k := nW V) (v := hi) a3 (by decide)
    have m4 := MVrow (j := 8) (e := nW V) (v := hi) m3 (by decide)
    have e4 := r11 a4.1 m4 (k := 26) (by decide) (by decide)
    rw [up2_n _ _ (by decide), up2_n _ _ (by decide), up2_n _ _ (by decide), i26] at e4
    have a5 := R27 (j := 9) (k := nW V) (v := li) a4 (by decide)
    have m5 := MVrow (j := 9) (e := nW V) (v := li) m4 (by decide)
    have e5 := r11 a5.1 m5 (k := 26) (by decide) (by decide)
    rw [up2_n _ _ (by decide), up2_n _ _ (by decide), up2_n _ _ (by decide), up2_n _ _ (by decide), i26] at e5
    have a6 := R27 (j := 10) (k := nW V) (v := va) a5 (by decide)
    have m6 := MVrow (j := 10) (e := nW V) (v := va) m5 (by decide)
    have e6 := r11 a6.1 m6 (k := 26) (by decide) (by decide)
    rw [up2_n _ _ (by decide), up2_n _ _ (by decide), up2_n _ _ (by decide), up2_n _ _ (by decide), up2_n _ _ (by decide), i26] at e6
    have a7 := R27 (j := 11) (k := nW V) (v := o) a6 (by decide)
    have m7 := MVrow (j := 11) (e := nW V) (v := o) m6 (by decide)
    have e7 := r11 a7.1 m7 (k := 26) (by decide) (by decide)
    rw [up2_n _ _ (by decide), up2_n _ _ (by decide), up2_n _ _ (by decide), up2_n _ _ (by decide), up2_n _ _ (by decide), up2_n _ _ (by decide), i26] at e7
    have a8 := R11 (k := 26) (v := z (nW V + 1)) a7
    have m8 := MVcnt (j := 26) (v := z (nW V + 1)) m7 (by decide)
    have e8 := r11 a8.1 m8 (k := 26) (by decide) (by decide)
    rw [up2_s, upd_s] at e8
    refine ⟨_, p11_6 a.1, o27 a.1 (by decide), ?_⟩
    show vp_in (sI (setI S (A 11 0) 23 (z 0)) (A 11 0) 26) _ ∧ _
    rw [show setI S (A 11 0) 23 0 = setI S (A 11 0) 23 (z 0) from rfl, e0, z_c hW2]
    refine ⟨v27 a.1 (by decide) hW hW2, _, p11_7 a2.1, o27 a2.1 (by decide), ?_⟩
    rw [e2, z_c hW2]
    refine ⟨v27 a2.1 (by decide) hW hW2, _, p11_8 a3.1, o27 a3.1 (by decide), ?_⟩
    rw [e3, z_c hW2]
    refine ⟨v27 a3.1 (by decide) hW hW2, _, p11_9 a4.1, o27 a4.1 (by decide), ?_⟩
    rw [e4, z_c hW2]
    refine ⟨v27 a4.1 (by decide) hW hW2, _, p11_10 a5.1, o27 a5.1 (by decide), ?_⟩
    rw [e5, z_c hW2]
    refine ⟨v27 a5.1 (by decide) hW hW2, _, p11_11 a6.1, o27 a6.1 (by decide), ?_⟩
    rw [e6, z_c hW2]
    refine ⟨v27 a6.1 (by decide) hW hW2, ?_⟩
    dsimp only
    rw [e7, z_s, e8, z_pred]
    exact hf 0 _ _ _ _ (Or.inr (Or.inr ⟨hin, hW, rfl, rfl, rfl⟩)) a8 m8 (Lf.kf c (((((((Lf.up27 _ _ _ _).trans (Lf.up27 _ _ _ _)).trans (Lf.up27 _ _ _ _)).trans (Lf.up27 _ _ _ _)).trans (Lf.up27 _ _ _ _)).trans (Lf.up27 _ _ _ _)).trans (Lf.up11 _ _ (by decide))))
  · obtain ⟨a, b, c, d⟩ := thrw R m 2
    exact ⟨o11 a.1, fun hc => absurd hc (gt0 d (by decide)), fun _ => hf 2 0 V _ _ (Or.inr (Or.inl ⟨hin, by omega, rfl, rfl⟩)) a b c⟩
end MT
