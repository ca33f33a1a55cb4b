/-! ===== the reference's wallFor ===== -/
section MT
variable {S : St} {A : Nat → Nat → Nat} {V U : VV} {M : MM} {G : (Nat → Nat → Int64) × (Nat → Nat → UInt64)}
theorem Kf.tf {M M' M'' : MM} {k : Nat} (h : Kf M M' k) (t : Tf M' M'') : Kf M M'' k := Lf.kf h t.lf
theorem t_wallFor (R : Rq G S A U M) (m : MV V M) (I : I1 V) (J : I2 V) (P : I3 V) (Q : I4 V) {x y : Int32} {f : Int32 → St → Prop} (hf : ∀ k r S' M', spWF V x y k r → Rq G S' A U M' → MV V M' → Kf M M' k → f r S') : w_X10_wallFor S (A 11 0) x y f := by
  have bE8 := I.2.2.2.2.2.2.2
  unfold w_X10_wallFor
  refine ⟨o11 R.1, t_hasNo R m I J (fun e q S' M' he ex hq ey a b c => ?_) (fun h S' M' a b c => ?_) (fun e S' M' he ex hn a b c => ?_)⟩
  · subst ex ey
    have hc5 := (J e he).2.1
    refine ⟨fun _ => ⟨o11 a.1, _, p11_16 a.1, o27 a.1 (by decide), v27 a.1 (by decide) (show e < 8 by omega) (by omega), ?_⟩, fun hc => absurd rfl hc⟩
    rw [r27 a.1 b (k := 16) (by decide) (show e < 8 by omega) (by omega)]
    have no : V 16 e = 112 ∨ V 16 e = 99 → ∀ k : Int32 → St → Prop, (sI (setI S' (A 11 0) 23 (z 3)) (A 11 0) 23 ≤ 0 → k 0 S') ∧ (¬ sI (setI S' (A 11 0) 23 (z 3)) (A 11 0) 23 ≤ 0 → f 0 (setI S' (A 11 0) 23 (z 3))) := fun hs k => by
      obtain ⟨a2, b2, c2, d2⟩ := thrw a b 3
      exact ⟨fun hc => absurd hc (gt0 d2 (by decide)), fun _ => hf 3 0 _ _ (Or.inr ⟨e, he, rfl, Or.inr ⟨q, hq, rfl, Or.inl ⟨hs, rfl⟩⟩⟩) a2 b2 (kf2 c)⟩
    refine ⟨fun hs => ⟨fun hc => ?_, fun _ => (no (Or.inl hs) (fun _ _ => True)).2 (gt0 (thrw a b 3).2.2.2 (by decide))⟩, fun h1 => ⟨fun h2 => ?_, fun hs => ⟨fun hc => ?_, fun _ => (no (Or.inr hs) (fun _ _ => True)).2 (gt0 (thrw a b 3).2.2.2 (by decide))⟩⟩⟩
    · exact absurd hc (gt0 (thrw a b 3).2.2.2 (by decide))
    · have hno : ¬ (V 16 e = 112 ∨ V 16 e = 99) := fun h => h.elim h1 h2
      unfold w_X10_plans
      refine ⟨cn V e + 1, l_mplans I J P Q he (by omega) a b (fun ha S2 M2 p a2 t2 hp ht => ?_) (fun hx S2 M2 a2 t2 => ?_) _ 0 (Nat.zero_le _) (by omega) (fun j hj => absurd hj (by omega))⟩
      · refine ⟨fun _ => ⟨o11 a2.1, ?_⟩, fun hc => absurd hc (by decide)⟩
        obtain ⟨a3, b3, c3, d3⟩ := thrw a2 (t2.mv b) 0
        refine ⟨fun _ => ⟨_, p11_20 a3.1, o27 a3.1 (by decide), v27 a3.1 (by decide) (show q < 5 by omega) (by omega), ?_⟩, fun hc => absurd (le0 d3) hc⟩
        have e1 := tq20 a3.1 (i := q) (by omega)
        rw [up3_t _ _ (by decide), (ht q hq).1] at e1
        have h2 := hf 0 (z (p q)) _ _ (Or.inr ⟨e, he, rfl, Or.inr ⟨q, hq, rfl, Or.inr ⟨hno, Or.inr ⟨rfl, p, ⟨ha, Fi_iff I J Q he h1 hp⟩, rfl⟩⟩⟩⟩) a3 b3 (kf2 (Kf.tf c t2))
        exact e1.symm ▸ h2
      · refine ⟨fun hc => absurd rfl hc, fun _ => ⟨o11 a2.1, ?_⟩⟩
        obtain ⟨a3, b3, c3, d3⟩ := thrw a2 (t2.mv b) 4
        refine ⟨fun hc => absurd hc (gt0 d3 (by decide)), fun _ => ?_⟩
        exact hf 4 0 _ _ (Or.inr ⟨e, he, rfl, Or.inr ⟨q, hq, rfl, Or.inr ⟨hno, Or.inl ⟨fun ⟨p, ha, hv⟩ => hx ⟨p, ha, (Va_iff I J Q he h1).2 hv⟩, rfl⟩⟩⟩⟩) a3 b3 (kf2 (Kf.tf c t2))
    · exact absurd hc (gt0 (thrw a b 3).2.2.2 (by decide))
  · exact ⟨fun hc => absurd hc (by decide), fun _ => hf 1 0 _ _ (Or.inl ⟨h, rfl⟩) a b c⟩
  · exact ⟨fun hc => absurd hc (by decide), fun _ => hf 2 0 _ _ (Or.inr ⟨e, he, ex, Or.inl ⟨hn, rfl⟩⟩) a b c⟩
end MT
