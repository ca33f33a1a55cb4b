/-! ===== the reference's separation ===== -/
section MT
variable {S : St} {A : Nat → Nat → Nat} {V U : VV} {M : MM} {G : (Nat → Nat → Int64) × (Nat → Nat → UInt64)}
theorem t_separation (R : Rq G S A U M) (m : MV V M) (I : I1 V) (K : KO V) {x y : Int32} {f : Int32 → St → Prop} (hf : ∀ k r S' M', spSpn V x y k r → Rq G S' A U M' → MV V M' → Kf M M' k → f r S') : w_X10_separation S (A 11 0) x y f := by
  have bW := I.2.2.2.2.2.2.1
  have no : ¬ (ix (nW V) x ∧ ix (nW V) y) → wj_X10_separation_21 f S (A 11 0) x y (A 11 0) := fun h => by
    obtain ⟨a, b, c, d⟩ := thrw R m 1
    unfold wj_X10_separation_21 wj_X10_separation_22 w_X10_checked
    exact ⟨o11 R.1, fun _ => ⟨o11 R.1, fun hc => absurd hc (gt0 d (by decide)), fun _ => hf 1 97 _ _ (Or.inl ⟨h, rfl⟩) a b c⟩, fun hc => absurd rfl hc⟩
  unfold w_X10_separation
  refine ⟨o11 R.1, t_isWork R.1 m I (fun h => ⟨fun hc => absurd hc (by decide), fun _ => ⟨o11 R.1, t_isWork R.1 m I (fun h2 => ⟨fun hc => absurd hc (by decide), fun _ => ?_⟩) (fun h2 => ⟨fun _ => no (fun q => h2 q.2), fun hc => absurd rfl hc⟩)⟩⟩) (fun h => ⟨fun _ => no (fun q => h q.1), fun hc => absurd rfl hc⟩)⟩
  obtain ⟨a, b, c, d⟩ := thrw R m 0
  obtain ⟨i, hi, rfl⟩ := h
  obtain ⟨j, hj, rfl⟩ := h2
  unfold wj_X10_separation_22 w_X10_checked
  refine ⟨o11 R.1, fun hc => absurd hc (by decide), fun _ => ⟨o11 R.1, fun _ => ⟨o11 a.1, _, p11_12 a.1, o27 a.1 (by decide), ?_⟩, fun hc => absurd (le0 d) hc⟩⟩
  have e1 := r27 a.1 b (k := 12) (by decide) (show 12 * i + j < 144 by omega) (by omega)
  rw [show (12 : Int32) = z 12 from rfl, z_mul, z_add]
  refine ⟨v27 a.1 (by decide) (show 12 * i + j < 144 by omega) (by omega), ?_⟩
  show (¬ sI (setI S (A 11 0) 23 (z 0)) (A 27 12) (Int32.toNatClampNeg (z (12 * i + j))) = 0 → narrow .char (.int (cof (sI (setI S (A 11 0) 23 (z 0)) (A 27 12) (Int32.toNatClampNeg (z (12 * i + j)))))) = .int (cof (sI (setI S (A 11 0) 23 (z 0)) (A 27 12) (Int32.toNatClampNeg (z (12 * i + j))))) ∧ f (cof (sI (setI S (A 11 0) 23 (z 0)) (A 27 12) (Int32.toNatClampNeg (z (12 * i + j))))) (setI S (A 11 0) 23 (z 0))) ∧ (sI (setI S (A 11 0) 23 (z 0)) (A 27 12) (Int32.toNatClampNeg (z (12 * i + j))) = 0 → f 110 (setI S (A 11 0) 23 (z 0)))
  rw [e1]
  have ek : V 12 (12 * i + j) = V 12 (i * 12 + j) := by rw [Nat.mul_comm 12 i]
  have h2 := fun r hr => hf 0 r _ _ (Or.inr ⟨i, j, hi, hj, rfl, rfl, rfl, hr⟩) a b c
  have k1 := kq_nar K (i := i) (j := j) (by omega) (by omega)
  have k2 := cof_kq K (i := i) (j := j) (by omega) (by omega)
  rw [ek]
  unfold kq at h2 k1 k2
  refine ⟨fun hn => ?_, fun he => ?_⟩
  · rw [if_neg hn] at h2 k1 k2
    rw [k2]
    exact ⟨k1, h2 _ rfl⟩
  · rw [if_pos he] at h2
    exact h2 _ rfl
end MT
