/-! ===== one write of the reference, in a row or of a count ===== -/
section MT
variable {S : St} {A : Nat → Nat → Nat} {V U : VV} {M : MM} {G : (Nat → Nat → Int64) × (Nat → Nat → UInt64)}
theorem MVrow (m : MV V M) {j e : Nat} {v : Int32} (hj : j < 20) : MV (up2 V j e v) (up3 M 27 j e v) := by
  refine ⟨fun k hk i hi => ?_, fun k h1 h2 => ?_⟩
  · by_cases h : k = j
    · subst h
      rw [up3_s, up2_s]
      by_cases h2 : i = e
      · rw [h2, upd_s, upd_s]
      · rw [upd_n _ _ h2, upd_n _ _ h2]
        exact m.1 k hk i hi
    · rw [up3_i M _ h, up2_n V _ h]
      exact m.1 k hk i hi
  · rw [up3_t M _ (by decide), up2_n V _ (by omega)]
    exact m.2 k h1 h2
theorem MVcnt (m : MV V M) {j : Nat} {v : Int32} (hj : 24 ≤ j) : MV (up2 V j 0 v) (up3 M 11 0 j v) := by
  refine ⟨fun k hk i hi => ?_, fun k h1 h2 => ?_⟩
  · rw [up3_t M _ (by decide), up2_n V _ (by omega)]
    exact m.1 k hk i hi
  · rw [up3_s]
    by_cases h : k = j
    · subst h
      rw [upd_s, up2_s, upd_s]
    · rw [upd_n _ _ h, up2_n V _ h]
      exact m.2 k h1 h2
theorem R11 (R : Rq G S A U M) {k : Nat} {v : Int32} : Rq G (setI S (A 11 0) k v) A U (up3 M 11 0 k v) := Rq_set R (show us U 11 0 from rfl) (fun h => by omega)
theorem Lf.up11 (M : MM) {k : Nat} (v : Int32) (h : k ≠ 23) : Lf M (up3 M 11 0 k v) := ⟨fun t a _ => up3_t M v a, by rw [up3_s, upd_n _ _ (fun e => h e.symm)]⟩
theorem t_wallForS (R : Rq G S A U M) (m : MV V M) (I : I1 V) (J : I2 V) (P : I3 V) (Q : I4 V) {x y : Int32} {f : Int32 → St → Prop} (hf : ∀ k r S' M', spWF V x y k r → Rq G S' A U M' → MV V M' → Kf M M' k → f r S') : w_X10_wallForBySearch S (A 11 0) x y f := by
  unfold w_X10_wallForBySearch
  exact ⟨o11 R.1, t_wallFor R m I J P Q hf⟩
end MT
