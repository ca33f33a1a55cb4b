/-! ===== the reference's small answers ===== -/
def Kf (M M' : MM) (k : Nat) : Prop := (∀ t, t ≠ 11 → t ≠ 27 → M' t = M t) ∧ M' 11 0 23 = z k
theorem Lf.kf {M M' M'' : MM} {k : Nat} (h : Kf M M' k) (l : Lf M' M'') : Kf M M'' k := ⟨fun t a b => (l.1 t a b).trans (h.1 t a b), l.2.trans h.2⟩
theorem le0 {a : Int32} (d : a = z 0) : a ≤ 0 := by rw [d]; decide
theorem gt0 {a b : Int32} (d : a = b) (h : ¬ b ≤ 0) : ¬ a ≤ 0 := by rw [d]; exact h
section MT
variable {S : St} {A : Nat → Nat → Nat} {V U : VV} {M : MM} {G : (Nat → Nat → Int64) × (Nat → Nat → UInt64)}
theorem thrw (R : Rq G S A U M) (m : MV V M) (k : Nat) : Rq G (setI S (A 11 0) 23 (z k)) A U (up3 M 11 0 23 (z k)) ∧ MV V (up3 M 11 0 23 (z k)) ∧ Kf M (up3 M 11 0 23 (z k)) k ∧ sI (setI S (A 11 0) 23 (z k)) (A 11 0) 23 = z k := by
  have R2 := Rq_set (t := 11) (i := 0) (k := 23) (v := z k) R (show us U 11 0 from rfl) (fun h => by omega)
  have e : up3 M 11 0 23 (z k) 11 0 23 = z k := by rw [up3_s, upd_s]
  refine ⟨R2, ⟨fun j hj i hi => ?_, fun j h1 h2 => ?_⟩, ⟨fun t a b => up3_t M _ a, e⟩, ?_⟩
  · rw [up3_t M _ (by decide)]
    exact m.1 j hj i hi
  · rw [up3_s, upd_n _ _ (by omega)]
    exact m.2 j h1 h2
  · rw [i11 R2.1]
    exact e
theorem t_rooms (R : Rq G S A U M) (m : MV V M) (I : I1 V) {f : Int32 → St → Prop} (hf : ∀ S' M', Rq G S' A U M' → MV V M' → Kf M M' 0 → f (z (nR V)) S') : w_X10_rooms S (A 11 0) f := by
  obtain ⟨a, b, c, d⟩ := thrw R m 0
  unfold w_X10_rooms w_X10_plain
  rw [r11 R.1 m (by decide) (by decide), I.1]
  exact ⟨o11 R.1, o11 R.1, hf _ _ a b c⟩
theorem t_works (R : Rq G S A U M) (m : MV V M) (I : I1 V) {f : Int32 → St → Prop} (hf : ∀ S' M', Rq G S' A U M' → MV V M' → Kf M M' 0 → f (z (nW V)) S') : w_X10_works S (A 11 0) f := by
  obtain ⟨a, b, c, d⟩ := thrw R m 0
  unfold w_X10_works w_X10_plain
  rw [r11 R.1 m (by decide) (by decide), I.2.2.1]
  exact ⟨o11 R.1, o11 R.1, hf _ _ a b c⟩
theorem t_planned (R : Rq G S A U M) (m : MV V M) {f : Int32 → St → Prop} (hf : ∀ S' M', Rq G S' A U M' → MV V M' → Kf M M' 0 → f (V 28 0) S') : w_X10_planned S (A 11 0) f := by
  obtain ⟨a, b, c, d⟩ := thrw R m 0
  unfold w_X10_planned w_X10_plain
  rw [r11 R.1 m (by decide) (by decide)]
  exact ⟨o11 R.1, o11 R.1, hf _ _ a b c⟩
theorem t_worksOf (R : Rq G S A U M) (m : MV V M) (I : I1 V) (J : I2 V) {x : Int32} {f : Int32 → St → Prop} (hf : ∀ k r S' M', spWs V x k r → Rq G S' A U M' → MV V M' → Kf M M' k → f r S') : w_X10_worksOf S (A 11 0) x f := by
  have bE8 := I.2.2.2.2.2.2.2
  unfold w_X10_worksOf w_X10_checked
  refine ⟨o11 R.1, t_isExhibition R.1 m I (fun h => ⟨o11 R.1, fun hc => absurd hc (by decide), fun _ => ⟨o11 R.1, ?_⟩⟩) (fun h => ⟨o11 R.1, fun _ => ⟨o11 R.1, ?_⟩, fun hc => absurd rfl hc⟩)⟩
  · obtain ⟨e, he, rfl⟩ := h
    obtain ⟨a, b, c, d⟩ := thrw R m 0
    show (sI (setI S (A 11 0) 23 (z 0)) (A 11 0) 23 ≤ 0 → _) ∧ _
    refine ⟨fun _ => ⟨o11 a.1, _, p11_17 a.1, o27 a.1 (by decide), v27 a.1 (by decide) (show e < 8 by omega) (by omega), ?_⟩, fun hc => absurd (le0 d) hc⟩
    have e1 := r27 a.1 b (k := 17) (by decide) (show e < 8 by omega) (by omega)
    rw [(J e he).1] at e1
    exact e1.symm ▸ hf 0 (z (cn V e)) _ _ (Or.inr ⟨e, he, rfl, rfl, rfl⟩) a b c
  · obtain ⟨a, b, c, d⟩ := thrw R m 1
    show (sI (setI S (A 11 0) 23 (z 1)) (A 11 0) 23 ≤ 0 → _) ∧ _
    exact ⟨fun hc => absurd hc (gt0 d (by decide)), fun _ => hf 1 0 _ _ (Or.inl ⟨h, rfl⟩) a b c⟩
/-- the two refusals of an index -/
theorem t_hasNo (R : Rq G S A U M) (m : MV V M) (I : I1 V) (J : I2 V) {x y : Int32} {f : Int32 → St → Prop} (h0 : ∀ e q S' M', e < nE V → x = z e → q < cn V e → y = z q → Rq G S' A U M' → MV V M' → Kf M M' 0 → f 0 S')
    (h1 : ¬ ix (nE V) x → ∀ S' M', Rq G S' A U M' → MV V M' → Kf M M' 1 → f 1 S') (h2 : ∀ e S' M', e < nE V → x = z e → ¬ ix (cn V e) y → Rq G S' A U M' → MV V M' → Kf M M' 2 → f 1 S') : w_X10_hasNo S (A 11 0) x y f := by
  have bE8 := I.2.2.2.2.2.2.2
  unfold w_X10_hasNo
  refine ⟨o11 R.1, t_isExhibition R.1 m I (fun h => ⟨fun _ => ?_, fun hc => absurd hc (by decide)⟩) (fun h => ⟨fun hc => absurd rfl hc, fun _ => ⟨o11 R.1, ?_⟩⟩)⟩
  · obtain ⟨e, he, rfl⟩ := h
    refine ⟨o11 R.1, _, p11_17 R.1, o27 R.1 (by decide), v27 R.1 (by decide) (show e < 8 by omega) (by omega), ?_⟩
    rw [r27 R.1 m (k := 17) (by decide) (show e < 8 by omega) (by omega), (J e he).1]
    have hc5 := (J e he).2.1
    refine t_in (fun c d => ⟨fun _ => ⟨o11 R.1, ?_⟩, fun hc => absurd hc (by decide)⟩) (fun c => ⟨fun hc => absurd rfl hc, fun _ => ⟨o11 R.1, ?_⟩⟩)
    · obtain ⟨q, hq, ey⟩ := ix_in (show cn V e < 2147483648 by omega) c d
      obtain ⟨a, b, c, d⟩ := thrw R m 0
      show (sI (setI S (A 11 0) 23 (z 0)) (A 11 0) 23 ≤ 0 → _) ∧ _
      exact ⟨fun _ => h0 e q _ _ he rfl hq ey a b c, fun hc => absurd (le0 d) hc⟩
    · have hn := ix_out (show cn V e < 2147483648 by omega) c
      obtain ⟨a, b, c, d⟩ := thrw R m 2
      show (sI (setI S (A 11 0) 23 (z 2)) (A 11 0) 23 ≤ 0 → _) ∧ _
      exact ⟨fun hc => absurd hc (gt0 d (by decide)), fun _ => h2 e _ _ he rfl hn a b c⟩
  · obtain ⟨a, b, c, d⟩ := thrw R m 1
    show (sI (setI S (A 11 0) 23 (z 1)) (A 11 0) 23 ≤ 0 → _) ∧ _
    exact ⟨fun hc => absurd hc (gt0 d (by decide)), fun _ => h1 h _ _ a b c⟩
theorem t_workOf (R : Rq G S A U M) (m : MV V M) (I : I1 V) (J : I2 V) {x y : Int32} {f : Int32 → St → Prop} (hf : ∀ k r S' M', spWk V x y k r → Rq G S' A U M' → MV V M' → Kf M M' k → f r S') : w_X10_workOf S (A 11 0) x y f := by
  have bE8 := I.2.2.2.2.2.2.2
  unfold w_X10_workOf
  refine ⟨o11 R.1, t_hasNo R m I J (fun e q S' M' he ex hq ey a b c => ?_) (fun h S' M' a b c => ?_) (fun e S' M' he ex hn a b c => ?_)⟩
  · subst ex ey
    have hc5 := (J e he).2.1
    refine ⟨fun _ => ⟨o11 a.1, _, p11_18 a.1, o27 a.1 (by decide), ?_⟩, fun hc => absurd rfl hc⟩
    rw [show (5 : Int32) = z 5 from rfl, z_mul, z_add]
    refine ⟨v27 a.1 (by decide) (show 5 * e + q < 40 by omega) (by omega), ?_⟩
    rw [r27 a.1 b (k := 18) (by decide) (show 5 * e + q < 40 by omega) (by omega), ((J e he).2.2 q hq).1]
    exact hf 0 _ _ _ (Or.inr ⟨e, he, rfl, Or.inr ⟨q, hq, rfl, rfl, rfl⟩⟩) a b c
  · exact ⟨fun hc => absurd hc (by decide), fun _ => hf 1 0 _ _ (Or.inl ⟨h, rfl⟩) a b c⟩
  · exact ⟨fun hc => absurd hc (by decide), fun _ => hf 2 0 _ _ (Or.inr ⟨e, he, ex, Or.inl ⟨hn, rfl⟩⟩) a b c⟩
end MT
