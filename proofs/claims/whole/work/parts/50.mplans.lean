/-! ===== the reference's plan, wall after wall ===== -/
/-- only the row of what is tried differs -/
def Tf (M M' : MM) : Prop := (∀ t, t ≠ 27 → M' t = M t) ∧ ∀ j, j ≠ 20 → M' 27 j = M 27 j
theorem Tf.refl (M : MM) : Tf M M := ⟨fun _ _ => rfl, fun _ _ => rfl⟩
theorem Tf.trans {M M' M'' : MM} (h : Tf M M') (k : Tf M' M'') : Tf M M'' := ⟨fun t a => (k.1 t a).trans (h.1 t a), fun t a => (k.2 t a).trans (h.2 t a)⟩
theorem Tf.up (M : MM) (k : Nat) (v : Int32) : Tf M (up3 M 27 20 k v) := ⟨fun _ a => up3_t M v a, fun _ a => up3_i M v a⟩
theorem Tf.mv {V : VV} {M M' : MM} (h : Tf M M') (m : MV V M) : MV V M' := ⟨fun k hk i hi => by rw [h.2 k (by omega)]; exact m.1 k hk i hi, fun k h1 h2 => by rw [h.1 11 (by decide)]; exact m.2 k h1 h2⟩
theorem okm_lo (V : VV) (e : Nat) : Lo (okm V e) := by
  intro p q i h hk
  obtain ⟨h1, h2, h3, h4⟩ := hk
  have e1 := h i (Nat.le_refl _)
  have e2 : own V e i q = own V e i p := su_c (fun k hk => by rw [e1, h k (by omega)])
  refine ⟨by rw [← e1]; exact h1, by rw [← e1]; exact h2, fun d a b => ?_, fun k hk => by rw [← e1, ← h k (by omega)]; exact h4 k hk⟩
  rw [e2, ← e1]
  exact h3 d a b
section MQ
variable {A : Nat → Nat → Nat} {V U : VV} {G : (Nat → Nat → Int64) × (Nat → Nat → UInt64)}
def Rq (G : (Nat → Nat → Int64) × (Nat → Nat → UInt64)) (S : St) (A : Nat → Nat → Nat) (U : VV) (M : MM) : Prop := Rep S A U M ∧ sJ S = G.1 ∧ sE S = G.2
theorem Rq_set {S : St} {M : MM} {t i k : Nat} {v : Int32} (R : Rq G S A U M) (h : us U t i) (hk : (t = 0 ∨ t = 20) → k ≠ 2) : Rq G (setI S (A t i) k v) A U (up3 M t i k v) := ⟨Rep_set R.1 h hk, R.2⟩
theorem R27 {S : St} {M : MM} (R : Rq G S A U M) {j k : Nat} {v : Int32} (h : j < 23) : Rq G (setI S (A 27 j) k v) A U (up3 M 27 j k v) := Rq_set R (show us U 27 j from h) (fun h => by omega)
theorem tri_up {p : Nat → Nat} {i c k : Nat} {M : MM} {v : Int32} (h : tri p i c M) (hk : i ≤ k) : tri p i c (up3 M 27 20 k v) := fun j hj => by
  rw [up3_s, upd_n _ _ (by omega)]
  exact h j hj
theorem c_plans (I : I1 V) (J : I2 V) (Q : I4 V) {e : Nat} {M0 : MM} {f : Int32 → St → Prop} (he : e < nE V) (hc0 : 0 < cn V e) (m0 : MV V M0) : ∀ d i S M p w, i + d = cn V e → Rq G S A U M → Tf M0 M → tri p i (2 * nR V) M → (∀ j, j < i → okm V e p j) → (i < cn V e → M 27 20 i = z w - 1 ∧ w ≤ 2 * nR V ∧ HI (okm V e) (cn V e) (2 * nR V) i w p) →
    (∀ S' M', Rq G S' A U M' → Tf M0 M' → tri p i (2 * nR V) M' → HF (okm V e) (cn V e) (2 * nR V) i p → ∃ n, wl_X10_plans_47 f n S' (A 11 0) (z e) (z i + (-1))) →
    (∀ S' M' p', Rq G S' A U M' → Tf M0 M' → HT (okm V e) (cn V e) (2 * nR V) i p p' → tri p' (cn V e) (2 * nR V) M' → f 1 S') → ∃ n, wl_X10_plans_47 f n S (A 11 0) (z e) (z i) := by
  have II := I
  obtain ⟨i24, _, _, _, b1, b2, b3, b4⟩ := I
  obtain ⟨j1, j2, j3⟩ := J e he
  intro d
  induction d with
  | zero =>
    intro i S M p w hd R tf ht ho hcur Kf Ks
    have hi : i = cn V e := by omega
    subst hi
    refine ⟨1, ?_⟩
    unfold wl_X10_plans_47
    have m := tf.mv m0
    refine ⟨fun hc => absurd hc (z_neg (by omega)), fun _ => ⟨o11 R.1, _, p11_17 R.1, o27 R.1 (by decide), v27 R.1 (by decide) (show e < 8 by omega) (by omega), ?_⟩⟩
    rw [r27 R.1 m (k := 17) (by decide) (show e < 8 by omega) (by omega), j1]
    refine ⟨fun _ => ⟨fun _ => ?_, fun hc => ?_⟩, fun hc => absurd ((z_le (by omega) (by omega)).2 (Nat.le_refl _)) hc⟩
    · exact Ks S M p R tf (HT_full (fun j hj => ⟨(ht j hj).2, ho j hj⟩)) ht
    · exact absurd ((z_lt (a := 0) (by decide) (by omega)).2 hc0) hc
  | succ d ihd =>
    intro i S M p w hd R tf ht ho hcur Kf Ks
    have hi : i < cn V e := by omega
    obtain ⟨hM, hwl, hHI⟩ := hcur hi
    suffices hs : ∀ u w S M, w + u = 2 * nR V → Rq G S A U M → Tf M0 M → tri p i (2 * nR V) M → M 27 20 i = z w - 1 → HI (okm V e) (cn V e) (2 * nR V) i w p → ∃ n, wl_X10_plans_47 f n S (A 11 0) (z e) (z i) from hs (2 * nR V - w) w S M (by omega) R tf ht hM hHI
    intro u
    induction u with
    | zero =>
      intro w S M hu R tf ht hM hHI
      have m := tf.mv m0
      have R2 := R27 (k := i) (v := z w) R (show 20 < 23 by decide)
      have t2 := tf.trans (Tf.up M i (z w))
      have hw : w = 2 * nR V := by omega
      obtain ⟨n, hn⟩ := Kf _ _ R2 t2 (tri_up ht (Nat.le_refl _)) (HI_end (hw ▸ hHI) hi)
      refine ⟨n + 1, ?_⟩
      unfold wl_X10_plans_47
      refine ⟨fun hc => absurd hc (z_neg (by omega)), fun _ => ⟨o11 R.1, _, p11_17 R.1, o27 R.1 (by decide), v27 R.1 (by decide) (show e < 8 by omega) (by omega), ?_⟩⟩
      rw [r27 R.1 m (k := 17) (by decide) (show e < 8 by omega) (by omega), j1]
      refine ⟨fun hc => absurd hi (by have := (z_le (by omega) (by omega)).1 hc; omega), fun _ => ⟨_, p11_20 R.1, o27 R.1 (by decide), v27 R.1 (by decide) (show i < 5 by omega) (by omega), ?_⟩⟩
      have e1 : z w - 1 + 1 = z w := by rw [Int32.sub_add_cancel]
      rw [tq20 R.1 (by omega), hM, e1, z_c (by omega)]
      have e2 : sI (setI S (A 27 20) i (z w)) (A 27 20) i = z w := by rw [i27 R2.1 (by decide), up3_s, upd_s]
      have e3 : sI (setI S (A 27 20) i (z w)) (A 11 0) 24 = z (nR V) := by rw [r11 R2.1 (t2.mv m0) (by decide) (by decide), i24]
      show (¬ sI (setI S (A 27 20) i (z w)) (A 27 20) i = 2 * sI (setI S (A 27 20) i (z w)) (A 11 0) 24 → _) ∧ (sI (setI S (A 27 20) i (z w)) (A 27 20) i = 2 * sI (setI S (A 27 20) i (z w)) (A 11 0) 24 → _)
      rw [e2, e3, show (2 : Int32) = z 2 from rfl, z_mul, z_eq (by omega) (by omega)]
      exact ⟨fun hc => absurd hw hc, fun _ => hn⟩
    | succ u ihu =>
      intro w S M hu R tf ht hM hHI
      have m := tf.mv m0
      have R2 := R27 (k := i) (v := z w) R (show 20 < 23 by decide)
      have t2 := tf.trans (Tf.up M i (z w))
      have hw : w < 2 * nR V := by omega
      have ht2 : tri p i (2 * nR V) (up3 M 27 20 i (z w)) := tri_up ht (Nat.le_refl _)
      have ht3 : tri (pu p i w) (i + 1) (2 * nR V) (up3 M 27 20 i (z w)) := fun j hj => by
        by_cases h : j = i
        · rw [h, up3_s, upd_s, pu_s]
          exact ⟨rfl, hw⟩
        · rw [pu_n p w h]
          exact ht2 j (by omega)
      have e1 : z w - 1 + 1 = z w := by rw [Int32.sub_add_cancel]
      have e2 : sI (setI S (A 27 20) i (z w)) (A 27 20) i = z w := by rw [i27 R2.1 (by decide), up3_s, upd_s]
      have e3 : sI (setI S (A 27 20) i (z w)) (A 11 0) 24 = z (nR V) := by rw [r11 R2.1 (t2.mv m0) (by decide) (by decide), i24]
      have ew : z w = z (w + 1) - 1 := (z_pred w).symm
      -- one look at this wall, given what follows
      have step : ∀ n, (okm V e (pu p i w) i → (i + 1 = cn V e → wl_X10_plans_47 f n (setI S (A 27 20) i (z w)) (A 11 0) (z e) (z (i + 1))) ∧ (i + 1 < cn V e → wl_X10_plans_47 f n (setI (setI S (A 27 20) i (z w)) (A 27 20) (i + 1) (-1)) (A 11 0) (z e) (z (i + 1)))) → (¬ okm V e (pu p i w) i → wl_X10_plans_47 f n (setI S (A 27 20) i (z w)) (A 11 0) (z e) (z i)) → wl_X10_plans_47 f (n + 1) S (A 11 0) (z e) (z i) := fun n hg hb => by
        unfold wl_X10_plans_47
        refine ⟨fun hc => absurd hc (z_neg (by omega)), fun _ => ⟨o11 R.1, _, p11_17 R.1, o27 R.1 (by decide), v27 R.1 (by decide) (show e < 8 by omega) (by omega), ?_⟩⟩
        rw [r27 R.1 m (k := 17) (by decide) (show e < 8 by omega) (by omega), j1]
        refine ⟨fun hc => absurd hi (by have := (z_le (by omega) (by omega)).1 hc; omega), fun _ => ⟨_, p11_20 R.1, o27 R.1 (by decide), v27 R.1 (by decide) (show i < 5 by omega) (by omega), ?_⟩⟩
        rw [tq20 R.1 (by omega), hM, e1, z_c (by omega)]
        show (¬ sI (setI S (A 27 20) i (z w)) (A 27 20) i = 2 * sI (setI S (A 27 20) i (z w)) (A 11 0) 24 → _) ∧ (sI (setI S (A 27 20) i (z w)) (A 27 20) i = 2 * sI (setI S (A 27 20) i (z w)) (A 11 0) 24 → _)
        rw [e2, e3, show (2 : Int32) = z 2 from rfl, z_mul, z_eq (by omega) (by omega)]
        refine ⟨fun _ => t_hangs R2.1 (t2.mv m0) II J Q he hi ht3 (fun a => ?_) (fun a => ?_), fun hc => absurd hc (by omega)⟩
        · refine ⟨fun hc => absurd hc (by decide), fun _ => ⟨o11 R2.1, _, p11_17 R2.1, o27 R2.1 (by decide), v27 R2.1 (by decide) (show e < 8 by omega) (by omega), ?_⟩⟩
          rw [r27 R2.1 (t2.mv m0) (k := 17) (by decide) (show e < 8 by omega) (by omega), j1, z_s, z_le (by omega) (by omega)]
          refine ⟨fun x => (hg a).1 (by omega), fun x => ⟨_, p11_20 R2.1, o27 R2.1 (by decide), v27 R2.1 (by decide) (show i + 1 < 5 by omega) (by omega), ?_⟩⟩
          rw [z_c (by omega)]
          exact (hg a).2 (by omega)
        · exact ⟨fun _ => hb a, fun hc => absurd rfl hc⟩
      by_cases hk : okm V e (pu p i w) i
      · have hov := Va_pu (okm_lo V e) (fun j hj => ⟨(ht j hj).2, ho j hj⟩) hw hk
        have Kf' : ∀ S' M', Rq G S' A U M' → Tf M0 M' → tri (pu p i w) (i + 1) (2 * nR V) M' → HF (okm V e) (cn V e) (2 * nR V) (i + 1) (pu p i w) → ∃ n, wl_X10_plans_47 f n S' (A 11 0) (z e) (z (i + 1) + (-1)) := fun S' M' R' tf' ht' hf' => by
          rw [z_dec]
          refine ihu (w + 1) S' M' (by omega) R' tf' (fun j hj => ?_) ?_ (HI_dead hHI hf')
          · have := ht' j (by omega)
            rw [pu_n p w (by omega)] at this
            exact this
          · have := (ht' i (by omega)).1
            rw [pu_s] at this
            rw [this]
            exact ew
        have Ks' : ∀ S' M' p', Rq G S' A U M' → Tf M0 M' → HT (okm V e) (cn V e) (2 * nR V) (i + 1) (pu p i w) p' → tri p' (cn V e) (2 * nR V) M' → f 1 S' := fun S' M' p' R' tf' ht' htr => Ks S' M' p' R' tf' (HT_up hHI ht') htr
        by_cases hx : i + 1 = cn V e
        · obtain ⟨n, hn⟩ := ihd (i + 1) _ _ (pu p i w) 0 (by omega) R2 t2 ht3 (fun j hj => (hov j hj).2) (fun h => absurd h (by omega)) Kf' Ks'
          exact ⟨n + 1, step n (fun _ => ⟨fun _ => hn, fun h => absurd h (by omega)⟩) (fun h => absurd hk h)⟩
        · have R3 := R27 (k := i + 1) (v := -1) R2 (show 20 < 23 by decide)
          have t3 := t2.trans (Tf.up (up3 M 27 20 i (z w)) (i + 1) (-1))
          obtain ⟨n, hn⟩ := ihd (i + 1) _ _ (pu p i w) 0 (by omega) R3 t3 (tri_up ht3 (Nat.le_refl _)) (fun j hj => (hov j hj).2) (fun _ => ⟨by rw [up3_s, upd_s]; decide, Nat.zero_le _, HI_0⟩) Kf' Ks'
          exact ⟨n + 1, step n (fun _ => ⟨fun h => absurd h hx, fun _ => hn⟩) (fun h => absurd hk h)⟩
      · obtain ⟨n, hn⟩ := ihu (w + 1) _ _ (by omega) R2 t2 ht2 (by rw [up3_s, upd_s]; exact ew) (HI_bad (okm_lo V e) hHI hi hk)
        exact ⟨n + 1, step n (fun h => absurd h hk) (fun _ => hn)⟩
theorem l_mplans (I : I1 V) (J : I2 V) (P : I3 V) (Q : I4 V) {e : Nat} {S : St} {M : MM} {f : Int32 → St → Prop} (he : e < nE V) (hc0 : 0 < cn V e) (R : Rq G S A U M) (m : MV V M)
    (h1 : (∀ j, j < cn V e → takes V e (ic V e j)) → ∀ S' M' p, Rq G S' A U M' → Tf M M' → Fi (okm V e) (cn V e) (2 * nR V) p → tri p (cn V e) (2 * nR V) M' → f 1 S')
    (h0 : (¬ ∃ p, (∀ j, j < cn V e → takes V e (ic V e j)) ∧ Va (okm V e) (cn V e) (2 * nR V) p) → ∀ S' M', Rq G S' A U M' → Tf M M' → f 0 S') : ∀ n k, k ≤ cn V e → cn V e < k + n → (∀ j, j < k → takes V e (ic V e j)) → wl_X10_plans_2 f n S (A 11 0) (z e) (z k) := by
  have II := I
  obtain ⟨i24, _, _, _, b1, b2, b3, b4⟩ := I
  obtain ⟨j1, j2, j3⟩ := J e he
  intro n
  induction n with
  | zero => intro k h1 h2; omega
  | succ n ih =>
    intro k k1 k2 hn
    unfold wl_X10_plans_2
    refine ⟨o11 R.1, _, p11_17 R.1, o27 R.1 (by decide), v27 R.1 (by decide) (show e < 8 by omega) (by omega), ?_⟩
    rw [r27 R.1 m (k := 17) (by decide) (show e < 8 by omega) (by omega), j1]
    refine ⟨fun hc => ?_, fun hc => ?_⟩
    · have h3 := z_ex k1 (by omega) hc
      subst h3
      refine ⟨_, p11_20 R.1, o27 R.1 (by decide), v27 R.1 (i := 0) (by decide) (by decide) (by decide), ?_⟩
      have R2 := R27 (k := 0) (v := -1) R (show 20 < 23 by decide)
      refine c_plans (M0 := M) II J Q he hc0 m (cn V e) 0 _ _ (fun _ => 0) 0 (by omega) R2 (Tf.up M 0 (-1)) (fun j hj => absurd hj (by omega)) (fun j hj => absurd hj (by omega)) (fun _ => ⟨by rw [up3_s, upd_s]; decide, Nat.zero_le _, HI_0⟩) (fun S' M' R' tf' _ hf' => ?_) (fun S' M' p' R' tf' ht' htr => h1 hn S' M' p' R' tf' (HT_Fi ht') htr)
      refine ⟨1, ?_⟩
      unfold wl_X10_plans_47
      have m' := tf'.mv m
      refine ⟨fun _ => ⟨fun hc => absurd hc (by decide), fun _ => ⟨o11 R'.1, _, p11_17 R'.1, o27 R'.1 (by decide), v27 R'.1 (by decide) (show e < 8 by omega) (by omega), ?_⟩⟩, fun hc => absurd (by decide) hc⟩
      rw [r27 R'.1 m' (k := 17) (by decide) (show e < 8 by omega) (by omega), j1, show (0 : Int32) = z 0 from rfl, z_eq (by omega) (by decide)]
      exact ⟨fun _ => h0 (fun ⟨p, _, hv⟩ => HF_no hf' p hv) S' M' R' tf', fun hc => absurd hc (by omega)⟩
    · have h3 := z_go k1 (by omega) hc
      obtain ⟨y1, y2, _⟩ := j3 k h3
      rw [show (5 : Int32) = z 5 from rfl, z_mul, z_add]
      refine ⟨_, p11_18 R.1, o27 R.1 (by decide), v27 R.1 (by decide) (show 5 * e + k < 40 by omega) (by omega), ?_⟩
      rw [r27 R.1 m (k := 18) (by decide) (show 5 * e + k < 40 by omega) (by omega), y1]
      refine t_takes R.1 m II J P Q he y2 (fun a => ?_) (fun a => ?_)
      · refine ⟨fun _ => ?_, fun hc => absurd hc (by decide)⟩
        rw [z_s]
        refine ih (k + 1) (by omega) (by omega) (fun j hj => ?_)
        by_cases h : j = k
        · rw [h]; exact a
        · exact hn j (by omega)
      · exact ⟨fun hc => absurd rfl hc, fun _ => h0 (fun ⟨p, ht, _⟩ => a (ht k h3)) S M R (Tf.refl M)⟩
end MQ
