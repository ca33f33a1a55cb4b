/-! ===== the reference settles and looks ===== -/
/-- what the reference does leaves the class alone, and what was thrown -/
def Lf (M M' : MM) : Prop := (∀ t, t ≠ 11 → t ≠ 27 → M' t = M t) ∧ M' 11 0 23 = M 11 0 23
theorem Lf.refl (M : MM) : Lf M M := ⟨fun _ _ _ => rfl, rfl⟩
theorem Lf.trans {M M' M'' : MM} (h : Lf M M') (k : Lf M' M'') : Lf M M'' := ⟨fun t a b => (k.1 t a b).trans (h.1 t a b), k.2.trans h.2⟩
theorem Tf.lf {M M' : MM} (h : Tf M M') : Lf M M' := ⟨fun t _ b => h.1 t b, by rw [h.1 11 (by decide)]⟩
theorem Lf.up27 (M : MM) (i k : Nat) (v : Int32) : Lf M (up3 M 27 i k v) := ⟨fun t _ b => up3_t M v b, by rw [up3_t M v (show 11 ≠ 27 by decide)]⟩
def hgK (V : VV) (e : Nat) (p : Nat → Nat) (c : Nat) : VV := fun k i => if k = 19 ∧ 5 * e ≤ i ∧ i < 5 * e + c then z (p (i - 5 * e)) else V k i
section MS
variable {A : Nat → Nat → Nat} {V U : VV} {G : (Nat → Nat → Int64) × (Nat → Nat → UInt64)}
theorem hgK_o {e c k : Nat} {p : Nat → Nat} (h : k ≠ 19) : hgK V e p c k = V k := by
  funext i
  unfold hgK
  rw [if_neg (fun a => h a.1)]
theorem hgK_0 {e : Nat} {p : Nat → Nat} : hgK V e p 0 = V := by
  funext k i
  unfold hgK
  rw [if_neg (by omega)]
theorem hgK_s {e c : Nat} {p : Nat → Nat} {M : MM} (m : MV (hgK V e p c) M) : MV (hgK V e p (c + 1)) (up3 M 27 19 (5 * e + c) (z (p c))) := by
  refine ⟨fun k hk i hi => ?_, fun k h1 h2 => ?_⟩
  · by_cases h : k = 19
    · subst h
      rw [up3_s]
      by_cases h2 : i = 5 * e + c
      · subst h2
        rw [upd_s]
        unfold hgK
        rw [if_pos ⟨rfl, by omega, by omega⟩]
        congr 2
        omega
      · rw [upd_n _ _ h2, m.1 19 hk i hi]
        unfold hgK
        by_cases h3 : 5 * e ≤ i ∧ i < 5 * e + c
        · rw [if_pos ⟨rfl, h3⟩, if_pos ⟨rfl, by omega, by omega⟩]
        · rw [if_neg (fun a => h3 a.2), if_neg (by omega)]
    · rw [up3_i M _ h, m.1 k hk i hi, hgK_o h, hgK_o h]
  · rw [up3_t M _ (by decide), m.2 k h1 h2, hgK_o (by omega), hgK_o (by omega)]
theorem setl_K {e k i : Nat} {p : Nat → Nat} (hk : k ≠ 28) : setl V e p k i = if k = 16 ∧ i = e then 112 else hgK V e p (cn V e) k i := by
  unfold setl
  rw [up2_n _ _ hk]
  unfold hgV hgK
  by_cases h1 : k = 19 ∧ 5 * e ≤ i ∧ i < 5 * e + cn V e
  · rw [if_pos h1, if_neg (by omega), if_pos h1]
  · rw [if_neg h1, if_neg h1]
theorem setl_MV {e : Nat} {p : Nat → Nat} {M : MM} (m : MV (hgK V e p (cn V e)) M) : MV (setl V e p) (up3 (up3 M 27 16 e 112) 11 0 28 (V 28 0 + 1)) := by
  refine ⟨fun k hk i hi => ?_, fun k h1 h2 => ?_⟩
  · rw [up3_t _ _ (by decide), setl_K (by omega)]
    by_cases h : k = 16
    · subst h
      rw [up3_s]
      by_cases h2 : i = e
      · rw [if_pos ⟨rfl, h2⟩, h2, upd_s]
      · rw [if_neg (fun a => h2 a.2), upd_n _ _ h2]
        exact m.1 16 hk i hi
    · rw [if_neg (fun a => h a.1), up3_i _ _ h]
      exact m.1 k hk i hi
  · rw [up3_s]
    by_cases h : k = 28
    · subst h
      rw [upd_s, setl_28]
    · rw [upd_n _ _ h, up3_t _ _ (by decide), m.2 k h1 h2, hgK_o (by omega), setl_o (by omega) (by omega) h]
theorem l_settles (I : I1 V) (J : I2 V) {e : Nat} {p : Nat → Nat} {M0 : MM} {f : Int32 → St → Prop} (he : e < nE V)
    (hf : ∀ S' M', Rq G S' A U M' → MV (setl V e p) M' → Lf M0 M' → f 1 S') : ∀ n k S M, k ≤ cn V e → cn V e < k + n → Rq G S A U M → MV (hgK V e p k) M → tri p (cn V e) (2 * nR V) M → Lf M0 M → wl_X10_settles_12 f n S (A 11 0) (z e) (z k) := by
  obtain ⟨i24, _, _, _, b1, b2, b3, b4⟩ := I
  obtain ⟨j1, j2, j3⟩ := J e he
  intro n
  induction n with
  | zero => intro k S M k1 k2; omega
  | succ n ih =>
    intro k S M k1 k2 R m ht lf
    unfold wl_X10_settles_12
    refine ⟨o11 R.1, _, p11_17 R.1, o27 R.1 (by decide), v27 R.1 (by decide) (show e < 8 by omega) (by omega), ?_⟩
    rw [r27 R.1 m (k := 17) (by decide) (show e < 8 by omega) (by omega), hgK_o (by decide), j1]
    refine ⟨fun hc => ?_, fun hc => ?_⟩
    · have h3 := z_ex k1 (by omega) hc
      subst h3
      refine ⟨_, p11_16 R.1, o27 R.1 (by decide), v27 R.1 (by decide) (show e < 8 by omega) (by omega), ?_⟩
      rw [z_c (by omega)]
      have R2 := R27 (k := e) (v := 112) R (show 16 < 23 by decide)
      have e1 : sI (setI S (A 27 16) e 112) (A 11 0) 28 = V 28 0 := by
        rw [i11 R2.1, up3_t _ _ (by decide), m.2 28 (by decide) (by decide), hgK_o (by decide)]
      show f 1 (setI (setI S (A 27 16) e 112) (A 11 0) 28 (sI (setI S (A 27 16) e 112) (A 11 0) 28 + 1))
      rw [e1]
      refine hf _ _ (Rq_set R2 (show us U 11 0 from rfl) (fun h => by omega)) (setl_MV m) (lf.trans ⟨fun t a b => ?_, ?_⟩)
      · rw [up3_t _ _ a, up3_t _ _ b]
      · rw [up3_s, upd_n _ _ (by decide), up3_t _ _ (by decide)]
    · have h3 := z_go k1 (by omega) hc
      refine ⟨_, p11_19 R.1, _, p11_20 R.1, o27 R.1 (by decide), v27 R.1 (by decide) (show k < 5 by omega) (by omega), o27 R.1 (by decide), ?_⟩
      rw [show (5 : Int32) = z 5 from rfl, z_mul, z_add, tq20 R.1 (by omega), (ht k h3).1]
      refine ⟨v27 R.1 (by decide) (show 5 * e + k < 40 by omega) (by omega), ?_⟩
      rw [z_c (by omega), z_s]
      refine ih (k + 1) _ _ (by omega) (by omega) (R27 R (by decide)) (hgK_s m) (fun j hj => ?_) (lf.trans (Lf.up27 _ _ _ _))
      rw [up3_i _ _ (by decide)]
      exact ht j hj
theorem t_settles (I : I1 V) (J : I2 V) (P : I3 V) (Q : I4 V) {e : Nat} {S : St} {M : MM} {f : Int32 → St → Prop} (he : e < nE V) (hc0 : 0 < cn V e) (hn : V 16 e ≠ 112) (R : Rq G S A U M) (m : MV V M)
    (h1 : ∀ S' M' p, pln V e p → Rq G S' A U M' → MV (setl V e p) M' → Lf M M' → f 1 S')
    (h0 : nopl V e → ∀ S' M', Rq G S' A U M' → MV V M' → Lf M M' → f 0 S') : w_X10_settles S (A 11 0) (z e) f := by
  unfold w_X10_settles w_X10_plans
  refine ⟨o11 R.1, cn V e + 1, l_mplans I J P Q he hc0 R m (fun ha S' M' p R' tf hp ht => ?_) (fun hx S' M' R' tf => ?_) _ 0 (Nat.zero_le _) (by omega) (fun j hj => absurd hj (by omega))⟩
  · refine ⟨fun _ => ⟨cn V e + 1, l_settles (p := p) (M0 := M) I J he (fun S2 M2 R2 m2 lf => ?_) _ 0 S' M' (Nat.zero_le _) (by omega) R' (by rw [hgK_0]; exact tf.mv m) ht tf.lf⟩, fun hc => absurd hc (by decide)⟩
    exact h1 S2 M2 p ⟨ha, Fi_iff I J Q he hn hp⟩ R2 m2 lf
  · refine ⟨fun hc => absurd rfl hc, fun _ => h0 (fun ⟨p, ha, hv⟩ => hx ⟨p, ha, (Va_iff I J Q he hn).2 hv⟩) S' M' R' (tf.mv m) tf.lf⟩
end MS
