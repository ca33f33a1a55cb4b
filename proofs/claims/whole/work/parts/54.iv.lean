/-! ===== what holds in every museum, kept where only states and walls change ===== -/
section IV
variable {V V' : VV}
def Sm (V V' : VV) : Prop := ∀ k, k ≠ 16 → k ≠ 19 → k ≠ 28 → V' k = V k
theorem sm_nR (s : Sm V V') : nR V' = nR V := by unfold nR; rw [s 24 (by decide) (by decide) (by decide)]
theorem sm_nL (s : Sm V V') : nL V' = nL V := by unfold nL; rw [s 25 (by decide) (by decide) (by decide)]
theorem sm_nW (s : Sm V V') : nW V' = nW V := by unfold nW; rw [s 26 (by decide) (by decide) (by decide)]
theorem sm_nE (s : Sm V V') : nE V' = nE V := by unfold nE; rw [s 27 (by decide) (by decide) (by decide)]
theorem sm_cn (s : Sm V V') : cn V' = cn V := by funext e; unfold cn; rw [s 17 (by decide) (by decide) (by decide)]
theorem sm_ic (s : Sm V V') : ic V' = ic V := by funext e k; unfold ic; rw [s 18 (by decide) (by decide) (by decide)]
theorem sm_ow (s : Sm V V') : ow V' = ow V := by funext w; unfold ow; rw [s 11 (by decide) (by decide) (by decide)]
theorem sm_lent (s : Sm V V') : lent V' = lent V := by
  funext w e
  unfold lent
  rw [sm_ow s, s 10 (by decide) (by decide) (by decide), s 3 (by decide) (by decide) (by decide), s 4 (by decide) (by decide) (by decide), s 5 (by decide) (by decide) (by decide), s 13 (by decide) (by decide) (by decide), s 14 (by decide) (by decide) (by decide)]
theorem sm_iv (s : Sm V V') (I : Iv V) (hs : ∀ e, e < nE V → V' 16 e = 100 ∨ V' 16 e = 112 ∨ V' 16 e = 119 ∨ V' 16 e = 99) (hc : ∀ e, e < nE V → (V' 16 e = 112 ∨ V' 16 e = 119) → 0 < cn V e)
    (hw : ∀ e, e < nE V → V' 16 e = 112 → ∀ k, k < cn V e → (∃ w, w < 2 * nR V ∧ V' 19 (5 * e + k) = z w) ∧ lent V (ic V e k) e) (h7 : ∀ e, nE V ≤ e → e < 8 → ∀ k, k < 5 → V' 19 (5 * e + k) = 0) : Iv V' := by
  obtain ⟨i1, i2, i3, i4, i5, i6, i7⟩ := I
  unfold Iv I1 I2 I3 I4 I5 I6 I7 ST KO
  rw [sm_nR s, sm_nL s, sm_nW s, sm_nE s, sm_cn s, sm_ic s, sm_ow s, sm_lent s]
  have g := fun k (h : k ≠ 16 ∧ k ≠ 19 ∧ k ≠ 28) => s k h.1 h.2.1 h.2.2
  rw [g 0 (by decide), g 1 (by decide), g 2 (by decide), g 3 (by decide), g 4 (by decide), g 5 (by decide), g 6 (by decide), g 10 (by decide), g 11 (by decide), g 12 (by decide), g 13 (by decide), g 14 (by decide), g 15 (by decide), g 17 (by decide), g 18 (by decide), g 24 (by decide), g 25 (by decide), g 26 (by decide), g 27 (by decide)]
  exact ⟨i1, i2, i3, i4, ⟨hs, hc, hw⟩, i6, fun e a b => ⟨(i7 e a b).1, h7 e a b⟩⟩
theorem setl_Sm {e : Nat} {p : Nat → Nat} : Sm V (setl V e p) := fun _ a b c => setl_o a b c
theorem setl_Iv {e : Nat} {p : Nat → Nat} (I : Iv V) (he : e < nE V) (hs : V 16 e = 119) (hp : pln V e p) : Iv (setl V e p) := by
  have II := I
  obtain ⟨i1, i2, i3, i4, ⟨i5, i5b, i5c⟩, i6, i7⟩ := I
  have hc5 := (i2 e he).2.1
  refine sm_iv setl_Sm II (fun g hg => ?_) (fun g hg => ?_) (fun g hg => ?_) (fun g hg g8 k hk => ?_)
  · rw [setl_16]
    split
    · exact Or.inr (Or.inl rfl)
    · exact i5 g hg
  · rw [setl_16]
    split
    · next h => intro _; rw [h]; exact i5b e he (Or.inr hs)
    · exact i5b g hg
  · rw [setl_16]
    split
    · next h =>
      intro _ k hk
      rw [h] at hk ⊢
      rw [setl_19 hc5 (by omega), if_pos ⟨rfl, hk⟩]
      exact ⟨⟨p k, (hp.2.1 k hk).1, rfl⟩, (hp.1 k hk).2⟩
    · next h =>
      intro h2 k hk
      rw [setl_19 hc5 (by have := (i2 g hg).2.1; omega), if_neg (fun a => h a.1)]
      exact i5c g hg h2 k hk
  · rw [setl_19 hc5 hk, if_neg (fun a => by omega)]
    exact (i7 g hg g8).2 k hk
theorem up16_Sm {e : Nat} {v : Int32} : Sm V (up2 V 16 e v) := fun _ a _ _ => up2_n V v a
theorem up16_Iv {e : Nat} {v : Int32} (I : Iv V) (hv : v = 119 ∨ v = 99) (hc : v = 119 → 0 < cn V e) : Iv (up2 V 16 e v) := by
  have II := I
  obtain ⟨i1, i2, i3, i4, ⟨i5, i5b, i5c⟩, i6, i7⟩ := I
  have hx : ∀ g, up2 V 16 e v 16 g = if g = e then v else V 16 g := fun g => by
    rw [up2_s]
    by_cases h : g = e
    · rw [if_pos h, h, upd_s]
    · rw [if_neg h, upd_n _ _ h]
  have h19 : up2 V 16 e v 19 = V 19 := up2_n V v (by decide)
  refine sm_iv up16_Sm II (fun g hg => ?_) (fun g hg => ?_) (fun g hg => ?_) (fun g hg g8 k hk => ?_)
  · rw [hx]
    split
    · rcases hv with h | h
      · exact Or.inr (Or.inr (Or.inl h))
      · exact Or.inr (Or.inr (Or.inr h))
    · exact i5 g hg
  · rw [hx]
    split
    · next h =>
      intro a
      rw [h]
      rcases hv with b | b
      · exact hc b
      · rw [b] at a
        exact absurd a (by decide)
    · exact i5b g hg
  · rw [hx, h19]
    split
    · intro a
      rcases hv with b | b <;> (rw [b] at a; exact absurd a (by decide))
    · exact i5c g hg
  · rw [h19]
    exact (i7 g hg g8).2 k hk
theorem st1_Iv {e b : Nat} (I : Iv V) (he : e < nE V) (h : st1 V e V' b) : Iv V' ∧ nE V' = nE V ∧ nR V' = nR V := by
  rcases h with ⟨a, p, hp, rfl, _⟩ | ⟨_, rfl, _⟩
  · exact ⟨setl_Iv I he a hp, setl_nE, setl_nR⟩
  · exact ⟨I, rfl, rfl⟩
theorem td1_Iv {e b : Nat} (I : Iv V) (he : e < nE V) (h : td1 V e V' b) : Iv V' ∧ nE V' = nE V ∧ nR V' = nR V := by
  rcases h with ⟨a, _, rfl, _⟩ | ⟨_, rfl, _⟩
  · exact ⟨up16_Iv I (Or.inl rfl) (fun _ => I.2.2.2.2.1.2.1 e he (Or.inl a)), sm_nE up16_Sm, sm_nR up16_Sm⟩
  · exact ⟨I, rfl, rfl⟩
theorem it_Iv {st : VV → Nat → VV → Nat → Prop} (hs : ∀ V V' e b, Iv V → e < nE V → st V e V' b → Iv V' ∧ nE V' = nE V ∧ nR V' = nR V) {V : VV} (I : Iv V) : ∀ k V' r, k ≤ nE V → it st k V V' r → Iv V' ∧ nE V' = nE V ∧ nR V' = nR V := by
  intro k
  induction k with
  | zero =>
    intro V' r _ h
    obtain ⟨rfl, _⟩ := h
    exact ⟨I, rfl, rfl⟩
  | succ k ih =>
    intro V' r hk h
    obtain ⟨V1, r1, b, h1, h2, _⟩ := h
    obtain ⟨a1, a2, a3⟩ := ih V1 r1 (by omega) h1
    obtain ⟨b1, b2, b3⟩ := hs V1 V' k b a1 (by omega) h2
    exact ⟨b1, b2.trans a2, b3.trans a3⟩
theorem it_st1_Iv (I : Iv V) {r : Nat} (h : it st1 (nE V) V V' r) : Iv V' ∧ nE V' = nE V ∧ nR V' = nR V := it_Iv (fun _ _ _ _ I he h => st1_Iv I he h) I _ _ _ (Nat.le_refl _) h
theorem it_td1_Iv (I : Iv V) {r : Nat} (h : it td1 (nE V) V V' r) : Iv V' ∧ nE V' = nE V ∧ nR V' = nR V := it_Iv (fun _ _ _ _ I he h => td1_Iv I he h) I _ _ _ (Nat.le_refl _) h
end IV
/-! ===== the reference looks at those that wait ===== -/
section ML
variable {A : Nat → Nat → Nat} {U : VV} {G : (Nat → Nat → Int64) × (Nat → Nat → UInt64)}
theorem l_looks {V0 : VV} {M0 : MM} {f : Int32 → St → Prop} (hf : ∀ S' M' V' r, Rq G S' A U M' → MV V' M' → Iv V' → Lf M0 M' → it st1 (nE V0) V0 V' r → f (z r) S') : ∀ n k S M V r, k ≤ nE V0 → nE V0 < k + n → Rq G S A U M → MV V M → Iv V → nE V = nE V0 → Lf M0 M → it st1 k V0 V r → wl_X10_looks_4 f n S (A 11 0) (z r) (z k) := by
  intro n
  induction n with
  | zero => intro k S M V r k1 k2; omega
  | succ n ih =>
    intro k S M V r k1 k2 R m I hE lf hr
    obtain ⟨i1, i2, i3, i4, i5, i6, i7⟩ := I
    obtain ⟨_, _, _, i27, b1, b2, b3, b4⟩ := i1
    unfold wl_X10_looks_4
    refine ⟨o11 R.1, ?_⟩
    rw [r11 R.1 m (by decide) (by decide), i27, hE]
    refine ⟨fun hc => ?_, fun hc => ?_⟩
    · have h3 := z_ex k1 (by omega) hc
      subst h3
      exact hf S M V r R m ⟨⟨‹_›, ‹_›, ‹_›, i27, b1, b2, b3, b4⟩, i2, i3, i4, i5, i6, i7⟩ lf hr
    · have h3 := z_go k1 (by omega) hc
      have h3' : k < nE V := by omega
      have I : Iv V := ⟨⟨‹_›, ‹_›, ‹_›, i27, b1, b2, b3, b4⟩, i2, i3, i4, i5, i6, i7⟩
      refine ⟨_, p11_16 R.1, o27 R.1 (by decide), v27 R.1 (by decide) (show k < 8 by omega) (by omega), ?_⟩
      rw [r27 R.1 m (k := 16) (by decide) (show k < 8 by omega) (by omega), z_s, show z r + 0 = z r from Int32.add_zero _, z_s]
      refine ⟨fun a => ?_, fun a => t_settles I.1 i2 i3 i4 h3' (i5.2.1 k h3' (Or.inr a)) (by rw [a]; decide) R m (fun S' M' p hp R' m' lf' => ?_) (fun hn S' M' R' m' lf' => ?_)⟩
      · exact ih (k + 1) S M V r (by omega) (by omega) R m I hE lf ⟨V, r, 0, hr, Or.inr ⟨fun h => a h.1, rfl, rfl⟩, rfl⟩
      · exact ⟨fun hc => absurd hc (by decide), fun _ => ih (k + 1) S' M' _ (r + 1) (by omega) (by omega) R' m' (setl_Iv I h3' a hp) (by rw [setl_nE]; exact hE) (lf.trans lf') ⟨V, r, 1, hr, Or.inl ⟨a, p, hp, rfl, rfl⟩, rfl⟩⟩
      · exact ⟨fun _ => ih (k + 1) S' M' V r (by omega) (by omega) R' m' I hE (lf.trans lf') ⟨V, r, 0, hr, Or.inr ⟨fun h => nopl_pln hn h.2, rfl, rfl⟩, rfl⟩, fun hc => absurd rfl hc⟩
theorem t_looks {V : VV} {S : St} {M : MM} {f : Int32 → St → Prop} (R : Rq G S A U M) (m : MV V M) (I : Iv V) (hf : ∀ S' M' V' r, Rq G S' A U M' → MV V' M' → Iv V' → Lf M M' → it st1 (nE V) V V' r → f (z r) S') : w_X10_looks S (A 11 0) f := by
  unfold w_X10_looks
  exact ⟨nE V + 1, l_looks (V0 := V) (M0 := M) hf _ 0 S M V 0 (Nat.zero_le _) (by omega) R m I rfl (Lf.refl M) ⟨rfl, rfl⟩⟩
end ML
