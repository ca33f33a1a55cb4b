/-! ===== a new room keeps what holds ===== -/
section IV
variable {V V' : VV}
theorem cn_c (h : V' 17 = V 17) : cn V' = cn V := by funext e; unfold cn; rw [h]
theorem ic_c (h : V' 18 = V 18) : ic V' = ic V := by funext e k; unfold ic; rw [h]
theorem ow_c (h : V' 11 = V 11) : ow V' = ow V := by funext w; unfold ow; rw [h]
theorem lent_c (h3 : V' 3 = V 3) (h4 : V' 4 = V 4) (h5 : V' 5 = V 5) (h10 : V' 10 = V 10) (h11 : V' 11 = V 11) (h13 : V' 13 = V 13) (h14 : V' 14 = V 14) : lent V' = lent V := by
  funext w e
  unfold lent
  rw [ow_c h11, h3, h4, h5, h10, h13, h14]
theorem addR_row {h l f s : Int32} {k : Nat} (h0 : k ≠ 0) (h1 : k ≠ 1) (h2 : k ≠ 2) (h24 : k ≠ 24) : addR V h l f s k = V k := by
  unfold addR
  rw [up2_n _ _ h24, up2_n _ _ h2, up2_n _ _ h2, up2_n _ _ h1, up2_n _ _ h0]
theorem addR_0 {h l f s : Int32} : addR V h l f s 0 = upd (V 0) (nR V) h := by
  unfold addR
  rw [up2_n _ _ (by decide), up2_n _ _ (by decide), up2_n _ _ (by decide), up2_n _ _ (by decide), up2_s]
theorem addR_1 {h l f s : Int32} : addR V h l f s 1 = upd (V 1) (nR V) l := by
  unfold addR
  rw [up2_n _ _ (by decide), up2_n _ _ (by decide), up2_n _ _ (by decide), up2_s, up2_n _ _ (by decide)]
theorem addR_2 {h l f s : Int32} : addR V h l f s 2 = upd (upd (V 2) (2 * nR V) f) (2 * nR V + 1) s := by
  unfold addR
  rw [up2_n _ _ (by decide), up2_s, up2_s, up2_n _ _ (by decide), up2_n _ _ (by decide)]
theorem addR_24 {h l f s : Int32} : addR V h l f s 24 0 = z (nR V + 1) := by
  unfold addR
  rw [up2_s, upd_s]
theorem addR_Iv {h l f s : Int32} (I : Iv V) (hn : nR V < 4) (hi : inr h 0 100 ∧ inr l 0 100 ∧ inr f 1 400 ∧ inr s 1 400) : Iv (addR V h l f s) := by
  obtain ⟨⟨i24, i25, i26, i27, b1, b2, b3, b4⟩, i2, i3, i4, i5, i6, i7⟩ := I
  obtain ⟨q1, q2, q3, q4⟩ := addR_s (V := V) (h := h) (l := l) (f := f) (s := s) (by omega)
  have g := fun k (hk : k ≠ 0 ∧ k ≠ 1 ∧ k ≠ 2 ∧ k ≠ 24) => addR_row (V := V) (h := h) (l := l) (f := f) (s := s) hk.1 hk.2.1 hk.2.2.1 hk.2.2.2
  have gl := lent_c (V' := addR V h l f s) (V := V) (g 3 (by decide)) (g 4 (by decide)) (g 5 (by decide)) (g 10 (by decide)) (g 11 (by decide)) (g 13 (by decide)) (g 14 (by decide))
  unfold Iv I1 I2 I3 I4 I5 I6 I7 ST KO
  rw [q1, q2, q3, q4, cn_c (g 17 (by decide)), ic_c (g 18 (by decide)), ow_c (g 11 (by decide)), gl, addR_0, addR_1, addR_2, addR_24]
  rw [g 3 (by decide), g 4 (by decide), g 5 (by decide), g 6 (by decide), g 10 (by decide), g 11 (by decide), g 12 (by decide), g 13 (by decide), g 14 (by decide), g 15 (by decide), g 16 (by decide), g 17 (by decide), g 18 (by decide), g 19 (by decide), g 25 (by decide), g 26 (by decide), g 27 (by decide)]
  obtain ⟨c1, c2, c3⟩ := i4
  refine ⟨⟨rfl, i25, i26, i27, by omega, b2, b3, b4⟩, i2, i3, ⟨fun r hr => ?_, fun i hi2 => ?_, c3⟩, ⟨i5.1, i5.2.1, fun e he hs k hk => ?_⟩, i6, i7⟩
  · by_cases e : r = nR V
    · rw [e, upd_s, upd_s]
      exact ⟨hi.1, hi.2.1⟩
    · rw [upd_n _ _ e, upd_n _ _ e]
      exact c1 r (by omega)
  · by_cases e : i = 2 * nR V + 1
    · rw [e, upd_s]
      exact hi.2.2.2
    · rw [upd_n _ _ e]
      by_cases e2 : i = 2 * nR V
      · rw [e2, upd_s]
        exact hi.2.2.1
      · rw [upd_n _ _ e2]
        exact c2 i (by omega)
  · obtain ⟨⟨w, hw, hw2⟩, hl⟩ := i5.2.2 e he hs k hk
    exact ⟨⟨w, by omega, hw2⟩, hl⟩
end IV
