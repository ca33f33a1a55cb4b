/-! ===== a new lender, work, exhibition, an inclusion, a separation, a climate keep what holds ===== -/
section IV
variable {V V' : VV}
theorem neg1 {o : Int32} (h1 : -1 ≤ o) (h2 : o < 0) : o = -1 := by
  have a := Int32.le_iff_toInt_le.1 h1
  have b := Int32.lt_iff_toInt_lt.1 h2
  have c : (-1 : Int32).toInt = -1 := by decide
  have d : (0 : Int32).toInt = 0 := by decide
  rw [c] at a
  rw [d] at b
  exact Int32.toInt_inj.1 (by rw [c]; omega)
theorem addL_row {a b c : Int32} {k : Nat} (h3 : k ≠ 3) (h4 : k ≠ 4) (h5 : k ≠ 5) (h25 : k ≠ 25) : addL V a b c k = V k := by
  unfold addL
  rw [up2_n _ _ h25, up2_n _ _ h5, up2_n _ _ h4, up2_n _ _ h3]
theorem addL_3 {a b c : Int32} : addL V a b c 3 = upd (V 3) (nL V) a := by
  unfold addL
  rw [up2_n _ _ (by decide), up2_n _ _ (by decide), up2_n _ _ (by decide), up2_s]
theorem addL_4 {a b c : Int32} : addL V a b c 4 = upd (V 4) (nL V) b := by
  unfold addL
  rw [up2_n _ _ (by decide), up2_n _ _ (by decide), up2_s, up2_n _ _ (by decide)]
theorem addL_5 {a b c : Int32} : addL V a b c 5 = upd (V 5) (nL V) c := by
  unfold addL
  rw [up2_n _ _ (by decide), up2_s, up2_n _ _ (by decide), up2_n _ _ (by decide)]
theorem addL_25 {a b c : Int32} : addL V a b c 25 0 = z (nL V + 1) := by
  unfold addL
  rw [up2_s, upd_s]
theorem addL_Iv {a b c : Int32} (I : Iv V) (hn : nL V < 4) (hi : inr a 1 9999 ∧ inr b 0 9 ∧ inr c 1 100) : Iv (addL V a b c) := by
  obtain ⟨⟨i24, i25, i26, i27, b1, b2, b3, b4⟩, i2, i3, i4, i5, i6, i7⟩ := I
  obtain ⟨q1, q2, q3, q4⟩ := addL_s (V := V) (a := a) (b := b) (c := c) (by omega)
  have g := fun k (hk : k ≠ 3 ∧ k ≠ 4 ∧ k ≠ 5 ∧ k ≠ 25) => addL_row (V := V) (a := a) (b := b) (c := c) hk.1 hk.2.1 hk.2.2.1 hk.2.2.2
  have go := ow_c (V' := addL V a b c) (V := V) (g 11 (by decide))
  unfold Iv I1 I2 I3 I4 I5 I6 I7 ST KO
  rw [q1, q2, q3, q4, cn_c (g 17 (by decide)), ic_c (g 18 (by decide)), go, addL_3, addL_4, addL_5, addL_25]
  rw [g 0 (by decide), g 1 (by decide), g 2 (by decide), g 6 (by decide), g 10 (by decide), g 11 (by decide), g 12 (by decide), g 13 (by decide), g 14 (by decide), g 15 (by decide), g 16 (by decide), g 17 (by decide), g 18 (by decide), g 19 (by decide), g 24 (by decide), g 26 (by decide), g 27 (by decide)]
  obtain ⟨c1, c2, c3, c4, c5⟩ := i4
  refine ⟨⟨i24, rfl, i26, i27, b1, by omega, b3, b4⟩, i2, fun w hw => ?_, ⟨c1, c2, fun l hl => ?_, c4, c5⟩, ⟨i5.1, i5.2.1, fun e he hs k hk => ?_⟩, i6, i7⟩
  · rcases i3 w hw with h | ⟨l, hl, h⟩
    · exact Or.inl h
    · exact Or.inr ⟨l, by omega, h⟩
  · by_cases e : l = nL V
    · rw [e, upd_s, upd_s, upd_s]
      exact hi
    · rw [upd_n _ _ e, upd_n _ _ e, upd_n _ _ e]
      exact c3 l (by omega)
  · obtain ⟨hw, hl⟩ := i5.2.2 e he hs k hk
    refine ⟨hw, fun l hl2 => ?_⟩
    rw [go] at hl2
    have hlt : l < nL V := by
      rcases i3 (ic V e k) ((i2 e he).2.2 k hk).2.1 with ⟨_, h⟩ | ⟨l', h1, _, h2⟩
      · rw [h] at hl2
        cases hl2
      · rw [h2] at hl2
        cases hl2
        exact h1
    rw [g 10 (by decide), g 13 (by decide), g 14 (by decide), addL_3, addL_4, addL_5, upd_n _ _ (by omega), upd_n _ _ (by omega), upd_n _ _ (by omega)]
    exact hl l hl2
theorem addW_row {w lo hi li va o : Int32} {k : Nat} (h : k < 6 ∨ 11 < k) (h26 : k ≠ 26) : addW V w lo hi li va o k = V k := by
  unfold addW
  rw [up2_n _ _ h26, up2_n _ _ (by omega), up2_n _ _ (by omega), up2_n _ _ (by omega), up2_n _ _ (by omega), up2_n _ _ (by omega), up2_n _ _ (by omega)]
theorem addW_6 {w lo hi li va o : Int32} : addW V w lo hi li va o 6 = upd (V 6) (nW V) w := by
  unfold addW
  simp (decide := true) only [up2_n, up2_s]
theorem addW_10 {w lo hi li va o : Int32} : addW V w lo hi li va o 10 = upd (V 10) (nW V) va := by
  unfold addW
  simp (decide := true) only [up2_n, up2_s]
theorem addW_11 {w lo hi li va o : Int32} : addW V w lo hi li va o 11 = upd (V 11) (nW V) o := by
  unfold addW
  simp (decide := true) only [up2_n, up2_s]
theorem addW_26 {w lo hi li va o : Int32} : addW V w lo hi li va o 26 0 = z (nW V + 1) := by
  unfold addW
  rw [up2_s, upd_s]
theorem addW_Iv {w lo hi li va o : Int32} (I : Iv V) (hn : nW V < 12) (hi' : okW V w lo hi li va o) : Iv (addW V w lo hi li va o) := by
  obtain ⟨⟨i24, i25, i26, i27, b1, b2, b3, b4⟩, i2, i3, i4, i5, i6, i7⟩ := I
  obtain ⟨q1, q2, q3, q4⟩ := addW_s (V := V) (w := w) (lo := lo) (hi := hi) (li := li) (va := va) (o := o) (by omega)
  have g := fun k (hk : (k < 6 ∨ 11 < k) ∧ k ≠ 26) => addW_row (V := V) (w := w) (lo := lo) (hi := hi) (li := li) (va := va) (o := o) hk.1 hk.2
  unfold Iv I1 I2 I3 I4 I5 I6 I7 ST KO
  rw [q1, q2, q3, q4, cn_c (g 17 (by decide)), ic_c (g 18 (by decide)), addW_6, addW_10, addW_11, addW_26]
  rw [g 0 (by decide), g 1 (by decide), g 2 (by decide), g 3 (by decide), g 4 (by decide), g 5 (by decide), g 12 (by decide), g 13 (by decide), g 14 (by decide), g 15 (by decide), g 16 (by decide), g 17 (by decide), g 18 (by decide), g 19 (by decide), g 24 (by decide), g 25 (by decide), g 27 (by decide)]
  obtain ⟨c1, c2, c3, c4, c5⟩ := i4
  obtain ⟨k1, k2, k3, k4⟩ := i6
  refine ⟨⟨i24, i25, rfl, i27, b1, b2, by omega, b4⟩, fun e he => ?_, fun v hv => ?_, ⟨c1, c2, c3, fun v hv => ?_, c5⟩, ⟨i5.1, i5.2.1, fun e he hs k hk => ?_⟩, ⟨k1, k2, k3, fun i j hi hj hw => k4 i j hi hj (by omega)⟩, i7⟩
  · obtain ⟨x1, x2, x3⟩ := i2 e he
    refine ⟨x1, x2, fun k hk => ?_⟩
    obtain ⟨y1, y2, y3⟩ := x3 k hk
    exact ⟨y1, by omega, y3⟩
  · by_cases e : v = nW V
    · rw [e, upd_s, addW_own]
      obtain ⟨o1, o2⟩ := hi'.2.2.2.2.2
      by_cases ho : o < 0
      · rw [if_pos ho]
        exact Or.inl ⟨neg1 o1 ho, rfl⟩
      · rw [if_neg ho]
        obtain ⟨l, hl, rfl⟩ := ix_in (show nL V < 2147483648 by omega) (Int32.not_lt.1 ho) o2
        rw [z_c (by omega)]
        exact Or.inr ⟨l, hl, rfl, rfl⟩
    · rw [upd_n _ _ e, addW_ow (by omega)]
      exact i3 v (by omega)
  · by_cases e : v = nW V
    · rw [e, upd_s, upd_s]
      exact ⟨hi'.1, hi'.2.2.2.2.1⟩
    · rw [upd_n _ _ e, upd_n _ _ e]
      exact c4 v (by omega)
  · obtain ⟨hw, hl⟩ := i5.2.2 e he hs k hk
    have hic := ((i2 e he).2.2 k hk).2.1
    refine ⟨hw, fun l hl2 => ?_⟩
    rw [addW_ow hic] at hl2
    rw [g 3 (by decide), g 4 (by decide), g 5 (by decide), g 13 (by decide), g 14 (by decide), addW_10, upd_n _ _ (by omega)]
    exact hl l hl2
theorem addE_Iv {f l gp : Int32} (I : Iv V) (hn : nE V < 8) (hi : inr f 0 99 ∧ inr l f 99 ∧ inr gp 0 50) : Iv (addE V f l gp) := by
  obtain ⟨⟨i24, i25, i26, i27, b1, b2, b3, b4⟩, i2, i3, i4, i5, i6, i7⟩ := I
  obtain ⟨q1, q2, q3, q4⟩ := addE_s (V := V) (f := f) (l := l) (g := gp) (by omega)
  have g := fun k (hk : k ≠ 13 ∧ k ≠ 14 ∧ k ≠ 15 ∧ k ≠ 16 ∧ k ≠ 27) => addE_row (V := V) (f := f) (l := l) (g := gp) hk.1 hk.2.1 hk.2.2.1 hk.2.2.2.1 hk.2.2.2.2
  have r13 : addE V f l gp 13 = upd (V 13) (nE V) f := by unfold addE; simp (decide := true) only [up2_n, up2_s]
  have r14 : addE V f l gp 14 = upd (V 14) (nE V) l := by unfold addE; simp (decide := true) only [up2_n, up2_s]
  have r15 : addE V f l gp 15 = upd (V 15) (nE V) gp := by unfold addE; simp (decide := true) only [up2_n, up2_s]
  have r16 : addE V f l gp 16 = upd (V 16) (nE V) 100 := by unfold addE; simp (decide := true) only [up2_n, up2_s]
  have r27' : addE V f l gp 27 0 = z (nE V + 1) := by unfold addE; rw [up2_s, upd_s]
  have go := ow_c (V' := addE V f l gp) (V := V) (g 11 (by decide))
  unfold Iv I1 I2 I3 I4 I5 I6 I7 ST KO
  rw [q1, q2, q3, q4, cn_c (g 17 (by decide)), ic_c (g 18 (by decide)), go, r13, r14, r15, r16, r27']
  rw [g 0 (by decide), g 1 (by decide), g 2 (by decide), g 3 (by decide), g 4 (by decide), g 5 (by decide), g 6 (by decide), g 10 (by decide), g 11 (by decide), g 12 (by decide), g 17 (by decide), g 18 (by decide), g 19 (by decide), g 24 (by decide), g 25 (by decide), g 26 (by decide)]
  obtain ⟨c1, c2, c3, c4, c5⟩ := i4
  obtain ⟨⟨f1, f2⟩, ⟨l1, l2⟩, g1⟩ := hi
  obtain ⟨n1, n2⟩ := i7 (nE V) (Nat.le_refl _) hn
  have cn0 : cn V (nE V) = 0 := by
    unfold cn
    rw [n1]
    rfl
  refine ⟨⟨i24, i25, i26, rfl, b1, b2, b3, by omega⟩, fun e he => ?_, i3, ⟨c1, c2, c3, c4, fun e he => ?_⟩, ⟨fun e he => ?_, fun e he => ?_, fun e he => ?_⟩, i6, fun e he h8 => i7 e (by omega) h8⟩
  · by_cases e1 : e = nE V
    · subst e1
      rw [cn0]
      exact ⟨n1, by omega, fun k hk => absurd hk (by omega)⟩
    · exact i2 e (by omega)
  · by_cases e1 : e = nE V
    · subst e1
      rw [upd_s, upd_s, upd_s]
      exact ⟨⟨f1, f2⟩, ⟨Int32.le_trans f1 l1, l2⟩, g1, l1⟩
    · rw [upd_n _ _ e1, upd_n _ _ e1, upd_n _ _ e1]
      exact c5 e (by omega)
  · by_cases e1 : e = nE V
    · subst e1
      rw [upd_s]
      exact Or.inl rfl
    · rw [upd_n _ _ e1]
      exact i5.1 e (by omega)
  · by_cases e1 : e = nE V
    · subst e1
      rw [upd_s]
      rintro (h | h)
      · exact absurd h (by decide)
      · exact absurd h (by decide)
    · rw [upd_n _ _ e1]
      exact i5.2.1 e (by omega)
  · by_cases e1 : e = nE V
    · subst e1
      rw [upd_s]
      intro h
      exact absurd h (by decide)
    · rw [upd_n _ _ e1]
      intro hs k hk
      obtain ⟨hw, hl⟩ := i5.2.2 e (by omega) hs k hk
      refine ⟨hw, fun l' hl2 => ?_⟩
      rw [go] at hl2
      rw [g 3 (by decide), g 4 (by decide), g 5 (by decide), g 10 (by decide), r13, r14, upd_n _ _ e1, upd_n _ _ e1]
      exact hl l' hl2
theorem incV_17 {e w g : Nat} : incV V e w 17 g = if g = e then z (cn V e + 1) else V 17 g := by
  unfold incV
  rw [up2_s, upd_ap, up2_n _ _ (by decide)]
theorem incV_18 {e w q : Nat} : incV V e w 18 q = if q = 5 * e + cn V e then z w else V 18 q := by
  unfold incV
  rw [up2_n _ _ (by decide), up2_s, upd_ap]
theorem incV_Iv {e w : Nat} (I : Iv V) (he : e < nE V) (hw : w < nW V) (hs : V 16 e = 100) (hc : cn V e < 5) (hh : ¬ has V e w) : Iv (incV V e w) := by
  obtain ⟨⟨i24, i25, i26, i27, b1, b2, b3, b4⟩, i2, i3, i4, i5, i6, i7⟩ := I
  have g := fun k (hk : k ≠ 17 ∧ k ≠ 18) => incV_row (V := V) (e := e) (w := w) hk.1 hk.2
  have q1 : nR (incV V e w) = nR V := by unfold nR; rw [g 24 (by decide)]
  have q2 : nL (incV V e w) = nL V := by unfold nL; rw [g 25 (by decide)]
  have q3 : nW (incV V e w) = nW V := by unfold nW; rw [g 26 (by decide)]
  have q4 : nE (incV V e w) = nE V := by unfold nE; rw [g 27 (by decide)]
  have go := ow_c (V' := incV V e w) (V := V) (g 11 (by decide))
  have gl := lent_c (V' := incV V e w) (V := V) (g 3 (by decide)) (g 4 (by decide)) (g 5 (by decide)) (g 10 (by decide)) (g 11 (by decide)) (g 13 (by decide)) (g 14 (by decide))
  have hcn := incV_cn (V := V) (e := e) (w := w) hc
  unfold Iv I1 I2 I3 I4 I5 I6 I7 ST KO
  rw [q1, q2, q3, q4, go, gl]
  rw [g 0 (by decide), g 1 (by decide), g 2 (by decide), g 3 (by decide), g 4 (by decide), g 5 (by decide), g 6 (by decide), g 10 (by decide), g 11 (by decide), g 12 (by decide), g 13 (by decide), g 14 (by decide), g 15 (by decide), g 16 (by decide), g 19 (by decide), g 24 (by decide), g 25 (by decide), g 26 (by decide), g 27 (by decide)]
  refine ⟨⟨i24, i25, i26, i27, b1, b2, b3, b4⟩, fun q hq => ?_, i3, i4, ⟨i5.1, fun q hq h => ?_, fun q hq h k hk => ?_⟩, i6, fun q hq h8 => ?_⟩
  · obtain ⟨x1, x2, x3⟩ := i2 q hq
    by_cases e1 : q = e
    · subst e1
      rw [hcn q, if_pos rfl, incV_17, if_pos rfl]
      refine ⟨rfl, by omega, fun k hk => ?_⟩
      rw [incV_18, incV_ic hc (by omega) (by omega)]
      by_cases e2 : k = cn V q
      · rw [if_pos (by omega), if_pos ⟨rfl, e2⟩]
        refine ⟨rfl, hw, fun j hj => ?_⟩
        rw [incV_ic hc (by omega) (by omega), if_neg (by omega)]
        exact fun h => hh ⟨j, by omega, h⟩
      · obtain ⟨y1, y2, y3⟩ := x3 k (by omega)
        rw [if_neg (by omega), if_neg (by omega)]
        refine ⟨y1, y2, fun j hj => ?_⟩
        rw [incV_ic hc (by omega) (by omega), if_neg (by omega)]
        exact y3 j hj
    · rw [hcn q, if_neg e1, incV_17, if_neg e1]
      refine ⟨x1, x2, fun k hk => ?_⟩
      obtain ⟨y1, y2, y3⟩ := x3 k hk
      rw [incV_18, incV_ic hc (by omega) (by omega), if_neg (by omega), if_neg (by omega)]
      refine ⟨y1, y2, fun j hj => ?_⟩
      rw [incV_ic hc (by omega) (by omega), if_neg (by omega)]
      exact y3 j hj
  · rw [hcn q]
    split
    · exact Nat.succ_pos _
    · exact i5.2.1 q hq h
  · have e1 : q ≠ e := fun e1 => by
      rw [e1, hs] at h
      exact absurd h (by decide)
    rw [hcn q, if_neg e1] at hk
    have := (i2 q hq).2.1
    rw [incV_ic hc (by omega) (by omega), if_neg (fun h => e1 h.1)]
    exact i5.2.2 q hq h k hk
  · rw [incV_17, if_neg (by omega)]
    exact i7 q hq h8
theorem sepV_12 {i j q : Nat} {kd : Int32} : sepV V i j kd 12 q = if q = j * 12 + i then kd else if q = i * 12 + j then kd else V 12 q := by
  unfold sepV
  rw [up2_s, up2_s, upd_ap, upd_ap]
theorem sepV_Iv {i j : Nat} {kd : Int32} (I : Iv V) (hi : i < nW V) (hj : j < nW V) (hne : i ≠ j) (hk : kd = 114 ∨ kd = 119) : Iv (sepV V i j kd) := by
  obtain ⟨⟨i24, i25, i26, i27, b1, b2, b3, b4⟩, i2, i3, i4, i5, i6, i7⟩ := I
  have g := fun k (hk : k ≠ 12) => sepV_row (V := V) (i := i) (j := j) (kd := kd) hk
  have q1 : nR (sepV V i j kd) = nR V := by unfold nR; rw [g 24 (by decide)]
  have q2 : nL (sepV V i j kd) = nL V := by unfold nL; rw [g 25 (by decide)]
  have q3 : nW (sepV V i j kd) = nW V := by unfold nW; rw [g 26 (by decide)]
  have q4 : nE (sepV V i j kd) = nE V := by unfold nE; rw [g 27 (by decide)]
  have go := ow_c (V' := sepV V i j kd) (V := V) (g 11 (by decide))
  have gl := lent_c (V' := sepV V i j kd) (V := V) (g 3 (by decide)) (g 4 (by decide)) (g 5 (by decide)) (g 10 (by decide)) (g 11 (by decide)) (g 13 (by decide)) (g 14 (by decide))
  have K := sep_KO (i := i) (j := j) i6.1 hk
  unfold Iv I1 I2 I3 I4 I5 I6 I7 ST
  rw [q1, q2, q3, q4, go, gl, cn_c (g 17 (by decide)), ic_c (g 18 (by decide))]
  rw [g 0 (by decide), g 1 (by decide), g 2 (by decide), g 3 (by decide), g 4 (by decide), g 5 (by decide), g 6 (by decide), g 10 (by decide), g 11 (by decide), g 13 (by decide), g 14 (by decide), g 15 (by decide), g 16 (by decide), g 17 (by decide), g 18 (by decide), g 19 (by decide), g 24 (by decide), g 25 (by decide), g 26 (by decide), g 27 (by decide)]
  obtain ⟨_, k2, k3, k4⟩ := i6
  refine ⟨⟨i24, i25, i26, i27, b1, b2, b3, b4⟩, i2, i3, i4, i5, ⟨K, fun a b ha hb => ?_, fun a ha => ?_, fun a b ha hb hw => ?_⟩, i7⟩
  · rw [sepV_12, sepV_12]
    by_cases e1 : a * 12 + b = j * 12 + i
    · rw [if_pos e1, if_neg (show ¬ b * 12 + a = j * 12 + i by omega), if_pos (show b * 12 + a = i * 12 + j by omega)]
    · rw [if_neg e1]
      by_cases e2 : a * 12 + b = i * 12 + j
      · rw [if_pos e2, if_pos (show b * 12 + a = j * 12 + i by omega)]
      · rw [if_neg e2, if_neg (show ¬ b * 12 + a = j * 12 + i by omega), if_neg (show ¬ b * 12 + a = i * 12 + j by omega)]
        exact k2 a b ha hb
  · rw [sepV_12, if_neg (by omega), if_neg (by omega)]
    exact k3 a ha
  · rw [sepV_12, if_neg (by omega), if_neg (by omega)]
    exact k4 a b ha hb hw
theorem climV_0 {r : Nat} {h l : Int32} : climV V r h l 0 = upd (V 0) r h := by
  unfold climV
  rw [up2_n _ _ (by decide), up2_s]
theorem climV_1 {r : Nat} {h l : Int32} : climV V r h l 1 = upd (V 1) r l := by
  unfold climV
  rw [up2_s, up2_n _ _ (by decide)]
theorem climV_Iv {r : Nat} {h l : Int32} (I : Iv V) (hi : inr h 0 100 ∧ inr l 0 100) : Iv (climV V r h l) := by
  obtain ⟨⟨i24, i25, i26, i27, b1, b2, b3, b4⟩, i2, i3, i4, i5, i6, i7⟩ := I
  have g := fun k (hk : k ≠ 0 ∧ k ≠ 1) => climV_row (V := V) (i := r) (h := h) (l := l) hk.1 hk.2
  have q1 : nR (climV V r h l) = nR V := by unfold nR; rw [g 24 (by decide)]
  have q2 : nL (climV V r h l) = nL V := by unfold nL; rw [g 25 (by decide)]
  have q3 : nW (climV V r h l) = nW V := by unfold nW; rw [g 26 (by decide)]
  have q4 : nE (climV V r h l) = nE V := by unfold nE; rw [g 27 (by decide)]
  have go := ow_c (V' := climV V r h l) (V := V) (g 11 (by decide))
  have gl := lent_c (V' := climV V r h l) (V := V) (g 3 (by decide)) (g 4 (by decide)) (g 5 (by decide)) (g 10 (by decide)) (g 11 (by decide)) (g 13 (by decide)) (g 14 (by decide))
  unfold Iv I1 I2 I3 I4 I5 I6 I7 ST KO
  rw [q1, q2, q3, q4, go, gl, cn_c (g 17 (by decide)), ic_c (g 18 (by decide)), climV_0, climV_1]
  rw [g 2 (by decide), g 3 (by decide), g 4 (by decide), g 5 (by decide), g 6 (by decide), g 10 (by decide), g 11 (by decide), g 12 (by decide), g 13 (by decide), g 14 (by decide), g 15 (by decide), g 16 (by decide), g 17 (by decide), g 18 (by decide), g 19 (by decide), g 24 (by decide), g 25 (by decide), g 26 (by decide), g 27 (by decide)]
  refine ⟨⟨i24, i25, i26, i27, b1, b2, b3, b4⟩, i2, i3, ⟨fun q hq => ?_, i4.2⟩, i5, i6, i7⟩
  by_cases e : q = r
  · rw [e, upd_s, upd_s]
    exact hi
  · rw [upd_n _ _ e, upd_n _ _ e]
    exact i4.1 q hq
end IV
