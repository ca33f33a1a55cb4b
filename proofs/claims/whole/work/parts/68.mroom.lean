/-! ===== the reference adds a room, sets a climate ===== -/
section MT
variable {S : St} {A : Nat → Nat → Nat} {V U : VV} {M : MM} {G : (Nat → Nat → Int64) × (Nat → Nat → UInt64)}
theorem t_addRoom (R : Rq G S A U M) (m : MV V M) (I : Iv V) {x y w s : Int32} {f : Int32 → St → Prop} (hf : ∀ k r V' S' M', spR V x y w s k r V' → Rq G S' A U M' → MV V' M' → Iv V' → Kf M M' k → f r S') : w_X10_addRoom S (A 11 0) x y w s f := by
  have II := I
  obtain ⟨⟨i24, i25, i26, i27, b1, b2, b3, b4⟩, _⟩ := I
  have no : ¬ (inr x 0 100 ∧ inr y 0 100 ∧ inr w 1 400 ∧ inr s 1 400) → wj_X10_addRoom_44 f S (A 11 0) x y w s (A 11 0) := fun h => by
    obtain ⟨a, b, c, d⟩ := thrw R m 1
    unfold wj_X10_addRoom_44 wj_X10_addRoom_61
    exact ⟨o11 R.1, o11 a.1, fun hc => absurd hc (gt0 d (by decide)), fun _ => hf 1 0 V _ _ (Or.inl ⟨h, rfl, rfl⟩) a b II c⟩
  unfold w_X10_addRoom
  refine t_in (fun p1 p2 => ⟨fun hc => absurd hc (by decide), fun _ => t_in (fun q1 q2 => ⟨fun hc => absurd hc (by decide), fun _ => t_in (fun r1 r2 => ⟨fun hc => absurd hc (by decide), fun _ => t_in (fun u1 u2 => ⟨fun _ => ?_, fun hc => absurd hc (by decide)⟩) (fun h => ⟨fun hc => absurd rfl hc, fun _ => no (fun q => h q.2.2.2)⟩)⟩) (fun h => ⟨fun _ => no (fun q => h q.2.2.1), fun hc => absurd rfl hc⟩)⟩) (fun h => ⟨fun _ => no (fun q => h q.2.1), fun hc => absurd rfl hc⟩)⟩) (fun h => ⟨fun _ => no (fun q => h q.1), fun hc => absurd rfl hc⟩)
  have hin : inr x 0 100 ∧ inr y 0 100 ∧ inr w 1 400 ∧ inr s 1 400 := ⟨⟨p1, p2⟩, ⟨q1, q2⟩, ⟨r1, r2⟩, ⟨u1, u2⟩⟩
  refine ⟨o11 R.1, ?_⟩
  rw [r11 R.1 m (by decide) (by decide), i24, show (4 : Int32) = z 4 from rfl, z_eq (by omega) (by decide)]
  unfold wj_X10_addRoom_61
  refine ⟨fun hn => ⟨o11 R.1, ?_⟩, fun hn => ⟨o11 R.1, ?_⟩⟩
  · obtain ⟨a, b, c, d⟩ := thrw R m 0
    refine ⟨o11 a.1, fun _ => ?_, fun hc => absurd (le0 d) hc⟩
    have e0 := r11 a.1 b (k := 24) (by decide) (by decide)
    rw [i24] at e0
    have a2 := R27 (j := 0) (k := nR V) (v := x) a (by decide)
    have m2 := MVrow (j := 0) (e := nR V) (v := x) b (by decide)
    have e2 := r11 a2.1 m2 (k := 24) (by decide) (by decide)
    rw [up2_n _ _ (by decide), i24] at e2
    have a3 := R27 (j := 1) (k := nR V) (v := y) a2 (by decide)
    have m3 := MVrow (j := 1) (e := nR V) (v := y) m2 (by decide)
    have e3 := r11 a3.1 m3 (k := 24) (by decide) (by decide)
    rw [up2_n _ _ (by decide), up2_n _ _ (by decide), i24] at e3
    have a4 := R27 (j := 2) (k := 2 * nR V) (v := w) a3 (by decide)
    have m4 := MVrow (j := 2) (e := 2 * nR V) (v := w) m3 (by decide)
    have e4 := r11 a4.1 m4 (k := 24) (by decide) (by decide)
    rw [up2_n _ _ (by decide), up2_n _ _ (by decide), up2_n _ _ (by decide), i24] at e4
    have a5 := R27 (j := 2) (k := 2 * nR V + 1) (v := s) a4 (by decide)
    have m5 := MVrow (j := 2) (e := 2 * nR V + 1) (v := s) m4 (by decide)
    have e5 := r11 a5.1 m5 (k := 24) (by decide) (by decide)
    rw [up2_n _ _ (by decide), up2_n _ _ (by decide), up2_n _ _ (by decide), up2_n _ _ (by decide), i24] at e5
    have a6 := R11 (k := 24) (v := z (nR V + 1)) a5
    have m6 := MVcnt (j := 24) (v := z (nR V + 1)) m5 (by decide)
    refine ⟨_, p11_0 a.1, o27 a.1 (by decide), ?_⟩
    show vp_in (sI (setI S (A 11 0) 23 (z 0)) (A 11 0) 24) _ ∧ _
    rw [show setI S (A 11 0) 23 0 = setI S (A 11 0) 23 (z 0) from rfl, e0, z_c (show nR V < 2147483648 by omega)]
    refine ⟨v27 a.1 (by decide) (show nR V < 4 by omega) (by omega), _, p11_1 a2.1, o27 a2.1 (by decide), ?_⟩
    rw [e2, z_c (show nR V < 2147483648 by omega)]
    refine ⟨v27 a2.1 (by decide) (show nR V < 4 by omega) (by omega), _, p11_2 a3.1, o27 a3.1 (by decide), ?_⟩
    rw [e3, show (2 : Int32) = z 2 from rfl, z_mul, z_c (show 2 * nR V < 2147483648 by omega)]
    refine ⟨v27 a3.1 (by decide) (show 2 * nR V < 8 by omega) (by omega), _, p11_2 a4.1, o27 a4.1 (by decide), ?_⟩
    rw [e4, z_mul, z_s, z_c (show 2 * nR V + 1 < 2147483648 by omega)]
    refine ⟨v27 a4.1 (by decide) (show 2 * nR V + 1 < 8 by omega) (by omega), ?_⟩
    dsimp only
    rw [e5, z_s]
    have I2 : Iv (addR V x y w s) := addR_Iv II (by omega) hin
    refine t_looks (V := addR V x y w s) a6 m6 I2 (fun S' M' V' r a7 b7 i7 l7 h7 => ⟨o11 a7.1, ?_⟩)
    have hE : nE (addR V x y w s) = nE V := (addR_s (by omega)).2.2.2
    have e7 := r11 a7.1 b7 (k := 24) (by decide) (by decide)
    rw [it_st1_row (by decide) (by decide) (by decide) _ _ _ _ h7, addR_24] at e7
    rw [e7, z_pred]
    rw [hE] at h7
    exact hf 0 _ V' S' M' (Or.inr (Or.inr ⟨hin, by omega, rfl, rfl, r, h7⟩)) a7 b7 i7 (Lf.kf c ((((((Lf.up27 _ _ _ _).trans (Lf.up27 _ _ _ _)).trans (Lf.up27 _ _ _ _)).trans (Lf.up27 _ _ _ _)).trans (Lf.up11 _ _ (by decide))).trans l7))
  · obtain ⟨a, b, c, d⟩ := thrw R m 2
    exact ⟨o11 a.1, fun hc => absurd hc (gt0 d (by decide)), fun _ => hf 2 0 V _ _ (Or.inr (Or.inl ⟨hin, by omega, rfl, rfl⟩)) a b II c⟩
/-- a wall of a room that there is suits where its climate does -/
theorem suits_stn {i w : Nat} (I : I1 V) (hw : w < 2 * nR V) : suits V i (z w) ↔ stn V i (w / 2) = true := by
  have := I.2.2.2.2.1
  unfold suits
  rw [z_c (by omega)]
  exact ⟨fun h => h.2.2, fun h => ⟨z_nn (by omega), (z_lt (by omega) (by omega)).2 hw, h⟩⟩
theorem l_spoiled {U' : VV} (R : Rep S A U' M) (m : MV V M) (I : I1 V) (J : I2 V) {e : Nat} {f : Int32 → St → Prop} (he : e < nE V) (hwl : ∀ k, k < cn V e → ∃ w, w < 2 * nR V ∧ V 19 (5 * e + k) = z w) (h1 : ¬ swh V e → f 1 S) (h0 : swh V e → f 0 S) : ∀ n k, k ≤ cn V e → cn V e < k + n → (∀ j, j < k → suits V (ic V e j) (V 19 (5 * e + j))) → wl_X10_isSpoiled_2 f n S (A 11 0) (z e) (z k) := by
  have II := I
  obtain ⟨_, _, _, _, b1, b2, b3, b4⟩ := I
  obtain ⟨j1, j2, j3⟩ := J e he
  intro n
  induction n with
  | zero => intro k h1 h2; omega
  | succ n ih =>
    intro k k1 k2 hn
    unfold wl_X10_isSpoiled_2
    refine ⟨o11 R, _, p11_17 R, o27 R (by decide), v27 R (by decide) (show e < 8 by omega) (by omega), ?_⟩
    rw [r27 R m (k := 17) (by decide) (show e < 8 by omega) (by omega), j1]
    refine ⟨fun hc => ?_, fun hc => ?_⟩
    · have h3 := z_ex k1 (by omega) hc
      subst h3
      exact h0 hn
    · have h3 := z_go k1 (by omega) hc
      obtain ⟨y1, y2, _⟩ := j3 k h3
      obtain ⟨w, hw, ew⟩ := hwl k h3
      rw [show (5 : Int32) = z 5 from rfl, z_mul, z_add]
      refine ⟨_, p11_18 R, o27 R (by decide), v27 R (by decide) (show 5 * e + k < 40 by omega) (by omega), _, p11_19 R, o27 R (by decide), v27 R (by decide) (show 5 * e + k < 40 by omega) (by omega), ?_⟩
      rw [r27 R m (k := 18) (by decide) (show 5 * e + k < 40 by omega) (by omega), y1, r27 R m (k := 19) (by decide) (show 5 * e + k < 40 by omega) (by omega), ew, z_half (by omega)]
      refine t_hangsWhere R m II y2 (show w / 2 < nR V by omega) (fun a => ?_) (fun a => ?_)
      · refine ⟨fun _ => ?_, fun hc => absurd hc (by decide)⟩
        rw [z_s]
        refine ih (k + 1) (by omega) (by omega) (fun j hj => ?_)
        by_cases h : j = k
        · rw [h, ew]
          exact (suits_stn II hw).2 a
        · exact hn j (by omega)
      · refine ⟨fun hc => absurd rfl hc, fun _ => h1 (fun h => ?_)⟩
        have h4 := h k h3
        rw [ew, suits_stn II hw, a] at h4
        cases h4
theorem t_spoiled {U' : VV} (R : Rep S A U' M) (m : MV V M) (I : I1 V) (J : I2 V) {e : Nat} {f : Int32 → St → Prop} (he : e < nE V) (hwl : ∀ k, k < cn V e → ∃ w, w < 2 * nR V ∧ V 19 (5 * e + k) = z w) (h1 : ¬ swh V e → f 1 S) (h0 : swh V e → f 0 S) : w_X10_isSpoiled S (A 11 0) (z e) f := by
  unfold w_X10_isSpoiled
  exact ⟨cn V e + 1, l_spoiled R m I J he hwl h1 h0 _ 0 (Nat.zero_le _) (by omega) (fun j hj => absurd hj (by omega))⟩
end MT
section MC
variable {A : Nat → Nat → Nat} {U : VV} {G : (Nat → Nat → Int64) × (Nat → Nat → UInt64)}
theorem l_tdown {V0 : VV} {M0 : MM} {f : Int32 → St → Prop} (hf : ∀ S' M' V1 V' n n', it td1 (nE V0) V0 V1 n → it st1 (nE V0) V1 V' n' → Rq G S' A U M' → MV V' M' → Iv V' → Lf M0 M' → f (z n) S') : ∀ n k S M V r, k ≤ nE V0 → nE V0 < k + n → Rq G S A U M → MV V M → Iv V → nE V = nE V0 → Lf M0 M → it td1 k V0 V r → wl_X10_setClimate_70 f n S (A 11 0) (z r) (z k) := by
  intro n
  induction n with
  | zero => intro k S M V r k1 k2; omega
  | succ n ih =>
    intro k S M V r k1 k2 R m I hE lf hr
    have i27 := I.1.2.2.2.1
    have b4 := I.1.2.2.2.2.2.2.2
    unfold wl_X10_setClimate_70
    refine ⟨o11 R.1, ?_⟩
    rw [r11 R.1 m (by decide) (by decide), i27, hE]
    refine ⟨fun hc => ?_, fun hc => ?_⟩
    · have h3 := z_ex k1 (by omega) hc
      subst h3
      refine t_looks R m I (fun S' M' V' r' a b i l h => ?_)
      rw [hE] at h
      exact hf S' M' V V' r r' hr h a b i (lf.trans l)
    · have h3 := z_go k1 (by omega) hc
      have h3' : k < nE V := by omega
      refine ⟨_, p11_16 R.1, o27 R.1 (by decide), v27 R.1 (by decide) (show k < 8 by omega) (by omega), ?_⟩
      rw [r27 R.1 m (k := 16) (by decide) (show k < 8 by omega) (by omega), z_s, z_s]
      refine ⟨fun a => ?_, fun a => ?_⟩
      · exact ih (k + 1) S M V r (by omega) (by omega) R m I hE lf ⟨V, r, 0, hr, Or.inr ⟨fun h => a h.1, rfl, rfl⟩, rfl⟩
      · refine t_spoiled R.1 m I.1 I.2.1 h3' (fun j hj => (I.2.2.2.2.1.2.2 k h3' a j hj).1) (fun b => ?_) (fun b => ?_)
        · refine ⟨fun _ => ⟨o11 R.1, _, p11_16 R.1, o27 R.1 (by decide), v27 R.1 (by decide) (show k < 8 by omega) (by omega), ?_⟩, fun hc => absurd hc (by decide)⟩
          rw [z_c (by omega)]
          exact ih (k + 1) _ _ (up2 V 16 k 119) (r + 1) (by omega) (by omega) (R27 R (by decide)) (MV16 m) (up16_Iv I (Or.inl rfl) (fun _ => I.2.2.2.2.1.2.1 k h3' (Or.inl a))) (by rw [sm_nE up16_Sm]; exact hE) (lf.trans (Lf.up27 _ _ _ _)) ⟨V, r, 1, hr, Or.inl ⟨a, b, rfl, rfl⟩, rfl⟩
        · exact ⟨fun hc => absurd rfl hc, fun _ => ih (k + 1) S M V r (by omega) (by omega) R m I hE lf ⟨V, r, 0, hr, Or.inr ⟨fun h => h.2 b, rfl, rfl⟩, rfl⟩⟩
theorem t_setClimate {V : VV} {S : St} {M : MM} (R : Rq G S A U M) (m : MV V M) (I : Iv V) {x h l : Int32} {f : Int32 → St → Prop} (hf : ∀ k r V' S' M', spClim V x h l k r V' → Rq G S' A U M' → MV V' M' → Iv V' → Kf M M' k → f r S') : w_X10_setClimate S (A 11 0) x h l f := by
  have b1 := I.1.2.2.2.2.1
  unfold w_X10_setClimate
  have no : ∀ k : Nat, ¬ z k ≤ 0 → spClim V x h l k 0 V → wj_X10_setClimate_38 f S (A 11 0) x h l (z k) (A 11 0) := fun k hk h => by
    obtain ⟨a, b, c, d⟩ := thrw R m k
    unfold wj_X10_setClimate_38
    exact ⟨o11 R.1, o11 a.1, fun hc => absurd hc (gt0 d hk), fun _ => hf k 0 V _ _ h a b I c⟩
  refine ⟨o11 R.1, t_isRoom R.1 m I.1 (fun hx => ⟨fun _ => ?_, fun hc => absurd hc (by decide)⟩) (fun hx => ⟨fun hc => absurd rfl hc, fun _ => no 1 (by decide) (Or.inl ⟨hx, rfl, rfl⟩)⟩)⟩
  obtain ⟨i, hi, rfl⟩ := hx
  have bad : ¬ (inr h 0 100 ∧ inr l 0 100) → wj_X10_setClimate_33 f S (A 11 0) (z i) h l (A 11 0) := fun hb => no 2 (by decide) (Or.inr ⟨i, hi, rfl, Or.inl ⟨hb, rfl, rfl⟩⟩)
  refine t_in (fun p1 p2 => ⟨fun hc => absurd hc (by decide), fun _ => t_in (fun q1 q2 => ⟨fun _ => ?_, fun hc => absurd hc (by decide)⟩) (fun hb => ⟨fun hc => absurd rfl hc, fun _ => bad (fun q => hb q.2)⟩)⟩) (fun hb => ⟨fun _ => bad (fun q => hb q.1), fun hc => absurd rfl hc⟩)
  have hin : inr h 0 100 ∧ inr l 0 100 := ⟨⟨p1, p2⟩, ⟨q1, q2⟩⟩
  unfold wj_X10_setClimate_38
  obtain ⟨a, b, c, d⟩ := thrw R m 0
  refine ⟨o11 R.1, o11 a.1, fun _ => ⟨_, p11_0 a.1, o27 a.1 (by decide), v27 a.1 (by decide) (show i < 4 by omega) (by omega), ?_⟩, fun hc => absurd (le0 d) hc⟩
  dsimp only
  rw [show setI S (A 11 0) 23 0 = setI S (A 11 0) 23 (z 0) from rfl, z_c (show i < 2147483648 by omega)]
  have a2 := R27 (j := 0) (k := i) (v := h) a (by decide)
  have m2 := MVrow (j := 0) (e := i) (v := h) b (by decide)
  have a3 := R27 (j := 1) (k := i) (v := l) a2 (by decide)
  have m3 := MVrow (j := 1) (e := i) (v := l) m2 (by decide)
  refine ⟨_, p11_1 a2.1, o27 a2.1 (by decide), v27 a2.1 (by decide) (show i < 4 by omega) (by omega), nE V + 1, ?_⟩
  have hE : nE (climV V i h l) = nE V := by unfold nE; rw [climV_row (by decide) (by decide)]
  refine l_tdown (V0 := climV V i h l) (M0 := up3 (up3 (up3 M 11 0 23 (z 0)) 27 0 i h) 27 1 i l) (fun S' M' V1 V' n n' h1 h2 a4 b4 i4 l4 => ?_) _ 0 _ _ (climV V i h l) 0 (Nat.zero_le _) (by omega) a3 m3 (climV_Iv I hin) rfl (Lf.refl _) ⟨rfl, rfl⟩
  rw [hE] at h1 h2
  exact hf 0 (z n) V' S' M' (Or.inr ⟨i, hi, rfl, Or.inr ⟨hin, rfl, V1, n, n', rfl, h1, h2⟩⟩) a4 b4 i4 (Lf.kf c (((Lf.up27 _ _ _ _).trans (Lf.up27 _ _ _ _)).trans l4))
end MC
