/-! ===== the class's calls that read, and those that plan ===== -/
def ix (n : Nat) (x : Int32) : Prop := ∃ i, i < n ∧ x = z i
theorem ix_in {n : Nat} {x : Int32} (hn : n < 2147483648) (a : 0 ≤ x) (b : x ≤ z n - 1) : ix n x := wl_in hn a b
theorem ix_out {n : Nat} {x : Int32} (hn : n < 2147483648) (h : ¬ (0 ≤ x ∧ x ≤ z n - 1)) : ¬ ix n x := by
  rintro ⟨i, hi, e⟩
  subst e
  rcases wl_out hn h with c | c
  · exact z_neg (by omega) c
  · have := (z_le hn (by omega)).1 c
    omega
theorem ix_uniq {n i : Nat} (hn : n < 2147483648) (h : ix n (z i)) (hi : i < 2147483648) : i < n := by
  obtain ⟨j, hj, e⟩ := h
  have := (z_eq hi (by omega)).1 e
  omega
def ST (V : VV) : Prop := ∀ e, e < nE V → V 16 e = 100 ∨ V 16 e = 112 ∨ V 16 e = 119 ∨ V 16 e = 99
theorem nar_st {V : VV} (h : ST V) {e : Nat} (he : e < nE V) : narrow .char (.int (V 16 e)) = .int (V 16 e) := by
  rcases h e he with h | h | h | h <;> rw [h] <;> rfl
theorem kq_nar {V : VV} (K : KO V) {i j : Nat} (hi : i < 12) (hj : j < 12) : narrow .char (.int (kq V i j)) = .int (kq V i j) := by
  unfold kq
  split
  · rfl
  · rcases K (i * 12 + j) (by omega) with h | h | h <;> rw [h] <;> rfl
section SQ
variable {S : St} {A : Nat → Nat → Nat} {V : VV} {M : MM} {exc : String → St → Prop}
theorem s_workAt (R : Rep S A V M) {x : Int32} {g : Nat → St → Prop} (h1 : ∀ w, w < nW V → x = z w → g (A 9 w) S) (h0 : ¬ ix (nW V) x → exc "java/lang/IndexOutOfBoundsException" S) : w_X9_workAt S (A 10 0) x g exc := by
  have hb := bW R
  unfold w_X9_workAt
  refine ⟨o10 R, _, p10_2 R, o0 R (by decide), s_size0 R (by decide) ?_⟩
  refine s_isWithin (fun a b => ?_) (fun a => ⟨fun hc => absurd rfl hc, fun _ => h0 (ix_out (show nW V < 2147483648 by omega) a)⟩)
  obtain ⟨k, hk, rfl⟩ := ix_in (show nW V < 2147483648 by omega) a b
  exact ⟨fun _ => ⟨o10 R, _, p10_2 R, o0 R (by decide), s_get0 R (by decide) (show k < sz V 2 from hk) ⟨o9 R hk, h1 k hk rfl⟩⟩, fun hc => absurd hc (by decide)⟩
theorem s_roomAt (R : Rep S A V M) {x : Int32} {g : Nat → St → Prop} (h1 : ∀ w, w < nR V → x = z w → g (A 7 w) S) (h0 : ¬ ix (nR V) x → exc "java/lang/IndexOutOfBoundsException" S) : w_X9_roomAt S (A 10 0) x g exc := by
  have hb := bR R
  unfold w_X9_roomAt
  refine ⟨o10 R, _, p10_0 R, o4 R, _, p4_0 R, o0 R (by decide), s_size0 R (by decide) ?_⟩
  refine s_isWithin (fun a b => ?_) (fun a => ⟨fun hc => absurd rfl hc, fun _ => h0 (ix_out (show nR V < 2147483648 by omega) a)⟩)
  obtain ⟨k, hk, rfl⟩ := ix_in (show nR V < 2147483648 by omega) a b
  exact ⟨fun _ => ⟨o10 R, _, p10_0 R, o4 R, _, p4_0 R, o0 R (by decide), s_get0 R (by decide) (show k < sz V 0 from hk) ⟨o7 R hk, h1 k hk rfl⟩⟩, fun hc => absurd hc (by decide)⟩
theorem s_exhibitionAt (R : Rep S A V M) {x : Int32} {g : Nat → St → Prop} (h1 : ∀ w, w < nE V → x = z w → g (A 3 w) S) (h0 : ¬ ix (nE V) x → exc "java/util/NoSuchElementException" S) : w_X9_exhibitionAt S (A 10 0) x g exc := by
  have hb := bE R
  unfold w_X9_exhibitionAt
  refine ⟨o10 R, _, p10_4 R, o2 R, _, p2_0 R, o0 R (by decide), s_size0 R (by decide) ?_⟩
  refine s_isWithin (fun a b => ?_) (fun a => ⟨fun hc => absurd rfl hc, fun _ => h0 (ix_out (show nE V < 2147483648 by omega) a)⟩)
  obtain ⟨k, hk, rfl⟩ := ix_in (show nE V < 2147483648 by omega) a b
  exact ⟨fun _ => ⟨o10 R, _, p10_4 R, o2 R, _, p2_0 R, o0 R (by decide), s_get0 R (by decide) (show k < sz V 3 from hk) ⟨o3 R hk, h1 k hk rfl⟩⟩, fun hc => absurd hc (by decide)⟩
theorem s_shownAt (R : Rep S A V M) {e a0 : Nat} {x : Int32} {g : Nat → St → Prop} (he : e < nE V) (h1 : ∀ k, k < cn V e → x = z k → g (A 9 (ic V e k)) S) (h0 : ¬ ix (cn V e) x → exc "java/lang/IndexOutOfBoundsException" S) : w_X9_shownAt S a0 (A 3 e) x g exc := by
  have hb := bC R he
  unfold w_X9_shownAt
  refine ⟨o3 R he, _, p3_4 R he, o20 R he, s_size20 R he ?_⟩
  refine s_isWithin (fun a b => ?_) (fun a => ⟨fun hc => absurd rfl hc, fun _ => h0 (ix_out (by omega) a)⟩)
  obtain ⟨k, hk, rfl⟩ := ix_in (show cn V e < 2147483648 by omega) a b
  exact ⟨fun _ => ⟨o3 R he, _, p3_4 R he, o20 R he, s_get20 R he hk ⟨o9 R (bI R he hk), h1 k hk rfl⟩⟩, fun hc => absurd hc (by decide)⟩
/-! separate, separation, canHang -/
def spSep (V : VV) (x y kd : Int32) (k : Nat) (r : Int32) (V' : VV) : Prop :=
  (¬ (ix (nW V) x ∧ ix (nW V) y) ∧ k = 1 ∧ V' = V) ∨ ∃ i j, i < nW V ∧ j < nW V ∧ x = z i ∧ y = z j ∧
    (((i = j ∨ ¬ (kd = 114 ∨ kd = 119)) ∧ k = 2 ∧ V' = V) ∨ ((i ≠ j ∧ (kd = 114 ∨ kd = 119)) ∧ hag V i j kd ∧ k = 3 ∧ V' = V) ∨
     ((i ≠ j ∧ (kd = 114 ∨ kd = 119)) ∧ ¬ hag V i j kd ∧ k = 0 ∧ r = prs (sepV V i j kd) 144 / 2 ∧ ∃ n, it st1 (nE V) (sepV V i j kd) V' n))
theorem sepV_row {i j k : Nat} {kd : Int32} (h : k ≠ 12) : sepV V i j kd k = V k := by
  unfold sepV
  rw [up2_n _ _ h, up2_n _ _ h]
theorem keep1 {i j : Nat} {kd : Int32} {f : St → Prop} (R : Rep S A V M) (hi : i < 12) (hj : j < 12) (hk : kd = 114 ∨ kd = 119) (hf : f (setI S (A 24 0) (i * 12 + j) kd)) : w_X7_keepOneSide S (A 8 0) (z i) (z j) kd f := by
  unfold w_X7_keepOneSide
  rw [show (12 : Int32) = z 12 from rfl, z_ix]
  refine ⟨fun hc => absurd hc (z_neg (by omega)), fun _ => ⟨o8 R, _, p8_0 R, o24 R, fun hc => ?_, fun _ => ⟨?_, ?_⟩⟩⟩
  · rw [n24 R] at hc
    have := (z_le (a := 144) (by decide) (by omega)).1 hc
    omega
  · rw [n24 R]
    exact z_vp (by omega) (by decide)
  · rw [z_c (by omega)]
    have : vp_nar .char kd = kd := by rcases hk with h | h <;> rw [h] <;> rfl
    rw [this]
    exact hf
theorem sep_CV {i j : Nat} {kd : Int32} (C : CV V M) (hi : i < 12) (hj : j < 12) : CV (sepV V i j kd) (up3 (up3 M 24 0 (i * 12 + j) kd) 24 0 (j * 12 + i) kd) := by
  obtain ⟨c1, c2, c3, c4, c5, c6, c7⟩ := C
  have f1 : nR (sepV V i j kd) = nR V := by unfold nR; rw [sepV_row (by decide)]
  have f2 : nL (sepV V i j kd) = nL V := by unfold nL; rw [sepV_row (by decide)]
  have f3 : nW (sepV V i j kd) = nW V := by unfold nW; rw [sepV_row (by decide)]
  have f4 : nE (sepV V i j kd) = nE V := by unfold nE; rw [sepV_row (by decide)]
  have g : ∀ t, t ≠ 24 → up3 (up3 M 24 0 (i * 12 + j) kd) 24 0 (j * 12 + i) kd t = M t := fun t h => by rw [up3_t _ _ h, up3_t _ _ h]
  unfold CV
  rw [f1, f2, f3, f4, g 7 (by decide), g 5 (by decide), g 9 (by decide), g 3 (by decide), g 22 (by decide), g 10 (by decide), g 26 (by decide)]
  simp (decide := true) only [sepV_row]
  refine ⟨c1, c2, c3, c4, fun q hq => ?_, c6, c7⟩
  unfold sepV
  rw [up3_s, up3_s, up2_s, up2_s, upd_ap, upd_ap, upd_ap, upd_ap, c5 q hq]
theorem sep_KO {i j : Nat} {kd : Int32} (K : KO V) (hk : kd = 114 ∨ kd = 119) : KO (sepV V i j kd) := fun q hq => by
  unfold sepV
  rw [up2_s, up2_s, upd_ap, upd_ap]
  split
  · exact Or.inr hk
  · split
    · exact Or.inr hk
    · exact K q hq
theorem s_separate (R : Rep S A V M) (C : CV V M) (K : KO V) (hR4 : nR V ≤ 4) {x y kd : Int32} {g : Int32 → St → Prop}
    (hf : ∀ r V' S', spSep V x y kd 0 r V' → Dn A M V' S' → g r S') (h1 : spSep V x y kd 1 0 V → exc "java/lang/IndexOutOfBoundsException" S) (h2 : spSep V x y kd 2 0 V → exc "java/lang/IllegalArgumentException" S) (h3 : spSep V x y kd 3 0 V → exc "java/lang/IllegalStateException" S) : w_X9_separate S (A 10 0) x y kd g exc := by
  have hb := bW R
  unfold w_X9_separate
  refine ⟨o10 R, s_workAt R (fun i hi ex => ⟨o10 R, s_workAt R (fun j hj ey => ?_) (fun h => h1 (Or.inl ⟨fun h' => h h'.2, rfl, rfl⟩))⟩) (fun h => h1 (Or.inl ⟨fun h' => h h'.1, rfl, rfl⟩))⟩
  subst ex ey
  rw [z_eq (by omega) (by omega)]
  have go : i ≠ j → (kd = 114 ∨ kd = 119) → wj_X9_separate_51 g exc S (A 10 0) (z i) (z j) kd (A 9 i) (A 9 j) := fun hne hk => by
    unfold wj_X9_separate_51
    refine ⟨o10 R, _, p10_4 R, o2 R, s_hangsAg R C hi hj (fun a => ?_) (fun a => ?_)⟩
    · exact ⟨fun hc => absurd hc (by decide), fun _ => h3 (Or.inr ⟨i, j, hi, hj, rfl, rfl, Or.inr (Or.inl ⟨⟨hne, hk⟩, a, rfl, rfl⟩)⟩)⟩
    · refine ⟨fun _ => ⟨o10 R, _, p10_3 R, o8 R, ?_⟩, fun hc => absurd rfl hc⟩
      unfold w_X7_keep
      have Ra : Rep (setI S (A 24 0) (i * 12 + j) kd) A V (up3 M 24 0 (i * 12 + j) kd) := Rep_set R (show us V 24 0 from rfl) (fun h => by omega)
      have Rb : Rep (setI (setI S (A 24 0) (i * 12 + j) kd) (A 24 0) (j * 12 + i) kd) A V (up3 (up3 M 24 0 (i * 12 + j) kd) 24 0 (j * 12 + i) kd) := Rep_set Ra (show us V 24 0 from rfl) (fun h => by omega)
      have Rc : Rep (setI (setI S (A 24 0) (i * 12 + j) kd) (A 24 0) (j * 12 + i) kd) A (sepV V i j kd) (up3 (up3 M 24 0 (i * 12 + j) kd) 24 0 (j * 12 + i) kd) := Rep_V Rb (sepV_row (by decide)) (sepV_row (by decide)) (sepV_row (by decide)) (sepV_row (by decide)) (sepV_row (by decide)) (sepV_row (by decide)) (sepV_row (by decide))
      refine ⟨o8 R, keep1 R (by omega) (by omega) hk ⟨o8 Ra, keep1 Ra (by omega) (by omega) hk ⟨o10 Rc, ?_⟩⟩⟩
      have n4 : nR (sepV V i j kd) = nR V := by unfold nR; rw [sepV_row (by decide)]
      have nE' : nE (sepV V i j kd) = nE V := by unfold nE; rw [sepV_row (by decide)]
      refine s_planWait Rc (sep_CV C (by omega) (by omega)) (sep_KO K hk) (by rw [n4]; exact hR4) (fun S' M' V' n R' C' K' F' hit => ?_)
      refine ⟨o10 R', _, p10_3 R', o8 R', s_pairs R' C' ?_⟩
      have e12 : prs V' 144 = prs (sepV V i j kd) 144 := by
        unfold prs
        rw [it_st1_row (by decide) (by decide) (by decide) _ _ _ _ hit]
      rw [e12]
      rw [nE'] at hit
      exact hf _ V' S' (Or.inr ⟨i, j, hi, hj, rfl, rfl, Or.inr (Or.inr ⟨⟨hne, hk⟩, a, rfl, rfl, n, hit⟩)⟩) ⟨A, M', R', C', K', (Fr.trans (Fr.trans (Fr.up (by decide) (by decide) (by decide)) (Fr.up (by decide) (by decide) (by decide))) F'), Ak.refl A⟩
  refine ⟨fun hne => ⟨fun a => go hne (Or.inl a), fun a => ⟨fun b => go hne (Or.inr b), fun b => ?_⟩⟩, fun he => ?_⟩
  · refine h2 (Or.inr ⟨i, j, hi, hj, rfl, rfl, Or.inl ⟨Or.inr ?_, rfl, rfl⟩⟩)
    rintro (h | h)
    · exact a h
    · exact b h
  · exact h2 (Or.inr ⟨i, j, hi, hj, rfl, rfl, Or.inl ⟨Or.inl he, rfl, rfl⟩⟩)
def spSpn (V : VV) (x y : Int32) (k : Nat) (r : Int32) : Prop := (¬ (ix (nW V) x ∧ ix (nW V) y) ∧ k = 1) ∨ ∃ i j, i < nW V ∧ j < nW V ∧ x = z i ∧ y = z j ∧ k = 0 ∧ r = kq V i j
theorem s_separation (R : Rep S A V M) (C : CV V M) (K : KO V) {x y : Int32} {g : Int32 → St → Prop} (hf : ∀ r, spSpn V x y 0 r → g r S) (h1 : spSpn V x y 1 0 → exc "java/lang/IndexOutOfBoundsException" S) : w_X9_separation S (A 10 0) x y g exc := by
  have hb := bW R
  unfold w_X9_separation
  refine ⟨o10 R, s_workAt R (fun i hi ex => ⟨o10 R, s_workAt R (fun j hj ey => ?_) (fun h => h1 (Or.inl ⟨fun h' => h h'.2, rfl⟩))⟩) (fun h => h1 (Or.inl ⟨fun h' => h h'.1, rfl⟩))⟩
  refine ⟨o10 R, _, p10_3 R, o9 R hi, o9 R hj, o8 R, ?_⟩
  rw [f9_0 R C hi, f9_0 R C hj]
  exact s_kindOf R C K (by omega) (by omega) ⟨kq_nar K (by omega) (by omega), hf _ (Or.inr ⟨i, j, hi, hj, ex, ey, rfl, rfl⟩)⟩
def spCH (V : VV) (x y : Int32) (k : Nat) (r : Int32) : Prop := (¬ (ix (nW V) x ∧ ix (nR V) y) ∧ k = 1) ∨ ∃ i j, i < nW V ∧ j < nR V ∧ x = z i ∧ y = z j ∧ k = 0 ∧ r = if stn V i j = true then 1 else 0
theorem s_canHang (R : Rep S A V M) (C : CV V M) {x y : Int32} {g : Int32 → St → Prop} (hf : ∀ r, spCH V x y 0 r → g r S) (h1 : spCH V x y 1 0 → exc "java/lang/IndexOutOfBoundsException" S) : w_X9_canHang S (A 10 0) x y g exc := by
  unfold w_X9_canHang
  refine ⟨o10 R, s_workAt R (fun i hi ex => ⟨o10 R, s_roomAt R (fun j hj ey => ?_) (fun h => h1 (Or.inl ⟨fun h' => h h'.2, rfl⟩))⟩) (fun h => h1 (Or.inl ⟨fun h' => h h'.1, rfl⟩))⟩
  refine ⟨o9 R hi, s_stands R C hi hj (fun a => ⟨Or.inr rfl, hf _ (Or.inr ⟨i, j, hi, hj, ex, ey, rfl, by rw [if_pos a]⟩)⟩) (fun a => ⟨Or.inl rfl, hf _ (Or.inr ⟨i, j, hi, hj, ex, ey, rfl, by rw [a]; rfl⟩)⟩)⟩
/-! setClimate, request, cancel -/
def spClim (V : VV) (x h l : Int32) (k : Nat) (r : Int32) (V' : VV) : Prop :=
  (¬ ix (nR V) x ∧ k = 1 ∧ V' = V) ∨ ∃ i, i < nR V ∧ x = z i ∧ ((¬ (inr h 0 100 ∧ inr l 0 100) ∧ k = 2 ∧ V' = V) ∨ ((inr h 0 100 ∧ inr l 0 100) ∧ k = 0 ∧ ∃ V1 n n', r = z n ∧ it td1 (nE V) (climV V i h l) V1 n ∧ it st1 (nE V) V1 V' n'))
theorem climV_row {i k : Nat} {h l : Int32} (h0 : k ≠ 0) (h1 : k ≠ 1) : climV V i h l k = V k := by
  unfold climV
  rw [up2_n _ _ h1, up2_n _ _ h0]
theorem clim_CV {i : Nat} {h l : Int32} (C : CV V M) : CV (climV V i h l) (up3 (up3 M 7 i 0 h) 7 i 1 l) := by
  obtain ⟨c1, c2, c3, c4, c5, c6, c7⟩ := C
  have f1 : nR (climV V i h l) = nR V := by unfold nR; rw [climV_row (by decide) (by decide)]
  have f2 : nL (climV V i h l) = nL V := by unfold nL; rw [climV_row (by decide) (by decide)]
  have f3 : nW (climV V i h l) = nW V := by unfold nW; rw [climV_row (by decide) (by decide)]
  have f4 : nE (climV V i h l) = nE V := by unfold nE; rw [climV_row (by decide) (by decide)]
  have g : ∀ t, t ≠ 7 → up3 (up3 M 7 i 0 h) 7 i 1 l t = M t := fun t h => by rw [up3_t _ _ h, up3_t _ _ h]
  unfold CV
  rw [f1, f2, f3, f4, g 5 (by decide), g 9 (by decide), g 3 (by decide), g 22 (by decide), g 24 (by decide), g 10 (by decide), g 26 (by decide)]
  simp (decide := true) only [climV_row]
  refine ⟨fun q hq => ?_, c2, c3, c4, c5, c6, c7⟩
  obtain ⟨d0, d1, d2, d3⟩ := c1 q hq
  unfold climV
  rw [up2_n _ _ (show 0 ≠ 1 by decide), up2_s, up2_s, up2_n _ _ (show 1 ≠ 0 by decide)]
  by_cases e : q = i
  · subst e
    rw [up3_s, up3_s, upd_s, upd_s, upd_n _ _ (by decide), upd_s, upd_s, upd_n _ _ (by decide), upd_n _ _ (by decide), upd_n _ _ (by decide), upd_n _ _ (by decide)]
    exact ⟨rfl, rfl, d2, d3⟩
  · rw [up3_i _ _ e, up3_i _ _ e, upd_n _ _ e, upd_n _ _ e]
    exact ⟨d0, d1, d2, d3⟩
theorem s_setClimate (R : Rep S A V M) (C : CV V M) (K : KO V) (hR4 : nR V ≤ 4) {x h l : Int32} {g : Int32 → St → Prop}
    (hf : ∀ r V' S', spClim V x h l 0 r V' → Dn A M V' S' → g r S') (h1 : spClim V x h l 1 0 V → exc "java/lang/IndexOutOfBoundsException" S) (h2 : spClim V x h l 2 0 V → exc "java/lang/IllegalArgumentException" S) : w_X9_setClimate S (A 10 0) x h l g exc := by
  unfold w_X9_setClimate
  refine ⟨o10 R, s_roomAt R (fun i hi ex => s_isClimate (fun a => ?_) (fun a => ?_)) (fun h => h1 (Or.inl ⟨h, rfl, rfl⟩))⟩
  · refine ⟨fun _ => ⟨o7 R hi, ?_⟩, fun hc => absurd hc (by decide)⟩
    have Ra : Rep (setI S (A 7 i) 0 h) A V (up3 M 7 i 0 h) := Rep_set R (show us V 7 i from hi) (fun h => by omega)
    have Rb : Rep (setI (setI S (A 7 i) 0 h) (A 7 i) 1 l) A V (up3 (up3 M 7 i 0 h) 7 i 1 l) := Rep_set Ra (show us V 7 i from hi) (fun h => by omega)
    have Rc : Rep (setI (setI S (A 7 i) 0 h) (A 7 i) 1 l) A (climV V i h l) (up3 (up3 M 7 i 0 h) 7 i 1 l) := Rep_V Rb (climV_row (by decide) (by decide)) (climV_row (by decide) (by decide)) (climV_row (by decide) (by decide)) (climV_row (by decide) (by decide)) (climV_row (by decide) (by decide)) (climV_row (by decide) (by decide)) (climV_row (by decide) (by decide))
    have n4 : nR (climV V i h l) = nR V := by unfold nR; rw [climV_row (by decide) (by decide)]
    have nE' : nE (climV V i h l) = nE V := by unfold nE; rw [climV_row (by decide) (by decide)]
    refine ⟨o10 Rc, _, p10_4 Rc, _, p10_0 Rc, o2 Rc, s_takeDown Rc (clim_CV C) (KO_row (climV_row (by decide) (by decide)) K) (fun S' M' V1 n R' C' K' hn F' hit => ⟨o10 R', ?_⟩)⟩
    refine s_planWait R' C' K' (by rw [hn, n4]; exact hR4) (fun S2 M2 V2 n' R2 C2 K2 F2 hit2 => ?_)
    have nE2 : nE V1 = nE V := by
      rw [← nE']
      unfold nE
      rw [it_td1_row (by decide) _ _ _ _ hit]
    rw [nE'] at hit
    rw [nE2] at hit2
    exact hf _ V2 S2 (Or.inr ⟨i, hi, ex, Or.inr ⟨⟨⟨a.1, a.2.1⟩, ⟨a.2.2.1, a.2.2.2⟩⟩, rfl, V1, n, n', rfl, hit, hit2⟩⟩) ⟨A, M2, R2, C2, K2, (Fr.trans (Fr.trans (Fr.up (by decide) (by decide) (by decide)) (Fr.up (by decide) (by decide) (by decide))) (F'.trans F2)), Ak.refl A⟩
  · exact ⟨fun hc => absurd rfl hc, fun _ => h2 (Or.inr ⟨i, hi, ex, Or.inl ⟨fun h => a ⟨h.1.1, h.1.2, h.2.1, h.2.2⟩, rfl, rfl⟩⟩)⟩
def spReq (V : VV) (x : Int32) (k : Nat) (r : Int32) (V' : VV) : Prop :=
  (¬ ix (nE V) x ∧ k = 1 ∧ V' = V) ∨ ∃ e, e < nE V ∧ x = z e ∧ ((V 16 e ≠ 100 ∧ k = 2 ∧ V' = V) ∨ (V 16 e = 100 ∧ cn V e = 0 ∧ k = 3 ∧ V' = V) ∨ (V 16 e = 100 ∧ 0 < cn V e ∧ k = 0 ∧ ∃ b, st1 (up2 V 16 e 119) e V' b ∧ r = V' 16 e))
theorem s_request (R : Rep S A V M) (C : CV V M) (K : KO V) (hR4 : nR V ≤ 4) {x : Int32} {g : Int32 → St → Prop}
    (hf : ∀ r V' S', spReq V x 0 r V' → Dn A M V' S' → g r S') (h1 : spReq V x 1 0 V → exc "java/util/NoSuchElementException" S) (h2 : spReq V x 2 0 V → exc "java/lang/IllegalStateException" S) (h3 : spReq V x 3 0 V → exc "java/lang/UnsupportedOperationException" S) : w_X9_request S (A 10 0) x g exc := by
  unfold w_X9_request
  refine ⟨o10 R, s_exhibitionAt R (fun e he ex => ⟨o3 R he, ?_⟩) (fun h => h1 (Or.inl ⟨h, rfl, rfl⟩))⟩
  rw [f3_6 R C he]
  refine ⟨fun a => ⟨_, p3_4 R he, o20 R he, ?_⟩, fun a => h2 (Or.inr ⟨e, he, ex, Or.inl ⟨a, rfl, rfl⟩⟩)⟩
  have hb := bC R he
  unfold w_Jx4a65c_isEmpty_aae02
  rw [l20 R he, show (0 : Int32) = z 0 from rfl, z_eq (by omega) (by decide)]
  refine ⟨o20 R he, fun b => ⟨fun _ => ⟨o3 R he, ?_⟩, fun hc => absurd rfl hc⟩, fun b => ⟨fun hc => absurd hc (by decide), fun _ => h3 (Or.inr ⟨e, he, ex, Or.inr (Or.inl ⟨a, b, rfl, rfl⟩)⟩)⟩⟩
  have Ra := Rep16 (v := 119) R he
  have Ca := up2_CV16 (v := 119) C he
  have Ka : KO (up2 V 16 e 119) := KO_row (up2_n _ _ (by decide)) K
  have nE' : nE (up2 V 16 e 119) = nE V := by unfold nE; rw [up2_n _ _ (by decide)]
  have nR' : nR (up2 V 16 e 119) = nR V := by unfold nR; rw [up2_n _ _ (by decide)]
  have he' : e < nE (up2 V 16 e 119) := by rw [nE']; exact he
  have s16 : up2 V 16 e 119 16 e = 119 := by rw [up2_s, upd_s]
  refine ⟨o10 Ra, s_finds Ra Ca he' Ka (by rw [nR']; exact hR4) (fun S' M' p R' sx hp hc => ?_) (fun S' M' R' sx hn => ?_)⟩
  · refine ⟨fun hc => absurd hc (by decide), fun _ => ⟨o10 R', s_hangAsFound R' (sx.cv Ca) he' hc (fun S2 M2 R2 C2 F2 => ?_)⟩⟩
    have he2 : e < nE (setl (up2 V 16 e 119) e p) := by rw [setl_nE]; exact he'
    have e16 : setl (up2 V 16 e 119) e p 16 e = 112 := by rw [setl_16, if_pos rfl]
    refine ⟨o3 R2 he2, ?_⟩
    rw [f3_6 R2 C2 he2, e16]
    refine ⟨rfl, hf _ _ S2 (Or.inr ⟨e, he, ex, Or.inr (Or.inr ⟨a, by omega, rfl, 1, Or.inl ⟨s16, p, hp, rfl, rfl⟩, e16.symm⟩)⟩) ⟨A, M2, R2, C2, setl_KO Ka, Fr.trans (Fr.up (by decide) (by decide) (by decide)) (sx.fr.trans F2), Ak.refl A⟩⟩
  · refine ⟨fun _ => ⟨o3 R' he', ?_⟩, fun hc => absurd rfl hc⟩
    rw [f3_6 R' (sx.cv Ca) he', s16]
    exact ⟨rfl, hf _ _ S' (Or.inr ⟨e, he, ex, Or.inr (Or.inr ⟨a, by omega, rfl, 0, Or.inr ⟨fun h => nopl_pln hn h.2, rfl, rfl⟩, s16.symm⟩)⟩) ⟨A, M', R', sx.cv Ca, Ka, Fr.trans (Fr.up (by decide) (by decide) (by decide)) sx.fr, Ak.refl A⟩⟩
def spCan (V : VV) (x : Int32) (k : Nat) (r : Int32) (V' : VV) : Prop :=
  (¬ ix (nE V) x ∧ k = 1 ∧ V' = V) ∨ ∃ e, e < nE V ∧ x = z e ∧ ((V 16 e = 99 ∧ k = 2 ∧ V' = V) ∨ (V 16 e ≠ 99 ∧ k = 0 ∧ ∃ n, it st1 (nE V) (up2 V 16 e 99) V' n ∧ r = z n))
theorem s_cancel (R : Rep S A V M) (C : CV V M) (K : KO V) (hR4 : nR V ≤ 4) {x : Int32} {g : Int32 → St → Prop}
    (hf : ∀ r V' S', spCan V x 0 r V' → Dn A M V' S' → g r S') (h1 : spCan V x 1 0 V → exc "java/util/NoSuchElementException" S) (h2 : spCan V x 2 0 V → exc "java/lang/IllegalStateException" S) : w_X9_cancel S (A 10 0) x g exc := by
  unfold w_X9_cancel
  refine ⟨o10 R, s_exhibitionAt R (fun e he ex => ⟨o3 R he, ?_⟩) (fun h => h1 (Or.inl ⟨h, rfl, rfl⟩))⟩
  rw [f3_6 R C he]
  have Ra := Rep16 (v := 99) R he
  have nE' : nE (up2 V 16 e 99) = nE V := by unfold nE; rw [up2_n _ _ (by decide)]
  have nR' : nR (up2 V 16 e 99) = nR V := by unfold nR; rw [up2_n _ _ (by decide)]
  refine ⟨fun a => ⟨o10 Ra, s_planWait Ra (up2_CV16 C he) (KO_row (up2_n _ _ (by decide)) K) (by rw [nR']; exact hR4) (fun S' M' V' n R' C' K' F' hit => ?_)⟩, fun a => h2 (Or.inr ⟨e, he, ex, Or.inl ⟨a, rfl, rfl⟩⟩)⟩
  rw [nE'] at hit
  exact hf _ V' S' (Or.inr ⟨e, he, ex, Or.inr ⟨a, rfl, n, hit, rfl⟩⟩) ⟨A, M', R', C', K', Fr.trans (Fr.up (by decide) (by decide) (by decide)) F', Ak.refl A⟩
end SQ
