/-! ===== the class's plan of one exhibition ===== -/
def prp (V : VV) (e : Nat) : Prop := ∀ j, j < cn V e → takes V e (ic V e j) ∧ ∃ q, q < 2 * nR V ∧ opn V e j q
section CH
variable {A : Nat → Nat → Nat} {V : VV}
theorem l_prep1 {e : Nat} {M0 : MM} {f : Int32 → St → Prop} (he : e < nE V) (hR4 : nR V ≤ 4) (hk : ∀ S' M', Rep S' A V M' → Sx M0 M' → bdA V e M' → ∃ m : Nat, wl_X0_prepare_63 f m S' (A 1 0) (A 3 e) (A 4 0) (A 2 0) (A 8 0) 0) : ∀ n k S M, k ≤ 2 * nR V → 2 * nR V < k + n → Rep S A V M → CV V M → Sx M0 M → M 1 0 0 = z (cn V e) → M 1 0 1 = z (2 * nR V) → (∀ w, w < k → M 25 0 w = fr V e w) → wl_X0_prepare_22 f n S (A 1 0) (A 3 e) (A 4 0) (A 2 0) (A 8 0) (z k) := by
  intro n
  induction n with
  | zero => intro k S M k1 k2; omega
  | succ n ih =>
    intro k S M k1 k2 R C sx m0 m1 hf
    unfold wl_X0_prepare_22
    refine ⟨o1 R, ?_⟩
    rw [i1 R, m1]
    refine ⟨fun hc => ?_, fun hc => ?_⟩
    · have h3 := z_ex k1 (by omega) hc
      subst h3
      exact hk S M R sx ⟨m0, m1, hf⟩
    · have h3 := z_go k1 (by omega) hc
      refine ⟨_, p1_2 R, o4 R, s_lengthOf R C ⟨o2 R, s_mostTaken R C he ?_⟩⟩
      rw [len_in h3 (by omega)]
      refine s_putAt (o25 R (by decide)) (n25_0 R) (by omega) (by decide) ?_
      rw [z_s]
      refine ih (k + 1) _ _ (by omega) (by omega) (R25 R (by decide)) (Sx.cv (Sx.up25 M 0 _ _) C) (sx.trans (Sx.up25 M 0 _ _)) ?_ ?_ ?_
      · rw [up3_t M _ (by decide)]
        exact m0
      · rw [up3_t M _ (by decide)]
        exact m1
      · intro w hw
        rw [up3_s]
        by_cases e1 : w = k
        · rw [e1, upd_s]
          rfl
        · rw [upd_n _ _ e1]
          exact hf w (by omega)
theorem l_prep3 {e i : Nat} {M0 : MM} {f : Int32 → St → Prop} {k63 : St → Nat → Nat → Nat → Nat → Nat → Int32 → Prop} (he : e < nE V) (hi : i < cn V e) (K : KO V) (hR4 : nR V ≤ 4)
    (h1 : takes V e (ic V e i) → (∃ q, q < 2 * nR V ∧ opn V e i q) → ∀ S' M', Rep S' A V M' → Sx M0 M' → bdA V e M' → bdW V e (i + 1) M' → k63 S' (A 1 0) (A 3 e) (A 4 0) (A 2 0) (A 8 0) (z (i + 1)))
    (h0 : ¬ (takes V e (ic V e i) ∧ ∃ q, q < 2 * nR V ∧ opn V e i q) → ∀ S' M', Rep S' A V M' → Sx M0 M' → f 0 S') : ∀ n k S M, k ≤ i → i < k + n → Rep S A V M → CV V M → Sx M0 M → bdA V e M → bdW V e i M → M 25 1 i = spc V e i → bdK V e i k M → wl_X0_prepare_111 f k63 n S (A 1 0) (A 3 e) (A 4 0) (A 2 0) (A 8 0) (z i) (A 9 (ic V e i)) (z k) := by
  intro n
  induction n with
  | zero => intro k S M k1 k2; omega
  | succ n ih =>
    intro k S M k1 k2 R C sx bA bw b1 bk
    have hw := bI R he hi
    have hc5 := bC R he
    have hW12 := bW R
    unfold wl_X0_prepare_111
    refine ⟨fun hc => ?_, fun hc => ?_⟩
    · have h3 := z_ex k1 (by omega) hc
      subst h3
      refine ⟨o2 R, s_allowsTaking R C he hw (fun a => ?_) (fun a => ?_)⟩
      · refine ⟨fun hc => absurd hc (by decide), fun _ => ⟨o1 R, s_opens R C he hi K hR4 bA b1 (fun b S' M' R' sy bo => ?_) (fun b S' M' R' sy => ?_)⟩⟩
        · refine ⟨fun _ => ?_, fun hc => absurd hc (by decide)⟩
          rw [z_s]
          refine h1 a b S' M' R' (sx.trans sy.1.sx) (Sz_bdA sy.1 (by decide) bA) (fun j hj => ?_)
          by_cases e1 : j = k
          · rw [e1, sy.1.2 1 (by decide)]
            refine ⟨b1, bo, fun q hq => ?_⟩
            rw [sy.1.2 4 (by decide)]
            exact bk q hq
          · obtain ⟨c1, c2, c3⟩ := bw j (by omega)
            refine ⟨by rw [sy.1.2 1 (by decide)]; exact c1, fun q hq => ?_, fun q hq => ?_⟩
            · rw [sy.2 (j * 8 + q) (by omega)]
              exact c2 q hq
            · rw [sy.1.2 4 (by decide)]
              exact c3 q hq
        · exact ⟨fun hc => absurd rfl hc, fun _ => h0 (fun h => b h.2) S' M' R' (sx.trans sy.1.sx)⟩
      · exact ⟨fun _ => h0 (fun h => a h.1) S M R sx, fun hc => absurd rfl hc⟩
    · have h3 := z_go k1 (by omega) hc
      refine ⟨o9 R hw, o3 R he, _, p3_4 R he, o20 R he, s_get20 R he (show k < cn V e by omega) ?_⟩
      have hw2 := bI R he (show k < cn V e by omega)
      refine ⟨o9 R hw2, o8 R, ?_⟩
      show w_X7_kindOf S (A 8 0) (sI S (A 9 (ic V e i)) 0) (sI S (A 9 (ic V e k)) 0) _
      rw [f9_0 R C hw, f9_0 R C hw2]
      refine s_kindOf R C K (by omega) (by omega) ⟨o1 R, _, p1_6 R, ?_⟩
      rw [show (5 : Int32) = z 5 from rfl, z_ix]
      refine s_putAt (o25 R (by decide)) (n25_4 R) (by omega) (by decide) ?_
      rw [z_s]
      refine ih (k + 1) _ _ (by omega) (by omega) (R25 R (by decide)) (Sx.cv (Sx.up25 M 4 _ _) C) (sx.trans (Sx.up25 M 4 _ _)) (Sz_bdA (Sz.up M 4 _ _) (by decide) bA) (fun j hj => ?_) ?_ (fun q hq => ?_)
      · obtain ⟨c1, c2, c3⟩ := bw j hj
        refine ⟨by rw [up3_i M _ (by decide)]; exact c1, fun q hq => ?_, fun q hq => ?_⟩
        · rw [up3_i M _ (by decide)]
          exact c2 q hq
        · rw [up3_s, upd_n _ _ (by omega)]
          exact c3 q hq
      · rw [up3_i M _ (by decide)]
        exact b1
      · rw [up3_s]
        by_cases e1 : q = k
        · rw [e1, upd_s]
        · rw [upd_n _ _ (by omega)]
          exact bk q (by omega)
theorem l_prep2 {e : Nat} {M0 : MM} {f : Int32 → St → Prop} (he : e < nE V) (K : KO V) (hR4 : nR V ≤ 4)
    (h1 : prp V e → ∀ S' M', Rep S' A V M' → Sx M0 M' → bdA V e M' → bdW V e (cn V e) M' → f 1 S')
    (h0 : ¬ prp V e → ∀ S' M', Rep S' A V M' → Sx M0 M' → f 0 S') : ∀ n i S M, i ≤ cn V e → cn V e < i + n → Rep S A V M → CV V M → Sx M0 M → bdA V e M → bdW V e i M → (∀ j, j < i → takes V e (ic V e j) ∧ ∃ q, q < 2 * nR V ∧ opn V e j q) → wl_X0_prepare_63 f n S (A 1 0) (A 3 e) (A 4 0) (A 2 0) (A 8 0) (z i) := by
  intro n
  induction n with
  | zero => intro k S M k1 k2; omega
  | succ n ih =>
    intro i S M k1 k2 R C sx bA bw hn
    have hc5 := bC R he
    unfold wl_X0_prepare_63
    refine ⟨o3 R he, _, p3_4 R he, o20 R he, s_size20 R he ⟨fun hc => ?_, fun hc => ?_⟩⟩
    · have h3 := z_ex k1 (by omega) hc
      subst h3
      exact h1 hn S M R sx bA bw
    · have hi := z_go k1 (by omega) hc
      have hw := bI R he hi
      refine ⟨o3 R he, _, p3_4 R he, o20 R he, s_get20 R he hi ⟨o9 R hw, o1 R, _, p1_3 R, o3 R he, ?_⟩⟩
      show w_X9_putAt S (A 25 1) (z i) (sI S (A 9 (ic V e i)) 1 + sI S (A 3 e) 3) _
      rw [f9_1 R C hw, f3_3 R C he]
      refine s_putAt (o25 R (by decide)) (n25_1 R) (by omega) (by decide) ?_
      refine ⟨i + 1, l_prep3 (M0 := M0) he hi K hR4 (fun a b S' M' R' sx' bA' bw' => ?_) (fun a S' M' R' sx' => ?_) _ 0 _ _ (Nat.zero_le _) (by omega) (R25 R (by decide)) (Sx.cv (Sx.up25 M 1 _ _) C) (sx.trans (Sx.up25 M 1 _ _)) (Sz_bdA (Sz.up M 1 _ _) (by decide) bA) (fun j hj => ?_) ?_ (fun q hq => absurd hq (by omega))⟩
      · refine ih (i + 1) S' M' (by omega) (by omega) R' (Sx.cv (fun t p q => ?_) C) sx' bA' bw' (fun j hj => ?_)
        · rw [sx' t p q, sx t p q]
        · by_cases e1 : j = i
          · rw [e1]; exact ⟨a, b⟩
          · exact hn j (by omega)
      · exact h0 (fun h => a (h i hi)) S' M' R' sx'
      · obtain ⟨c1, c2, c3⟩ := bw j hj
        refine ⟨by rw [up3_s, upd_n _ _ (by omega)]; exact c1, fun q hq => ?_, fun q hq => ?_⟩
        · rw [up3_i M _ (by decide)]
          exact c2 q hq
        · rw [up3_i M _ (by decide)]
          exact c3 q hq
      · rw [up3_s, upd_s]
        rfl
theorem s_prepare {S : St} {M : MM} {e : Nat} {f : Int32 → St → Prop} (R : Rep S A V M) (C : CV V M) (he : e < nE V) (K : KO V) (hR4 : nR V ≤ 4)
    (h1 : prp V e → ∀ S' M', Rep S' A V M' → Sx M M' → bdA V e M' → bdW V e (cn V e) M' → f 1 S')
    (h0 : ¬ prp V e → ∀ S' M', Rep S' A V M' → Sx M M' → f 0 S') : w_X0_prepare S (A 1 0) (A 3 e) (A 4 0) (A 2 0) (A 8 0) f := by
  unfold w_X0_prepare
  have Ra := R1 (k := 0) (v := z (cn V e)) R
  have Rb := R1 (k := 1) (v := z (2 * nR V)) Ra
  have sa : Sx M (up3 M 1 0 0 (z (cn V e))) := Sx.up1 M _ _
  have sb := sa.trans (Sx.up1 (up3 M 1 0 0 (z (cn V e))) 1 (z (2 * nR V)))
  refine ⟨o3 R he, _, p3_4 R he, o20 R he, s_size20 R he ⟨o1 R, o4 Ra, s_walls Ra ⟨o1 Ra, 2 * nR V + 1, ?_⟩⟩⟩
  refine l_prep1 (M0 := M) he hR4 (fun S' M' R' sx' bA' => ?_) _ 0 _ _ (Nat.zero_le _) (by omega) Rb (sb.cv C) sb ?_ ?_ (fun w hw => absurd hw (by omega))
  · exact ⟨cn V e + 1, l_prep2 (M0 := M) he K hR4 h1 h0 _ 0 S' M' (Nat.zero_le _) (by omega) R' (sx'.cv C) sx' bA' (fun j hj => absurd hj (by omega)) (fun j hj => absurd hj (by omega))⟩
  · rw [up3_s, upd_n _ _ (by decide), up3_s, upd_s]
  · rw [up3_s, upd_s]
/-! the search, work by work -/
theorem cof_kq (K : KO V) {i j : Nat} (hi : i < 12) (hj : j < 12) : cof (kq V i j) = kq V i j := by
  unfold kq
  split
  · rfl
  · rcases K (i * 12 + j) (by omega) with h | h | h
    · rw [h]; rfl
    · rw [h]; rfl
    · rw [h]; rfl
theorem l_fits {S : St} {M : MM} (R : Rep S A V M) {e i : Nat} {p : Nat → Nat} {f : Int32 → St → Prop} (he : e < nE V) (hi : i < cn V e) (K : KO V) (bA : bdA V e M) (bw : bdW V e (cn V e) M) (hR4 : nR V ≤ 4) (hp : ∀ j, j ≤ i → M 25 2 j = z (p j) ∧ p j < 2 * nR V) (ho : opn V e i (p i))
    (h1 : okp V e p i → f 1 S) (h0 : ¬ okp V e p i → f 0 S) : ∀ n k, k ≤ i → i < k + n → (∀ j, j < k → br (kq V (ic V e i) (ic V e j)) (z (p i)) (z (p j)) = false) → wl_X0_fitsToThoseBefore_39 f n S (A 1 0) (z i) (z (p i)) (spc V e i + su k (fun k => if p k = p i then spc V e k else 0)) (z k) := by
  have hc5 := bC R he
  have hW12 := bW R
  have hw := bI R he hi
  have hpi := (hp i (Nat.le_refl _)).2
  intro n
  induction n with
  | zero => intro k k1 k2; omega
  | succ n ih =>
    intro k k1 k2 hn
    unfold wl_X0_fitsToThoseBefore_39
    refine ⟨fun hc => ?_, fun hc => ?_⟩
    · have h3 := z_ex k1 (by omega) hc
      subst h3
      refine ⟨o1 R, _, p1_2 R, s_numberAt (o25 R (by decide)) (n25_0 R) (by omega) (by decide) ?_⟩
      rw [i25 R (by decide), bA.2.2 _ hpi]
      exact ⟨fun a => h0 (fun h => Int32.not_lt.2 h.2.2 a), fun a => h1 ⟨ho, hn, Int32.not_lt.1 a⟩⟩
    · have h3 := z_go k1 (by omega) hc
      have hk2 := bI R he (show k < cn V e by omega)
      have h4 := fun (hb : br (kq V (ic V e i) (ic V e k)) (z (p i)) (z (p k)) = false) => ih (k + 1) (by omega) (by omega) (fun j hj => by
        by_cases e1 : j = k
        · rw [e1]; exact hb
        · exact hn j (by omega))
      simp only [su] at h4
      refine ⟨o1 R, _, p1_4 R, s_numberAt (o25 R (by decide)) (n25_2 R) (by omega) (by decide) ?_⟩
      rw [i25 R (by decide), (hp k k1).1]
      refine ⟨o1 R, _, p1_6 R, ?_⟩
      rw [show (5 : Int32) = z 5 from rfl, z_ix]
      refine s_numberAt (o25 R (by decide)) (n25_4 R) (by omega) (by decide) ?_
      rw [i25 R (by decide), (bw i hi).2.2 k h3, cof_kq K (by omega) (by omega)]
      refine s_isBroken (fun a => ?_) (fun a => ?_)
      · refine ⟨fun hc => absurd hc (by decide), fun _ => h0 (fun h => ?_)⟩
        have := h.2.1 k h3
        rw [a] at this
        cases this
      · have h5 := h4 a
        refine ⟨fun _ => ?_, fun hc => absurd rfl hc⟩
        rw [z_eq (by have := (hp k k1).2; omega) (by omega)]
        refine ⟨fun b => ?_, fun b => ⟨o1 R, _, p1_3 R, s_numberAt (o25 R (by decide)) (n25_1 R) (by omega) (by decide) ?_⟩⟩
        · rw [if_neg b, Int32.add_zero] at h5
          rw [z_s, Int32.add_zero]
          exact h5
        · rw [if_pos b] at h5
          rw [i25 R (by decide), (bw k (by omega)).1, z_s, Int32.add_assoc]
          exact h5
theorem s_fits {S : St} {M : MM} (R : Rep S A V M) {e i : Nat} {p : Nat → Nat} {f : Int32 → St → Prop} (he : e < nE V) (hi : i < cn V e) (K : KO V) (bA : bdA V e M) (bw : bdW V e (cn V e) M) (hR4 : nR V ≤ 4) (hp : ∀ j, j ≤ i → M 25 2 j = z (p j) ∧ p j < 2 * nR V)
    (h1 : okp V e p i → f 1 S) (h0 : ¬ okp V e p i → f 0 S) : w_X0_fitsToThoseBefore S (A 1 0) (z i) f := by
  have hc5 := bC R he
  have hpi := (hp i (Nat.le_refl _)).2
  unfold w_X0_fitsToThoseBefore
  refine ⟨o1 R, _, p1_4 R, s_numberAt (o25 R (by decide)) (n25_2 R) (by omega) (by decide) ?_⟩
  rw [i25 R (by decide), (hp i (Nat.le_refl _)).1]
  refine ⟨o1 R, _, p1_5 R, ?_⟩
  rw [show (8 : Int32) = z 8 from rfl, z_ix]
  refine s_numberAt (o25 R (by decide)) (n25_3 R) (by omega) (by decide) ?_
  rw [i25 R (by decide)]
  obtain ⟨b1, b2, b3⟩ := bw i hi
  refine ⟨fun a => ⟨o1 R, _, p1_3 R, s_numberAt (o25 R (by decide)) (n25_1 R) (by omega) (by decide) ?_⟩, fun a => h0 (fun h => ?_)⟩
  · rw [i25 R (by decide), b1]
    have ho : opn V e i (p i) := Classical.byContradiction fun h => a ((b2 _ hpi).2 h)
    have h5 := l_fits R he hi K bA bw hR4 hp ho h1 h0 (i + 1) 0 (Nat.zero_le _) (by omega) (fun j hj => absurd hj (by omega))
    simp only [su, Int32.add_zero] at h5
    exact ⟨i + 1, h5⟩
  · rw [(b2 _ hpi).1 h.1] at a
    exact absurd a (by decide)
theorem Sz_bdW {e i : Nat} {M M' : MM} (h : Sz 2 M M') (b : bdW V e i M) : bdW V e i M' := by
  intro j hj
  obtain ⟨c1, c2, c3⟩ := b j hj
  refine ⟨by rw [h.2 1 (by decide)]; exact c1, fun q hq => ?_, fun q hq => ?_⟩
  · rw [h.2 3 (by decide)]
    exact c2 q hq
  · rw [h.2 4 (by decide)]
    exact c3 q hq
theorem s_hangFrom {e : Nat} (he : e < nE V) (K : KO V) (hR4 : nR V ≤ 4) : ∀ n i S M p (f : Int32 → St → Prop), i ≤ cn V e → cn V e < i + n → Rep S A V M → bdA V e M → bdW V e (cn V e) M → (∀ j, j < i → M 25 2 j = z (p j)) → (∀ j, j < i → p j < 2 * nR V ∧ okp V e p j) →
    (∀ S' M' p', Rep S' A V M' → Sz 2 M M' → HT (okp V e) (cn V e) (2 * nR V) i p p' → (∀ j, j < cn V e → M' 25 2 j = z (p' j)) → f 1 S') →
    (∀ S' M', Rep S' A V M' → Sz 2 M M' → HF (okp V e) (cn V e) (2 * nR V) i p → (∀ j, j < i → M' 25 2 j = z (p j)) → f 0 S') → w_X0_hangFrom n S (A 1 0) (z i) f := by
  intro n
  induction n with
  | zero => intro i S M p f k1 k2; omega
  | succ n ih =>
    intro i S M p f k1 k2 R bA bw hp hv h1 h0
    have hc5 := bC R he
    unfold w_X0_hangFrom
    refine ⟨o1 R, ?_⟩
    rw [i1 R, bA.1]
    refine ⟨fun hc => ?_, fun hc => ⟨fun _ => ?_, fun hc2 => ?_⟩⟩
    · have h3 := z_ex k1 (by omega) hc
      subst h3
      exact h1 S M p R (Sz.refl 2 M) (HT_full hv) hp
    · have hi := z_go k1 (by omega) hc
      suffices hs : ∀ m w S' M', w ≤ 2 * nR V → 2 * nR V < w + m → Rep S' A V M' → Sz 2 M M' → (∀ j, j < i → M' 25 2 j = z (p j)) → HI (okp V e) (cn V e) (2 * nR V) i w p → wl_X0_hangFrom_17 f (w_X0_hangFrom n) m S' (A 1 0) (z i) (z w) from
        ⟨2 * nR V + 1, hs _ 0 S M (Nat.zero_le _) (by omega) R (Sz.refl 2 M) hp HI_0⟩
      intro m
      induction m with
      | zero => intro w S' M' w1 w2; omega
      | succ m ihm =>
        intro w S' M' w1 w2 R' sz' hp' hI
        have bA' := Sz_bdA sz' (by decide) bA
        have bw' := Sz_bdW sz' bw
        unfold wl_X0_hangFrom_17
        refine ⟨o1 R', ?_⟩
        rw [i1 R', bA'.2.1]
        refine ⟨fun hc => ?_, fun hc => ?_⟩
        · have h3 := z_ex w1 (by omega) hc
          subst h3
          exact h0 S' M' R' sz' (HI_end hI hi) hp'
        · have hw := z_go w1 (by omega) hc
          refine ⟨_, p1_4 R', s_putAt (o25 R' (by decide)) (n25_2 R') (by omega) (by decide) ?_⟩
          have R2 := R25 (k := i) (v := z w) R' (show 2 < 5 by decide)
          have s2 := sz'.trans (Sz.up M' 2 i (z w))
          have bA2 := Sz_bdA s2 (by decide) bA
          have bw2 := Sz_bdW s2 bw
          have hp2 : ∀ j, j < i → up3 M' 25 2 i (z w) 25 2 j = z (p j) := fun j hj => by
            rw [up3_s, upd_n _ _ (by omega)]
            exact hp' j hj
          have hp3 : ∀ j, j ≤ i → up3 M' 25 2 i (z w) 25 2 j = z (pu p i w j) ∧ pu p i w j < 2 * nR V := fun j hj => by
            by_cases e1 : j = i
            · rw [e1, up3_s, upd_s, pu_s]
              exact ⟨rfl, hw⟩
            · rw [hp2 j (by omega), pu_n p w e1]
              exact ⟨rfl, (hv j (by omega)).1⟩
          refine ⟨o1 R2, s_fits R2 he hi K bA2 bw2 hR4 hp3 (fun a => ?_) (fun a => ?_)⟩
          · refine ⟨fun hc => absurd hc (by decide), fun _ => ?_⟩
            rw [z_s]
            refine ih (i + 1) _ _ (pu p i w) _ (by omega) (by omega) R2 bA2 bw2 (fun j hj => (hp3 j (by omega)).1) (Va_pu (okp_lo V e) hv hw a) (fun S3 M3 p3 R3 s3 t3 c3 => ?_) (fun S3 M3 R3 s3 t3 c3 => ?_)
            · exact ⟨fun hc => absurd hc (by decide), fun _ => h1 S3 M3 p3 R3 (s2.trans s3) (HT_up hI t3) c3⟩
            · refine ⟨fun _ => ?_, fun hc => absurd rfl hc⟩
              rw [z_s]
              refine ihm (w + 1) S3 M3 (by omega) (by omega) R3 (s2.trans s3) (fun j hj => ?_) (HI_dead hI t3)
              rw [c3 j (by omega), pu_n p w (by omega)]
          · refine ⟨fun _ => ?_, fun hc => absurd rfl hc⟩
            rw [z_s]
            exact ihm (w + 1) _ _ (by omega) (by omega) R2 s2 hp2 (HI_bad (okp_lo V e) hI hi a)
    · have hi := z_go k1 (by omega) hc
      rw [show (5 : Int32) = z 5 from rfl, z_lt (by omega) (by decide)] at hc2
      omega
theorem s_hangWork {e : Nat} {S : St} {M : MM} {f : Int32 → St → Prop} (he : e < nE V) (K : KO V) (hR4 : nR V ≤ 4) (R : Rep S A V M) (bA : bdA V e M) (bw : bdW V e (cn V e) M)
    (h1 : ∀ S' M' p, Rep S' A V M' → Sz 2 M M' → Fi (okp V e) (cn V e) (2 * nR V) p → (∀ j, j < cn V e → M' 25 2 j = z (p j)) → f 1 S')
    (h0 : ∀ S' M', Rep S' A V M' → Sz 2 M M' → (∀ p, ¬ Va (okp V e) (cn V e) (2 * nR V) p) → f 0 S') : w_X0_hangWorkByWork S (A 1 0) f := by
  have hc5 := bC R he
  unfold w_X0_hangWorkByWork
  refine s_hangFrom he K hR4 7 0 S M (fun _ => 0) _ (Nat.zero_le _) (by omega) R bA bw (fun j hj => absurd hj (by omega)) (fun j hj => absurd hj (by omega)) (fun S' M' p' R' s' t' c' => ?_) (fun S' M' R' s' t' c' => ?_)
  · exact ⟨Or.inr rfl, h1 S' M' p' R' s' (HT_Fi t') c'⟩
  · exact ⟨Or.inl rfl, h0 S' M' R' s' (HF_no t')⟩
end CH
