/-! ===== the class's calls that only answer ===== -/
section SR
variable {S : St} {A : Nat → Nat → Nat} {V : VV} {M : MM} {exc : String → St → Prop}
def spSt (V : VV) (x : Int32) (k : Nat) (r : Int32) : Prop := (¬ ix (nE V) x ∧ k = 1) ∨ ∃ e, e < nE V ∧ x = z e ∧ k = 0 ∧ r = V 16 e
theorem s_stateOf (R : Rep S A V M) (C : CV V M) (T : ST V) {x : Int32} {g : Int32 → St → Prop} (hf : ∀ r, spSt V x 0 r → g r S) (h1 : spSt V x 1 0 → exc "java/util/NoSuchElementException" S) : w_X9_stateOf S (A 10 0) x g exc := by
  unfold w_X9_stateOf
  refine ⟨o10 R, s_exhibitionAt R (fun e he ex => ⟨o3 R he, ?_⟩) (fun h => h1 (Or.inl ⟨h, rfl⟩))⟩
  rw [f3_6 R C he]
  exact ⟨nar_st T he, hf _ (Or.inr ⟨e, he, ex, rfl, rfl⟩)⟩
def spWs (V : VV) (x : Int32) (k : Nat) (r : Int32) : Prop := (¬ ix (nE V) x ∧ k = 1) ∨ ∃ e, e < nE V ∧ x = z e ∧ k = 0 ∧ r = z (cn V e)
theorem s_worksOf (R : Rep S A V M) {x : Int32} {g : Int32 → St → Prop} (hf : ∀ r, spWs V x 0 r → g r S) (h1 : spWs V x 1 0 → exc "java/util/NoSuchElementException" S) : w_X9_worksOf S (A 10 0) x g exc := by
  unfold w_X9_worksOf
  refine ⟨o10 R, s_exhibitionAt R (fun e he ex => ⟨o3 R he, _, p3_4 R he, o20 R he, s_size20 R he ?_⟩) (fun h => h1 (Or.inl ⟨h, rfl⟩))⟩
  exact hf _ (Or.inr ⟨e, he, ex, rfl, rfl⟩)
def spWk (V : VV) (x y : Int32) (k : Nat) (r : Int32) : Prop := (¬ ix (nE V) x ∧ k = 1) ∨ ∃ e, e < nE V ∧ x = z e ∧ ((¬ ix (cn V e) y ∧ k = 2) ∨ ∃ q, q < cn V e ∧ y = z q ∧ k = 0 ∧ r = z (ic V e q))
theorem s_workOf (R : Rep S A V M) (C : CV V M) {x y : Int32} {g : Int32 → St → Prop} (hf : ∀ r, spWk V x y 0 r → g r S) (h1 : spWk V x y 1 0 → exc "java/util/NoSuchElementException" S) (h2 : spWk V x y 2 0 → exc "java/lang/IndexOutOfBoundsException" S) : w_X9_workOf S (A 10 0) x y g exc := by
  unfold w_X9_workOf
  refine ⟨o10 R, s_exhibitionAt R (fun e he ex => ⟨o10 R, s_shownAt R he (fun q hq ey => ⟨o9 R (bI R he hq), ?_⟩) (fun h => h2 (Or.inr ⟨e, he, ex, Or.inl ⟨h, rfl⟩⟩))⟩) (fun h => h1 (Or.inl ⟨h, rfl⟩))⟩
  rw [f9_0 R C (bI R he hq)]
  exact hf _ (Or.inr ⟨e, he, ex, Or.inr ⟨q, hq, ey, rfl, rfl⟩⟩)
def spWl (V : VV) (x y : Int32) (k : Nat) (r : Int32) : Prop := (¬ ix (nE V) x ∧ k = 1) ∨ ∃ e, e < nE V ∧ x = z e ∧ ((¬ ix (cn V e) y ∧ k = 2) ∨ ∃ q, q < cn V e ∧ y = z q ∧ ((V 16 e ≠ 112 ∧ k = 3) ∨ (V 16 e = 112 ∧ k = 0 ∧ r = V 19 (5 * e + q))))
theorem s_wallOf (R : Rep S A V M) (C : CV V M) {x y : Int32} {g : Int32 → St → Prop} (hf : ∀ r, spWl V x y 0 r → g r S) (h1 : spWl V x y 1 0 → exc "java/util/NoSuchElementException" S) (h2 : spWl V x y 2 0 → exc "java/lang/IndexOutOfBoundsException" S) (h3 : spWl V x y 3 0 → exc "java/lang/IllegalStateException" S) : w_X9_wallOf S (A 10 0) x y g exc := by
  unfold w_X9_wallOf
  refine ⟨o10 R, s_exhibitionAt R (fun e he ex => ⟨o10 R, s_shownAt R he (fun q hq ey => ⟨o3 R he, ?_⟩) (fun h => h2 (Or.inr ⟨e, he, ex, Or.inl ⟨h, rfl⟩⟩))⟩) (fun h => h1 (Or.inl ⟨h, rfl⟩))⟩
  rw [f3_6 R C he]
  have hb := bC R he
  refine ⟨fun a => ⟨_, p3_5 R he, ?_⟩, fun a => h3 (Or.inr ⟨e, he, ex, Or.inr ⟨q, hq, ey, Or.inl ⟨a, rfl⟩⟩⟩)⟩
  subst ey
  refine s_numberAt (o22 R he) (n22 R he) (by omega) (by decide) ?_
  rw [f22 R C he (by omega)]
  exact hf _ (Or.inr ⟨e, he, ex, Or.inr ⟨q, hq, rfl, Or.inr ⟨a, rfl, rfl⟩⟩⟩)
def spCT (V : VV) (x y : Int32) (k : Nat) (r : Int32) : Prop := (¬ ix (nE V) x ∧ k = 1) ∨ ∃ e, e < nE V ∧ x = z e ∧ ((¬ ix (cn V e) y ∧ k = 2) ∨ ∃ q, q < cn V e ∧ y = z q ∧ ((V 16 e = 99 ∧ k = 3) ∨ (V 16 e ≠ 99 ∧ k = 0 ∧ ((takes V e (ic V e q) ∧ r = 1) ∨ (¬ takes V e (ic V e q) ∧ r = 0)))))
theorem s_canTake (R : Rep S A V M) (C : CV V M) {x y : Int32} {g : Int32 → St → Prop} (hf : ∀ r, spCT V x y 0 r → g r S) (h1 : spCT V x y 1 0 → exc "java/util/NoSuchElementException" S) (h2 : spCT V x y 2 0 → exc "java/lang/IndexOutOfBoundsException" S) (h3 : spCT V x y 3 0 → exc "java/lang/IllegalStateException" S) : w_X9_canTake S (A 10 0) x y g exc := by
  unfold w_X9_canTake
  refine ⟨o10 R, s_exhibitionAt R (fun e he ex => ⟨o10 R, s_shownAt R he (fun q hq ey => ⟨o3 R he, ?_⟩) (fun h => h2 (Or.inr ⟨e, he, ex, Or.inl ⟨h, rfl⟩⟩))⟩) (fun h => h1 (Or.inl ⟨h, rfl⟩))⟩
  rw [f3_6 R C he]
  refine ⟨fun a => ⟨o10 R, _, p10_4 R, o2 R, s_allowsTaking R C he (bI R he hq) (fun b => ⟨Or.inr rfl, ?_⟩) (fun b => ⟨Or.inl rfl, ?_⟩)⟩, fun a => h3 (Or.inr ⟨e, he, ex, Or.inr ⟨q, hq, ey, Or.inl ⟨a, rfl⟩⟩⟩)⟩
  · exact hf _ (Or.inr ⟨e, he, ex, Or.inr ⟨q, hq, ey, Or.inr ⟨a, rfl, Or.inl ⟨b, rfl⟩⟩⟩⟩)
  · exact hf _ (Or.inr ⟨e, he, ex, Or.inr ⟨q, hq, ey, Or.inr ⟨a, rfl, Or.inr ⟨b, rfl⟩⟩⟩⟩)
def spWF (V : VV) (x y : Int32) (k : Nat) (r : Int32) : Prop := (¬ ix (nE V) x ∧ k = 1) ∨ ∃ e, e < nE V ∧ x = z e ∧ ((¬ ix (cn V e) y ∧ k = 2) ∨ ∃ q, q < cn V e ∧ y = z q ∧ (((V 16 e = 112 ∨ V 16 e = 99) ∧ k = 3) ∨ (¬ (V 16 e = 112 ∨ V 16 e = 99) ∧ ((nopl V e ∧ k = 4) ∨ (k = 0 ∧ ∃ p, pln V e p ∧ r = z (p q))))))
theorem s_open (R : Rep S A V M) (C : CV V M) {x y : Int32} {g : Nat → St → Prop} (hf : ∀ e q, e < nE V → x = z e → q < cn V e → y = z q → ¬ (V 16 e = 112 ∨ V 16 e = 99) → g (A 3 e) S) (h1 : spWF V x y 1 0 → exc "java/util/NoSuchElementException" S) (h2 : spWF V x y 2 0 → exc "java/lang/IndexOutOfBoundsException" S) (h3 : spWF V x y 3 0 → exc "java/lang/IllegalStateException" S) : w_X9_openExhibitionAt S (A 10 0) x y g exc := by
  unfold w_X9_openExhibitionAt
  refine ⟨o10 R, s_exhibitionAt R (fun e he ex => ⟨o10 R, s_shownAt R he (fun q hq ey => ⟨o3 R he, ?_⟩) (fun h => h2 (Or.inr ⟨e, he, ex, Or.inl ⟨h, rfl⟩⟩))⟩) (fun h => h1 (Or.inl ⟨h, rfl⟩))⟩
  rw [f3_6 R C he]
  refine ⟨fun a => h3 (Or.inr ⟨e, he, ex, Or.inr ⟨q, hq, ey, Or.inl ⟨Or.inl a, rfl⟩⟩⟩), fun a => ⟨fun b => hf e q he ex hq ey ?_, fun b => h3 (Or.inr ⟨e, he, ex, Or.inr ⟨q, hq, ey, Or.inl ⟨Or.inr b, rfl⟩⟩⟩)⟩⟩
  rintro (h | h)
  · exact a h
  · exact b h
theorem s_wallFor (R : Rep S A V M) (C : CV V M) (K : KO V) (hR4 : nR V ≤ 4) {x y : Int32} {g : Int32 → St → Prop} (hf : ∀ r S', spWF V x y 0 r → Dn A M V S' → g r S') (h1 : spWF V x y 1 0 → exc "java/util/NoSuchElementException" S) (h2 : spWF V x y 2 0 → exc "java/lang/IndexOutOfBoundsException" S) (h3 : spWF V x y 3 0 → exc "java/lang/IllegalStateException" S) (h4 : ∀ S', spWF V x y 4 0 → Dn A M V S' → exc "java/lang/UnsupportedOperationException" S') : w_X9_wallFor S (A 10 0) x y g exc := by
  unfold w_X9_wallFor
  refine ⟨o10 R, s_open R C (fun e q he ex hq ey hn => ⟨o10 R, s_finds R C he K hR4 (fun S' M' p R' sx hp hc => ?_) (fun S' M' R' sx hno => ?_)⟩) h1 h2 h3⟩
  · have hb := bC R he
    subst ey
    refine ⟨fun _ => ⟨o10 R', _, p10_5 R', o1 R', _, p1_4 R', s_numberAt (o25 R' (by decide)) (n25_2 R') (by omega) (by decide) ?_⟩, fun hc => absurd hc (by decide)⟩
    rw [i25 R' (by decide), hc q hq]
    exact hf _ S' (Or.inr ⟨e, he, ex, Or.inr ⟨q, hq, rfl, Or.inr ⟨hn, Or.inr ⟨rfl, p, hp, rfl⟩⟩⟩⟩) ⟨A, M', R', sx.cv C, K, sx.fr, Ak.refl A⟩
  · exact ⟨fun hc => absurd rfl hc, fun _ => h4 S' (Or.inr ⟨e, he, ex, Or.inr ⟨q, hq, ey, Or.inr ⟨hn, Or.inl ⟨hno, rfl⟩⟩⟩⟩) ⟨A, M', R', sx.cv C, K, sx.fr, Ak.refl A⟩⟩
theorem s_wallForS (R : Rep S A V M) (C : CV V M) (K : KO V) (hR4 : nR V ≤ 4) {x y : Int32} {g : Int32 → St → Prop} (hf : ∀ r S', spWF V x y 0 r → Dn A M V S' → g r S') (h1 : spWF V x y 1 0 → exc "java/util/NoSuchElementException" S) (h2 : spWF V x y 2 0 → exc "java/lang/IndexOutOfBoundsException" S) (h3 : spWF V x y 3 0 → exc "java/lang/IllegalStateException" S) (h4 : ∀ S', spWF V x y 4 0 → Dn A M V S' → exc "java/lang/UnsupportedOperationException" S') : w_X9_wallForBySearch S (A 10 0) x y g exc := by
  unfold w_X9_wallForBySearch
  refine ⟨o10 R, s_open R C (fun e q he ex hq ey hn => ⟨o10 R, s_findsS R C he K hR4 (by omega) (fun S' M' p R' sx hp hc => ?_) (fun S' M' R' sx hno => ?_)⟩) h1 h2 h3⟩
  · have hb := bC R he
    subst ey
    refine ⟨fun _ => ⟨o10 R', _, p10_5 R', o1 R', _, p1_4 R', s_numberAt (o25 R' (by decide)) (n25_2 R') (by omega) (by decide) ?_⟩, fun hc => absurd hc (by decide)⟩
    rw [i25 R' (by decide), hc q hq]
    exact hf _ S' (Or.inr ⟨e, he, ex, Or.inr ⟨q, hq, rfl, Or.inr ⟨hn, Or.inr ⟨rfl, p, hp, rfl⟩⟩⟩⟩) ⟨A, M', R', sx.cv C, K, sx.fr, Ak.refl A⟩
  · exact ⟨fun hc => absurd rfl hc, fun _ => h4 S' (Or.inr ⟨e, he, ex, Or.inr ⟨q, hq, ey, Or.inr ⟨hn, Or.inl ⟨hno, rfl⟩⟩⟩⟩) ⟨A, M', R', sx.cv C, K, sx.fr, Ak.refl A⟩⟩
/-! trips -/
/-- the values and the limit as small numbers -/
def vn (V : VV) (e l i : Nat) : Nat := ((vq V e l (cn V e)).2 i).toNatClampNeg
def VR (V : VV) : Prop := (∀ w, w < nW V → inr (V 10 w) 1 999) ∧ ∀ l, l < nL V → inr (V 3 l) 1 9999
def spTr (V : VV) (x y : Int32) (k : Nat) (r : Int32) : Prop := (¬ ix (nE V) x ∧ k = 1) ∨ ∃ e, e < nE V ∧ x = z e ∧ ((¬ ix (nL V) y ∧ k = 2) ∨ ∃ l, l < nL V ∧ y = z l ∧ ((¬ lim V e l (cn V e) ∧ k = 3) ∨ (lim V e l (cn V e) ∧ k = 0 ∧ ∃ q, q ≤ 5 ∧ mn (vq V e l (cn V e)).1 (vn V e l) (V 3 l).toNatClampNeg (fun i => decide (i < (vq V e l (cn V e)).1)) q ∧ r = z q)))
theorem vq_val {e l : Nat} (n : Nat) : ∀ i, i < (vq V e l n).1 → ∃ j, j < n ∧ ow V (ic V e j) = some l ∧ (vq V e l n).2 i = V 10 (ic V e j) := by
  induction n with
  | zero => intro i hi; simp only [vq] at hi; omega
  | succ n ih =>
    intro i hi
    simp only [vq] at hi ⊢
    by_cases h : ow V (ic V e n) = some l
    · rw [if_pos h] at hi ⊢
      dsimp only at hi ⊢
      by_cases e1 : i = (vq V e l n).1
      · rw [e1, upd_s]
        exact ⟨n, by omega, h, rfl⟩
      · rw [upd_n _ _ e1]
        obtain ⟨j, a, b, c⟩ := ih i (by omega)
        exact ⟨j, by omega, b, c⟩
    · rw [if_neg h] at hi ⊢
      obtain ⟨j, a, b, c⟩ := ih i hi
      exact ⟨j, by omega, b, c⟩
theorem inr_nat {x : Int32} {a b : Nat} (hb : b < 2147483648) (h : inr x (z a) (z b)) (ha : a ≤ b) : x = z x.toNatClampNeg ∧ a ≤ x.toNatClampNeg ∧ x.toNatClampNeg ≤ b := by
  have h0 : (0 : Int32) ≤ x := Int32.le_trans (z_nn (show a < 2147483648 by omega)) h.1
  have e := z_of h0
  have hx : x.toNatClampNeg < 2147483648 := Int32.toNatClampNeg_lt x
  refine ⟨e.symm, ?_, ?_⟩
  · have := h.1
    rw [← e, z_le (by omega) hx] at this
    exact this
  · have := h.2
    rw [← e, z_le hx hb] at this
    exact this
theorem vn_ok (Q : VR V) {e l : Nat} (hl : l < nL V) (hi : ∀ k, k < cn V e → ic V e k < nW V) (h : lim V e l (cn V e)) : ∀ i, i < (vq V e l (cn V e)).1 → (vq V e l (cn V e)).2 i = z (vn V e l i) ∧ vn V e l i ≤ 999 ∧ vn V e l i ≤ (V 3 l).toNatClampNeg := fun i hi' => by
  obtain ⟨j, a, b, c⟩ := vq_val (V := V) (e := e) (l := l) _ i hi'
  obtain ⟨x1, x2, x3⟩ := inr_nat (a := 1) (b := 999) (by decide) (Q.1 _ (hi j a)) (by decide)
  obtain ⟨y1, y2, y3⟩ := inr_nat (a := 1) (b := 9999) (by decide) (Q.2 l hl) (by decide)
  have := h j a b
  unfold vn
  rw [c]
  refine ⟨x1, x3, ?_⟩
  rw [x1, y1, z_le (by omega) (by omega)] at this
  exact this
theorem s_collectLoads (R : Rep S A V M) (C : CV V M) {x y : Int32} {g : St → Prop} (hf : ∀ e l S' M', e < nE V → x = z e → l < nL V → y = z l → lim V e l (cn V e) → Rep S' A V M' → Sq M M' → M' 6 0 0 = V 3 l → M' 6 0 1 = z (vq V e l (cn V e)).1 → (∀ i, i < (vq V e l (cn V e)).1 → M' 26 0 i = (vq V e l (cn V e)).2 i) → g S')
    (h1 : spTr V x y 1 0 → exc "java/util/NoSuchElementException" S) (h2 : spTr V x y 2 0 → exc "java/lang/IndexOutOfBoundsException" S) (h3 : ∀ S' M', spTr V x y 3 0 → Rep S' A V M' → Sq M M' → exc "java/lang/UnsupportedOperationException" S') : w_X9_collectLoads S (A 10 0) x y g exc := by
  have hb := bL R
  unfold w_X9_collectLoads
  refine ⟨o10 R, s_exhibitionAt R (fun e he ex => ⟨o10 R, _, p10_1 R, o0 R (by decide), s_size0 R (by decide) ?_⟩) (fun h => h1 (Or.inl ⟨h, rfl⟩))⟩
  refine s_isWithin (fun a b => ?_) (fun a => ⟨fun hc => absurd rfl hc, fun _ => h2 (Or.inr ⟨e, he, ex, Or.inl ⟨ix_out (show nL V < 2147483648 by omega) a, rfl⟩⟩)⟩)
  obtain ⟨l, hl, rfl⟩ := ix_in (show nL V < 2147483648 by omega) a b
  refine ⟨fun _ => ⟨o10 R, _, p10_6 R, _, p10_1 R, o0 R (by decide), s_get0 R (by decide) (show l < sz V 1 from hl) ⟨o5 R hl, o6 R, s_collect R C he hl (fun c S' M' R' sq m0 m1 mv => ?_) (fun c S' M' R' sq => ?_)⟩⟩, fun hc => absurd hc (by decide)⟩
  · exact ⟨fun _ => hf e l S' M' he ex hl rfl c R' sq m0 m1 mv, fun hc => absurd hc (by decide)⟩
  · exact ⟨fun hc => absurd rfl hc, fun _ => h3 S' M' (Or.inr ⟨e, he, ex, Or.inr ⟨l, hl, rfl, Or.inl ⟨c, rfl⟩⟩⟩) R' sq⟩
theorem s_trips (R : Rep S A V M) (C : CV V M) (K : KO V) (Q : VR V) {x y : Int32} {g : Int32 → St → Prop} (hf : ∀ r S', spTr V x y 0 r → Dn A M V S' → g r S') (h1 : spTr V x y 1 0 → exc "java/util/NoSuchElementException" S) (h2 : spTr V x y 2 0 → exc "java/lang/IndexOutOfBoundsException" S) (h3 : ∀ S', spTr V x y 3 0 → Dn A M V S' → exc "java/lang/UnsupportedOperationException" S') : w_X9_trips S (A 10 0) x y g exc := by
  unfold w_X9_trips
  refine ⟨o10 R, s_collectLoads R C (fun e l S' M' he ex hl ey hlim R' sq m0 m1 mv => ⟨o10 R', _, p10_6 R', o6 R', ?_⟩) h1 h2 (fun S' M' h R' sq => h3 S' h ⟨A, M', R', sq.cv C, K, sq.fr, Ak.refl A⟩)⟩
  have hv := vn_ok Q hl (fun k hk => bI R he hk) hlim
  have hc5 := Nat.le_trans (vq_le (V := V) (e := e) (l := l) (cn V e)) (bC R he)
  obtain ⟨y1, y2, y3⟩ := inr_nat (a := 1) (b := 9999) (by decide) (Q.2 l hl) (by decide)
  have ld : LD (vq V e l (cn V e)).1 (vn V e l) (V 3 l).toNatClampNeg M' := ⟨by rw [m0]; exact y1, m1, fun i hi => by rw [mv i hi]; exact (hv i hi).1⟩
  have C' := sq.cv C
  refine s_groups R' hc5 (fun i hi => (hv i hi).2.2) (by omega) (fun i hi => by have := (hv i hi).2.1; omega) ld C'.2.2.2.2.2.2.2 (fun S2 M2 q R2 sn m2 hq hq5 => ?_)
  refine hf _ S2 (Or.inr ⟨e, he, ex, Or.inr ⟨l, hl, ey, Or.inr ⟨hlim, rfl, q, hq5, hq, rfl⟩⟩⟩) ⟨A, M2, R2, ?_, K, ?_, Ak.refl A⟩
  · have s2 : Sq M' M2 := ⟨fun t _ b => sn.1 t b, sn.2 1 (by decide), m2⟩
    exact s2.cv C'
  · exact sq.fr.trans ⟨sn.1 11 (by decide), sn.1 27 (by decide), sn.1 28 (by decide)⟩
theorem s_tripsT (R : Rep S A V M) (C : CV V M) (K : KO V) (Q : VR V) {x y : Int32} {g : Int32 → St → Prop} (hf : ∀ r S', spTr V x y 0 r → Dn A M V S' → g r S') (h1 : spTr V x y 1 0 → exc "java/util/NoSuchElementException" S) (h2 : spTr V x y 2 0 → exc "java/lang/IndexOutOfBoundsException" S) (h3 : ∀ S', spTr V x y 3 0 → Dn A M V S' → exc "java/lang/UnsupportedOperationException" S') : w_X9_tripsByTrying S (A 10 0) x y g exc := by
  unfold w_X9_tripsByTrying
  refine ⟨o10 R, s_collectLoads R C (fun e l S' M' he ex hl ey hlim R' sq m0 m1 mv => ⟨o10 R', _, p10_6 R', o6 R', ?_⟩) h1 h2 (fun S' M' h R' sq => h3 S' h ⟨A, M', R', sq.cv C, K, sq.fr, Ak.refl A⟩)⟩
  have hv := vn_ok Q hl (fun k hk => bI R he hk) hlim
  have hc5 := Nat.le_trans (vq_le (V := V) (e := e) (l := l) (cn V e)) (bC R he)
  obtain ⟨y1, y2, y3⟩ := inr_nat (a := 1) (b := 9999) (by decide) (Q.2 l hl) (by decide)
  have ld : LD (vq V e l (cn V e)).1 (vn V e l) (V 3 l).toNatClampNeg M' := ⟨by rw [m0]; exact y1, m1, fun i hi => by rw [mv i hi]; exact (hv i hi).1⟩
  have C' := sq.cv C
  refine s_trying R' hc5 (fun i hi => (hv i hi).2.2) (by omega) ld C'.2.2.2.2.2.2.1 (fun S2 M2 q R2 sn m2 hq hq5 => ?_)
  refine hf _ S2 (Or.inr ⟨e, he, ex, Or.inr ⟨l, hl, ey, Or.inr ⟨hlim, rfl, q, hq5, hq, rfl⟩⟩⟩) ⟨A, M2, R2, ?_, K, ?_, Ak.refl A⟩
  · have s2 : Sq M' M2 := ⟨fun t _ b => sn.1 t b, m2, by rw [sn.2 2 (by decide)]⟩
    exact s2.cv C'
  · exact sq.fr.trans ⟨sn.1 11 (by decide), sn.1 27 (by decide), sn.1 28 (by decide)⟩
/-! walls and totals -/
def spU (V : VV) (x y : Int32) (k : Nat) : Prop := (¬ ix (2 * nR V) x ∧ k = 1) ∨ (ix (2 * nR V) x ∧ ¬ inr y 0 99 ∧ k = 2) ∨ (ix (2 * nR V) x ∧ inr y 0 99 ∧ k = 0)
theorem s_refuse (R : Rep S A V M) {x y : Int32} {g : St → Prop} (hf : spU V x y 0 → g S) (h1 : spU V x y 1 → exc "java/lang/IndexOutOfBoundsException" S) (h2 : spU V x y 2 → exc "java/lang/IllegalArgumentException" S) : w_X9_refuseUnknown S (A 10 0) x y g exc := by
  have hb := bR R
  unfold w_X9_refuseUnknown
  refine ⟨o10 R, _, p10_0 R, o4 R, s_walls R ?_⟩
  refine s_isWithin (fun a b => ?_) (fun a => ⟨fun hc => absurd rfl hc, fun _ => h1 (Or.inl ⟨ix_out (by omega) a, rfl⟩)⟩)
  have hx := ix_in (show 2 * nR V < 2147483648 by omega) a b
  refine ⟨fun _ => s_isWithin (fun c d => ⟨fun _ => hf (Or.inr (Or.inr ⟨hx, ⟨c, d⟩, rfl⟩)), fun hc => absurd hc (by decide)⟩) (fun c => ⟨fun hc => absurd rfl hc, fun _ => h2 (Or.inr (Or.inl ⟨hx, c, rfl⟩))⟩), fun hc => absurd hc (by decide)⟩
theorem s_taken (R : Rep S A V M) (C : CV V M) {x y : Int32} {g : Int32 → St → Prop} (hf : spU V x y 0 → g (tk V x y) S) (h1 : spU V x y 1 → exc "java/lang/IndexOutOfBoundsException" S) (h2 : spU V x y 2 → exc "java/lang/IllegalArgumentException" S) : w_X9_taken S (A 10 0) x y g exc := by
  unfold w_X9_taken
  exact ⟨o10 R, s_refuse R (fun h => ⟨o10 R, _, p10_4 R, o2 R, s_takenOn R C (hf h)⟩) h1 h2⟩
theorem s_hanging (R : Rep S A V M) (C : CV V M) {x y : Int32} {g : Int32 → St → Prop} (hf : spU V x y 0 → g (hg V x y) S) (h1 : spU V x y 1 → exc "java/lang/IndexOutOfBoundsException" S) (h2 : spU V x y 2 → exc "java/lang/IllegalArgumentException" S) : w_X9_hanging S (A 10 0) x y g exc := by
  unfold w_X9_hanging
  exact ⟨o10 R, s_refuse R (fun h => ⟨o10 R, _, p10_4 R, o2 R, s_worksOn R C (hf h)⟩) h1 h2⟩
def spAw (V : VV) (x y : Int32) (k : Nat) (r : Int32) : Prop := (¬ ix (nW V) x ∧ k = 1) ∨ ∃ w, w < nW V ∧ x = z w ∧ ((¬ inr y (-9) 108 ∧ k = 2) ∨ (inr y (-9) 108 ∧ (((∀ g, g < nE V → ¬ away V g w y y) ∧ k = 3) ∨ ∃ g, g < nE V ∧ away V g w y y ∧ (∀ j, j < g → ¬ away V j w y y) ∧ k = 0 ∧ r = z g)))
theorem s_awayFor (R : Rep S A V M) (C : CV V M) {x y : Int32} {g : Int32 → St → Prop} (hf : ∀ r, spAw V x y 0 r → g r S) (h1 : spAw V x y 1 0 → exc "java/lang/IndexOutOfBoundsException" S) (h2 : spAw V x y 2 0 → exc "java/lang/IllegalArgumentException" S) (h3 : spAw V x y 3 0 → exc "java/util/NoSuchElementException" S) : w_X9_awayFor S (A 10 0) x y g exc := by
  have hb := bE R
  unfold w_X9_awayFor
  refine ⟨o10 R, s_workAt R (fun w hw ex => s_isWithin (fun a b => ⟨fun _ => ⟨o10 R, _, p10_4 R, o2 R, s_exhibitionWith R C hw (fun e he ha hj => ?_) (fun hn => ?_)⟩, fun hc => absurd hc (by decide)⟩) (fun a => ⟨fun hc => absurd rfl hc, fun _ => h2 (Or.inr ⟨w, hw, ex, Or.inl ⟨a, rfl⟩⟩)⟩)) (fun h => h1 (Or.inl ⟨h, rfl⟩))⟩
  · exact ⟨fun _ => hf _ (Or.inr ⟨w, hw, ex, Or.inr ⟨⟨a, b⟩, Or.inr ⟨e, he, ha, hj, rfl, rfl⟩⟩⟩), fun hc => absurd hc (z_nm (by omega))⟩
  · exact ⟨fun hc => absurd rfl hc, fun _ => h3 (Or.inr ⟨w, hw, ex, Or.inr ⟨⟨a, b⟩, Or.inl ⟨hn, rfl⟩⟩⟩)⟩
theorem s_rooms (R : Rep S A V M) {g : Int32 → St → Prop} (hf : g (z (nR V)) S) : w_X9_rooms S (A 10 0) g := by
  unfold w_X9_rooms
  exact ⟨o10 R, _, p10_0 R, o4 R, _, p4_0 R, o0 R (by decide), s_size0 R (by decide) hf⟩
theorem s_works (R : Rep S A V M) {g : Int32 → St → Prop} (hf : g (z (nW V)) S) : w_X9_works S (A 10 0) g := by
  unfold w_X9_works
  exact ⟨o10 R, _, p10_2 R, o0 R (by decide), s_size0 R (by decide) hf⟩
theorem s_planned (R : Rep S A V M) (C : CV V M) {g : Int32 → St → Prop} (hf : g (V 28 0) S) : w_X9_planned S (A 10 0) g := by
  unfold w_X9_planned
  rw [f10_7 R C]
  exact ⟨o10 R, hf⟩
theorem s_insuredX (R : Rep S A V M) (C : CV V M) {g : Int64 → St → Prop} (hf : g (iss V) S) : w_X9_insured S (A 10 0) g := by
  unfold w_X9_insured
  exact ⟨o10 R, _, p10_4 R, o2 R, s_insured R C hf⟩
/-! isSafe -/
def wtr (V : VV) : Prop := ∀ e, e < nE V → V 16 e = 119 → nopl V e
def WC (V : VV) : Prop := ∀ e, e < nE V → V 16 e = 119 → 0 < cn V e
theorem l_waitRight {A : Nat → Nat → Nat} {V : VV} {M0 : MM} {f : Int32 → St → Prop} (C0 : CV V M0) (K : KO V) (hR4 : nR V ≤ 4) (W : WC V) (h1 : wtr V → ∀ S' M', Rep S' A V M' → Sx M0 M' → f 1 S') (h0 : ¬ wtr V → ∀ S' M', Rep S' A V M' → Sx M0 M' → f 0 S') : ∀ n k S M, k ≤ nE V → nE V < k + n → Rep S A V M → Sx M0 M → (∀ e, e < k → V 16 e = 119 → nopl V e) → wl_X9_allWaitRightly_2 f n S (A 10 0) (z k) := by
  intro n
  induction n with
  | zero => intro k S M k1 k2; omega
  | succ n ih =>
    intro k S M k1 k2 R sx hn
    have hb := bE R
    have C := sx.cv C0
    unfold wl_X9_allWaitRightly_2
    refine ⟨o10 R, _, p10_4 R, o2 R, _, p2_0 R, o0 R (by decide), s_size0 R (by decide) ?_⟩
    show (z (nE V) ≤ z k → _) ∧ (¬ z (nE V) ≤ z k → _)
    refine ⟨fun hc => ?_, fun hc => ?_⟩
    · have h3 := z_ex k1 (by omega) hc
      subst h3
      exact h1 hn S M R sx
    · have h3 := z_go k1 (by omega) hc
      have nx : ∀ S' M', Rep S' A V M' → Sx M0 M' → (V 16 k = 119 → nopl V k) → wl_X9_allWaitRightly_2 f n S' (A 10 0) (z k + 1) := fun S' M' R' sx' hk => by
        rw [z_s]
        refine ih (k + 1) S' M' (by omega) (by omega) R' sx' (fun e he => ?_)
        by_cases h : e = k
        · rw [h]; exact hk
        · exact hn e (by omega)
      refine ⟨o10 R, _, p10_4 R, o2 R, _, p2_0 R, o0 R (by decide), s_get0 R (by decide) (show k < sz V 3 from h3) ⟨o3 R h3, ?_⟩⟩
      show (¬ sI S (A 3 k) 6 = 119 → _) ∧ (sI S (A 3 k) 6 = 119 → _)
      rw [f3_6 R C h3]
      refine ⟨fun a => nx S M R sx (fun h => absurd h a), fun a => ⟨o10 R, s_finds R C h3 K hR4 (fun S' M' p R' sx' hp hc => ?_) (fun S' M' R' sx' hno => ?_)⟩⟩
      · exact ⟨fun _ => h0 (fun h => nopl_pln (h k h3 a) ⟨p, hp⟩) S' M' R' (sx.trans sx'), fun hc => absurd hc (by decide)⟩
      · refine ⟨fun hc => absurd rfl hc, fun _ => ⟨o10 R', s_findsS R' (sx'.cv C) h3 K hR4 (W k h3 a) (fun S2 M2 p R2 sx2 hp hc => ?_) (fun S2 M2 R2 sx2 hno2 => ?_)⟩⟩
        · exact absurd ⟨p, hp⟩ (nopl_pln hno)
        · exact ⟨fun _ => nx S2 M2 R2 (sx.trans (sx'.trans sx2)) (fun _ => hno2), fun hc => absurd rfl hc⟩
def safe (V : VV) : Prop := (∀ e, e < nE V → V 16 e = 112 → swh V e ∧ kap V e) ∧ fit V ∧ (∀ e, e < nE V → V 16 e = 112 → ata V e) ∧ wtr V
theorem s_isSafe (R : Rep S A V M) (C : CV V M) (K : KO V) (hR4 : nR V ≤ 4) (W : WC V) {g : Int32 → St → Prop} (h1 : safe V → ∀ S', Dn A M V S' → g 1 S') (h0 : ¬ safe V → ∀ S', Dn A M V S' → g 0 S') : w_X9_isSafe S (A 10 0) g := by
  have D0 : Dn A M V S := Dn.same R C K
  unfold w_X9_isSafe
  refine ⟨o10 R, _, p10_4 R, _, p10_0 R, _, p10_3 R, o2 R, s_ahw R C K (fun a => ?_) (fun a => ?_)⟩
  · refine ⟨fun hc => absurd hc (by decide), fun _ => ⟨o10 R, _, p10_4 R, _, p10_0 R, o2 R, s_fit R C (fun b => ?_) (fun b => ?_)⟩⟩
    · refine ⟨fun hc => absurd hc (by decide), fun _ => ⟨o10 R, _, p10_4 R, o2 R, s_tkw R C (fun c => ?_) (fun c => ?_)⟩⟩
      · refine ⟨fun hc => absurd hc (by decide), fun _ => ⟨o10 R, ?_⟩⟩
        unfold w_X9_allWaitRightly
        refine ⟨nE V + 1, l_waitRight (M0 := M) C K hR4 W (fun d S' M' R' sx => ?_) (fun d S' M' R' sx => ?_) _ 0 S M (Nat.zero_le _) (by omega) R (Sx.refl M) (fun e he => absurd he (by omega))⟩
        · exact ⟨fun hc => absurd hc (by decide), fun _ => h1 ⟨a, b, c, d⟩ S' ⟨A, M', R', sx.cv C, K, sx.fr, Ak.refl A⟩⟩
        · exact ⟨fun _ => h0 (fun h => d h.2.2.2) S' ⟨A, M', R', sx.cv C, K, sx.fr, Ak.refl A⟩, fun hc => absurd rfl hc⟩
      · exact ⟨fun _ => h0 (fun h => c h.2.2.1) S D0, fun hc => absurd rfl hc⟩
    · exact ⟨fun _ => h0 (fun h => b h.2.1) S D0, fun hc => absurd rfl hc⟩
  · exact ⟨fun _ => h0 (fun h => a h.1) S D0, fun hc => absurd rfl hc⟩
end SR
