/-! ===== the board ===== -/
def fr (V : VV) (e w : Nat) : Int32 := V 2 w - mtk V e (z w) (nE V)
def spc (V : VV) (e i : Nat) : Int32 := V 6 (ic V e i) + V 15 e
def opn (V : VV) (e i w : Nat) : Prop := suits V (ic V e i) (z w) ∧ spc V e i ≤ fr V e w ∧ ¬ agn V e (ic V e i) (z w)
def okp (V : VV) (e : Nat) (p : Nat → Nat) (i : Nat) : Prop := opn V e i (p i) ∧ (∀ k, k < i → br (kq V (ic V e i) (ic V e k)) (z (p i)) (z (p k)) = false) ∧ spc V e i + su i (fun k => if p k = p i then spc V e k else 0) ≤ fr V e (p i)
theorem okp_lo (V : VV) (e : Nat) : Lo (okp V e) := by
  intro p q i h hk
  obtain ⟨h1, h2, h3⟩ := hk
  have e1 := h i (Nat.le_refl _)
  refine ⟨by rw [← e1]; exact h1, fun k hk => by rw [← e1, ← h k (by omega)]; exact h2 k hk, ?_⟩
  rw [← e1]
  have e2 : su i (fun k => if q k = p i then spc V e k else 0) = su i (fun k => if p k = p i then spc V e k else 0) := su_c (fun k hk => by rw [← h k (by omega)])
  rw [e2]
  exact h3
def bdA (V : VV) (e : Nat) (M : MM) : Prop := M 1 0 0 = z (cn V e) ∧ M 1 0 1 = z (2 * nR V) ∧ ∀ w, w < 2 * nR V → M 25 0 w = fr V e w
def bdO (V : VV) (e i w : Nat) (M : MM) : Prop := ∀ q, q < w → (opn V e i q → M 25 3 (i * 8 + q) = 1) ∧ (¬ opn V e i q → M 25 3 (i * 8 + q) = 0)
def bdK (V : VV) (e i k : Nat) (M : MM) : Prop := ∀ q, q < k → M 25 4 (i * 5 + q) = kq V (ic V e i) (ic V e q)
def bdW (V : VV) (e i : Nat) (M : MM) : Prop := ∀ j, j < i → M 25 1 j = spc V e j ∧ bdO V e j (2 * nR V) M ∧ bdK V e j j M
/-- only the board differs -/
def Sx (M M' : MM) : Prop := ∀ t, t ≠ 1 → t ≠ 25 → M' t = M t
theorem Sx.refl (M : MM) : Sx M M := fun _ _ _ => rfl
theorem Sx.trans {M M' M'' : MM} (h : Sx M M') (k : Sx M' M'') : Sx M M'' := fun t a b => (k t a b).trans (h t a b)
theorem Sx.fr {M M' : MM} (h : Sx M M') : Fr M M' := ⟨h 11 (by decide) (by decide), h 27 (by decide) (by decide), h 28 (by decide) (by decide)⟩
theorem Sx.cv {V : VV} {M M' : MM} (h : Sx M M') (C : CV V M) : CV V M' := by
  unfold CV at C ⊢
  rw [h 7 (by decide) (by decide), h 5 (by decide) (by decide), h 9 (by decide) (by decide), h 3 (by decide) (by decide), h 22 (by decide) (by decide), h 24 (by decide) (by decide), h 10 (by decide) (by decide), h 26 (by decide) (by decide)]
  exact C
theorem Sx.up1 (M : MM) (k : Nat) (v : Int32) : Sx M (up3 M 1 0 k v) := fun _ a _ => up3_t M v a
theorem Sx.up25 (M : MM) (j k : Nat) (v : Int32) : Sx M (up3 M 25 j k v) := fun _ _ b => up3_t M v b
/-- only one row of the board differs -/
def Sz (r : Nat) (M M' : MM) : Prop := (∀ t, t ≠ 25 → M' t = M t) ∧ ∀ j, j ≠ r → M' 25 j = M 25 j
theorem Sz.refl (r : Nat) (M : MM) : Sz r M M := ⟨fun _ _ => rfl, fun _ _ => rfl⟩
theorem Sz.trans {r : Nat} {M M' M'' : MM} (h : Sz r M M') (k : Sz r M' M'') : Sz r M M'' := ⟨fun t a => (k.1 t a).trans (h.1 t a), fun t a => (k.2 t a).trans (h.2 t a)⟩
theorem Sz.sx {r : Nat} {M M' : MM} (h : Sz r M M') : Sx M M' := fun t _ b => h.1 t b
theorem Sz.up (M : MM) (r k : Nat) (v : Int32) : Sz r M (up3 M 25 r k v) := ⟨fun _ a => up3_t M v a, fun _ a => up3_i M v a⟩
theorem Sz_bdA {V : VV} {e r : Nat} {M M' : MM} (h : Sz r M M') (hr : r ≠ 0) (b : bdA V e M) : bdA V e M' := by
  unfold bdA at b ⊢
  rw [h.1 1 (by decide), h.2 0 (Ne.symm hr)]
  exact b
section CG
variable {A : Nat → Nat → Nat} {V : VV}
theorem R25 {S : St} {M : MM} (R : Rep S A V M) {j k : Nat} {v : Int32} (h : j < 5) : Rep (setI S (A 25 j) k v) A V (up3 M 25 j k v) := Rep_set R (show us V 25 j from h) (fun h => by omega)
theorem R1 {S : St} {M : MM} (R : Rep S A V M) {k : Nat} {v : Int32} : Rep (setI S (A 1 0) k v) A V (up3 M 1 0 k v) := Rep_set R (show us V 1 0 from rfl) (fun h => by omega)
theorem z_ix {i m k : Nat} : z i * z m + z k = z (i * m + k) := by rw [z_mul, z_add]
theorem j_open0 {S : St} {M : MM} (R : Rep S A V M) {e i k a : Nat} {x7 : Int32} {f : Int32 → St → Prop} {k6 : St → Nat → Int32 → Nat → Nat → Nat → Nat → Nat → Int32 → Int32 → Prop} (hx : x7 = 0 ∨ x7 = 1) (hi : i < 5) (hk : k < 8)
    (hn : k6 (setI S (A 25 3) (i * 8 + k) 0) (A 1 0) (z i) a (A 3 e) (A 4 0) (A 2 0) (A 8 0) x7 (z (k + 1))) : wj_X0_opensAWall_65 f k6 S (A 1 0) (z i) a (A 3 e) (A 4 0) (A 2 0) (A 8 0) x7 (z k) 0 := by
  unfold wj_X0_opensAWall_65
  refine ⟨o1 R, _, p1_5 R, fun _ => ?_, fun hc => absurd rfl hc⟩
  rw [show (8 : Int32) = z 8 from rfl, z_ix]
  refine s_putAt (o25 R (by decide)) (n25_3 R) (by omega) (by decide) ?_
  rw [z_s]
  rcases hx with h | h
  · subst h
    exact ⟨fun hc => absurd rfl hc, fun _ => ⟨fun _ => hn, fun hc => absurd rfl hc⟩⟩
  · subst h
    exact ⟨fun _ => hn, fun hc => absurd hc (by decide)⟩
theorem j_open1 {S : St} {M : MM} (R : Rep S A V M) {e i k a : Nat} {x7 : Int32} {f : Int32 → St → Prop} {k6 : St → Nat → Int32 → Nat → Nat → Nat → Nat → Nat → Int32 → Int32 → Prop} (hi : i < 5) (hk : k < 8)
    (hn : k6 (setI S (A 25 3) (i * 8 + k) 1) (A 1 0) (z i) a (A 3 e) (A 4 0) (A 2 0) (A 8 0) 1 (z (k + 1))) : wj_X0_opensAWall_65 f k6 S (A 1 0) (z i) a (A 3 e) (A 4 0) (A 2 0) (A 8 0) x7 (z k) 1 := by
  unfold wj_X0_opensAWall_65
  refine ⟨o1 R, _, p1_5 R, fun hc => absurd hc (by decide), fun _ => ?_⟩
  rw [show (8 : Int32) = z 8 from rfl, z_ix]
  refine s_putAt (o25 R (by decide)) (n25_3 R) (by omega) (by decide) ?_
  rw [z_s]
  exact ⟨fun _ => hn, fun _ => ⟨fun hc => absurd hc (by decide), fun _ => hn⟩⟩
/-- what one work's row holds, and all before it -/
def Sy (i : Nat) (M M' : MM) : Prop := Sz 3 M M' ∧ ∀ x, x < i * 8 → M' 25 3 x = M 25 3 x
theorem l_opens {e i : Nat} {M0 : MM} {f : Int32 → St → Prop} (he : e < nE V) (hi : i < cn V e) (K : KO V) (hR4 : nR V ≤ 4)
    (h1 : (∃ q, q < 2 * nR V ∧ opn V e i q) → ∀ S' M', Rep S' A V M' → Sy i M0 M' → bdO V e i (2 * nR V) M' → f 1 S')
    (h0 : (¬ ∃ q, q < 2 * nR V ∧ opn V e i q) → ∀ S' M', Rep S' A V M' → Sy i M0 M' → f 0 S') : ∀ n k S M x7, k ≤ 2 * nR V → 2 * nR V < k + n → Rep S A V M → CV V M → bdA V e M → M 25 1 i = spc V e i → Sy i M0 M → bdO V e i k M →
      ((x7 = 0 ∧ ∀ q, q < k → ¬ opn V e i q) ∨ (x7 = 1 ∧ ∃ q, q < k ∧ opn V e i q)) → wl_X0_opensAWall_6 f n S (A 1 0) (z i) (A 9 (ic V e i)) (A 3 e) (A 4 0) (A 2 0) (A 8 0) x7 (z k) := by
  intro n
  induction n with
  | zero => intro k S M x7 k1 k2; omega
  | succ n ih =>
    intro k S M x7 k1 k2 R C bA b1 sy bo hx
    have hw := bI R he hi
    have hc5 := bC R he
    unfold wl_X0_opensAWall_6
    refine ⟨o1 R, ?_⟩
    rw [i1 R, bA.2.1]
    refine ⟨fun hc => ?_, fun hc => ?_⟩
    · have h3 := z_ex k1 (by omega) hc
      subst h3
      rcases hx with ⟨h, hq⟩ | ⟨h, hq⟩
      · subst h
        exact ⟨Or.inl rfl, h0 (fun ⟨q, a, b⟩ => hq q a b) S M R sy⟩
      · subst h
        exact ⟨Or.inr rfl, h1 hq S M R sy bo⟩
    · have h3 := z_go k1 (by omega) hc
      have hx01 : x7 = 0 ∨ x7 = 1 := by
        rcases hx with h | h
        · exact Or.inl h.1
        · exact Or.inr h.1
      have no : ¬ opn V e i k → wj_X0_opensAWall_64 f (wl_X0_opensAWall_6 f n) S (A 1 0) (z i) (A 9 (ic V e i)) (A 3 e) (A 4 0) (A 2 0) (A 8 0) x7 (z k) := fun ho => by
        unfold wj_X0_opensAWall_64
        refine j_open0 R hx01 (by omega) (by omega) (ih (k + 1) _ _ x7 (by omega) (by omega) (R25 R (by decide)) (Sx.cv (Sx.up25 M 3 _ _) C) (Sz_bdA (Sz.up M 3 _ _) (by decide) bA) ?_ ?_ ?_ ?_)
        · rw [up3_i M _ (by decide)]
          exact b1
        · refine ⟨sy.1.trans (Sz.up M 3 _ _), fun x hx => ?_⟩
          rw [up3_s, upd_n _ _ (by omega)]
          exact sy.2 x hx
        · intro q hq
          rw [up3_s]
          by_cases e1 : q = k
          · rw [e1, upd_s]
            exact ⟨fun h => absurd h ho, fun _ => rfl⟩
          · rw [upd_n _ _ (by omega)]
            exact bo q (by omega)
        · rcases hx with ⟨h, hq⟩ | ⟨h, q, hq, hp⟩
          · refine Or.inl ⟨h, fun q hq' => ?_⟩
            by_cases e1 : q = k
            · rw [e1]; exact ho
            · exact hq q (by omega)
          · exact Or.inr ⟨h, q, by omega, hp⟩
      refine ⟨o4 R, s_suits R C hw (fun a => ?_) (fun a => ?_)⟩
      · refine ⟨fun hc => absurd hc (by decide), fun _ => ⟨o1 R, _, p1_3 R, s_numberAt (o25 R (by decide)) (n25_1 R) (by omega) (by decide) ⟨o1 R, _, p1_2 R, s_numberAt (o25 R (by decide)) (n25_0 R) (by omega) (by decide) ?_⟩⟩⟩
        rw [i25 R (by decide), i25 R (by decide), b1, bA.2.2 k h3]
        refine ⟨fun b => no (fun h => Int32.not_lt.2 h.2.1 b), fun b => ⟨o2 R, s_isAgainst R C K he hw (fun c => ?_) (fun c => ?_)⟩⟩
        · exact ⟨fun _ => no (fun h => h.2.2 c), fun hc => absurd hc (by decide)⟩
        · refine ⟨fun hc => absurd rfl hc, fun _ => ?_⟩
          have ho : opn V e i k := ⟨a, Int32.not_lt.1 b, c⟩
          refine j_open1 R (by omega) (by omega) (ih (k + 1) _ _ 1 (by omega) (by omega) (R25 R (by decide)) (Sx.cv (Sx.up25 M 3 _ _) C) (Sz_bdA (Sz.up M 3 _ _) (by decide) bA) ?_ ?_ ?_ (Or.inr ⟨rfl, k, by omega, ho⟩))
          · rw [up3_i M _ (by decide)]
            exact b1
          · refine ⟨sy.1.trans (Sz.up M 3 _ _), fun x hx => ?_⟩
            rw [up3_s, upd_n _ _ (by omega)]
            exact sy.2 x hx
          · intro q hq
            rw [up3_s]
            by_cases e1 : q = k
            · rw [e1, upd_s]
              exact ⟨fun _ => rfl, fun h => absurd ho h⟩
            · rw [upd_n _ _ (by omega)]
              exact bo q (by omega)
      · exact ⟨fun _ => no (fun h => a h.1), fun hc => absurd rfl hc⟩
theorem s_opens {S : St} {M : MM} {e i : Nat} {f : Int32 → St → Prop} (R : Rep S A V M) (C : CV V M) (he : e < nE V) (hi : i < cn V e) (K : KO V) (hR4 : nR V ≤ 4) (bA : bdA V e M) (b1 : M 25 1 i = spc V e i)
    (h1 : (∃ q, q < 2 * nR V ∧ opn V e i q) → ∀ S' M', Rep S' A V M' → Sy i M M' → bdO V e i (2 * nR V) M' → f 1 S')
    (h0 : (¬ ∃ q, q < 2 * nR V ∧ opn V e i q) → ∀ S' M', Rep S' A V M' → Sy i M M' → f 0 S') : w_X0_opensAWall S (A 1 0) (z i) (A 9 (ic V e i)) (A 3 e) (A 4 0) (A 2 0) (A 8 0) f := by
  unfold w_X0_opensAWall
  exact ⟨2 * nR V + 1, l_opens he hi K hR4 h1 h0 _ 0 S M 0 (Nat.zero_le _) (by omega) R C bA b1 ⟨Sz.refl 3 M, fun _ _ => rfl⟩ (fun q hq => absurd hq (by omega)) (Or.inl ⟨rfl, fun q hq => absurd hq (by omega)⟩)⟩
end CG
