/-! ===== both ways of asking for room are one ===== -/
theorem su_z {n : Nat} {f : Nat → Int32} {g : Nat → Nat} (h : ∀ i, i < n → f i = z (g i)) : su n f = z (ns n g) := by
  induction n with
  | zero => rfl
  | succ n ih =>
    show su n f + f n = z (ns n g + g n)
    rw [ih (fun i hi => h i (by omega)), h n (by omega), z_add]
def spn (V : VV) (g : Nat) (w : Int32) : Nat := ns (cn V g) (fun k => if V 19 (5 * g + k) = w then (V 6 (ic V g k)).toNatClampNeg + (V 15 g).toNatClampNeg else 0)
def tkn (V : VV) (w d : Int32) : Nat := ns (nE V) (fun g => if ho V g d then spn V g w else 0)
section EQ
variable {V : VV}
theorem wd (Q : I4 V) {w : Nat} (hw : w < nW V) : V 6 w = z (V 6 w).toNatClampNeg ∧ (V 6 w).toNatClampNeg ≤ 200 := by
  obtain ⟨a, _, c⟩ := inr_nat (a := 1) (b := 200) (by decide) (Q.2.2.2.1 w hw).1 (by decide)
  exact ⟨a, c⟩
theorem gp (Q : I4 V) {e : Nat} (he : e < nE V) : V 15 e = z (V 15 e).toNatClampNeg ∧ (V 15 e).toNatClampNeg ≤ 50 := by
  obtain ⟨a, _, c⟩ := inr_nat (a := 0) (b := 50) (by decide) (Q.2.2.2.2 e he).2.2.1 (by decide)
  exact ⟨a, c⟩
theorem sp_z (J : I2 V) (Q : I4 V) {g : Nat} {w : Int32} (hg : g < nE V) : sp V g w = z (spn V g w) ∧ spn V g w ≤ 1250 := by
  obtain ⟨j1, j2, j3⟩ := J g hg
  obtain ⟨g1, g2⟩ := gp Q hg
  constructor
  · refine su_z (fun k hk => ?_)
    obtain ⟨w1, w2⟩ := wd Q (j3 k hk).2.1
    by_cases h : V 19 (5 * g + k) = w
    · rw [if_pos h, if_pos h, ← z_add, ← w1, ← g1]
    · rw [if_neg h, if_neg h]
      rfl
  · refine Nat.le_trans (ns_bd (x := 250) (fun k hk => ?_)) (by omega)
    obtain ⟨w1, w2⟩ := wd Q (j3 k hk).2.1
    split <;> omega
theorem tk_z (I : I1 V) (J : I2 V) (Q : I4 V) {w d : Int32} : tk V w d = z (tkn V w d) ∧ tkn V w d ≤ 10000 := by
  obtain ⟨_, _, _, _, b1, b2, b3, b4⟩ := I
  constructor
  · refine su_z (fun g hg => ?_)
    cases h : ho V g d with
    | false => rfl
    | true => exact (sp_z J Q hg).1
  · refine Nat.le_trans (ns_bd (x := 1250) (fun g hg => ?_)) (by omega)
    split
    · exact (sp_z J Q hg).2
    · exact Nat.zero_le _
theorem tkb_tk {e : Nat} {w d : Int32} (he : V 16 e ≠ 112) : tkb V w d e = tk V w d := su_c (fun g hg => by
  by_cases h : g = e
  · rw [if_pos h, h, ho_f (fun x => he x.1)]
    rfl
  · rw [if_neg h])
/-- the greatest of what is taken on first days -/
theorem mtk_z (I : I1 V) (J : I2 V) (Q : I4 V) {e : Nat} {w : Int32} : ∀ n, ∃ t, t ≤ 10000 ∧ mtk V e w n = z t ∧ ∀ X, t ≤ X ↔ (tkn V w (V 13 e) ≤ X ∧ ∀ g, g < n → V 13 e ≤ V 13 g → V 13 g ≤ V 14 e → tkn V w (V 13 g) ≤ X) := by
  intro n
  induction n with
  | zero =>
    obtain ⟨a, b⟩ := tk_z I J Q (w := w) (d := V 13 e)
    exact ⟨_, b, a, fun X => ⟨fun h => ⟨h, fun g hg => absurd hg (by omega)⟩, fun h => h.1⟩⟩
  | succ n ih =>
    obtain ⟨t, t1, t2, t3⟩ := ih
    obtain ⟨a, b⟩ := tk_z I J Q (w := w) (d := V 13 n)
    by_cases hr : V 13 e ≤ V 13 n ∧ V 13 n ≤ V 14 e
    · have hm : mtk V e w (n + 1) = z (if t < tkn V w (V 13 n) then tkn V w (V 13 n) else t) := by
        simp only [mtk]
        rw [if_pos hr, t2, a]
        exact z_min' t (tkn V w (V 13 n)) (by omega) (by omega)
      refine ⟨_, by split <;> omega, hm, fun X => ?_⟩
      constructor
      · intro h
        have h1 : t ≤ X ∧ tkn V w (V 13 n) ≤ X := by split at h <;> omega
        obtain ⟨x1, x2⟩ := (t3 X).1 h1.1
        refine ⟨x1, fun g hg p q => ?_⟩
        by_cases e1 : g = n
        · rw [e1]; exact h1.2
        · exact x2 g (by omega) p q
      · rintro ⟨x1, x2⟩
        have h1 := (t3 X).2 ⟨x1, fun g hg p q => x2 g (by omega) p q⟩
        have h2 := x2 n (by omega) hr.1 hr.2
        split <;> omega
    · have hm : mtk V e w (n + 1) = z t := by
        simp only [mtk]
        rw [if_neg hr, t2]
      refine ⟨t, t1, hm, fun X => ?_⟩
      rw [t3 X]
      constructor
      · rintro ⟨x1, x2⟩
        refine ⟨x1, fun g hg p q => ?_⟩
        by_cases e1 : g = n
        · rw [e1] at p q
          exact absurd ⟨p, q⟩ hr
        · exact x2 g (by omega) p q
      · rintro ⟨x1, x2⟩
        exact ⟨x1, fun g hg p q => x2 g (by omega) p q⟩
where
  z_min' (a b : Nat) (ha : a < 2147483648) (hb : b < 2147483648) : (if z a < z b then z b else z a) = z (if a < b then b else a) := by
    by_cases h : a < b
    · rw [if_pos h, if_pos ((z_lt ha hb).2 h)]
    · rw [if_neg h, if_neg (fun h2 => h ((z_lt ha hb).1 h2))]
/-- on each day no more is taken than on some first day -/
theorem tk_first {e : Nat} {w d : Int32} (h1 : V 13 e ≤ d) (h2 : d ≤ V 14 e) : ∃ d', (d' = V 13 e ∨ ∃ g, g < nE V ∧ V 13 e ≤ V 13 g ∧ V 13 g ≤ V 14 e ∧ d' = V 13 g) ∧ tkn V w d ≤ tkn V w d' := by
  have key : ∀ n, ∃ d', V 13 e ≤ d' ∧ d' ≤ d ∧ (d' = V 13 e ∨ ∃ g, g < n ∧ V 13 e ≤ V 13 g ∧ V 13 g ≤ V 14 e ∧ d' = V 13 g) ∧ ∀ g, g < n → V 13 g ≤ d → V 13 g ≤ d' := by
    intro n
    induction n with
    | zero => exact ⟨V 13 e, Int32.le_refl _, h1, Or.inl rfl, fun g hg => absurd hg (by omega)⟩
    | succ n ih =>
      obtain ⟨d', a, b, c, f⟩ := ih
      by_cases hx : V 13 n ≤ d ∧ d' < V 13 n
      · refine ⟨V 13 n, Int32.le_trans a (Int32.le_of_lt hx.2), hx.1, Or.inr ⟨n, by omega, Int32.le_trans a (Int32.le_of_lt hx.2), Int32.le_trans hx.1 h2, rfl⟩, fun g hg y => ?_⟩
        by_cases e1 : g = n
        · rw [e1]; exact Int32.le_refl _
        · exact Int32.le_trans (f g (by omega) y) (Int32.le_of_lt hx.2)
      · refine ⟨d', a, b, ?_, fun g hg y => ?_⟩
        · rcases c with c | ⟨g, g1, g2⟩
          · exact Or.inl c
          · exact Or.inr ⟨g, by omega, g2⟩
        · by_cases e1 : g = n
          · rw [e1] at y ⊢
            exact Int32.not_lt.1 (fun z => hx ⟨y, z⟩)
          · exact f g (by omega) y
  obtain ⟨d', a, b, c, f⟩ := key (nE V)
  refine ⟨d', c, ns_le (fun g hg => ?_)⟩
  cases h : ho V g d with
  | false =>
    rw [if_neg (by decide)]
    exact Nat.zero_le _
  | true =>
    have x := of_decide_eq_true h
    rw [if_pos rfl, ho_t ⟨x.1, f g hg x.2.1, Int32.le_trans b x.2.2⟩, if_pos rfl]
    exact Nat.le_refl _
theorem agx_agn {e w : Nat} {x : Int32} (he : V 16 e ≠ 112) : agx V e w x ↔ agn V e w x := by
  constructor
  · rintro ⟨g, a, b, c, d⟩
    exact ⟨g, a, c, d⟩
  · rintro ⟨g, a, c, d⟩
    exact ⟨g, a, fun h => he (by rw [← h]; exact (of_decide_eq_true c).1), c, d⟩
theorem ok_iff (I : I1 V) (J : I2 V) (Q : I4 V) {e i : Nat} {p : Nat → Nat} (he : e < nE V) (hn : V 16 e ≠ 112) (hi : i < cn V e) (hp : ∀ j, j ≤ i → p j < 2 * nR V) : okm V e p i ↔ okp V e p i := by
  have II := I
  obtain ⟨_, _, _, _, b1, b2, b3, b4⟩ := I
  obtain ⟨j1, j2, j3⟩ := J e he
  obtain ⟨g1, g2⟩ := gp Q he
  have hpi := hp i (Nat.le_refl _)
  obtain ⟨l1, l2, l3⟩ := inr_nat (a := 1) (b := 400) (by decide) (Q.2.1 _ hpi) (by decide)
  obtain ⟨t, t1, t2, t3⟩ := mtk_z II J Q (e := e) (w := z (p i)) (nE V)
  -- what the works take
  have sc : ∀ k, k < cn V e → spc V e k = z ((V 6 (ic V e k)).toNatClampNeg + (V 15 e).toNatClampNeg) := fun k hk => by
    obtain ⟨w1, w2⟩ := wd Q (j3 k hk).2.1
    unfold spc
    rw [← z_add, ← w1, ← g1]
  have s0 := sc i hi
  obtain ⟨w1, w2⟩ := wd Q (j3 i hi).2.1
  have so : su i (fun k => if p k = p i then spc V e k else 0) = z (ns i (fun k => if p k = p i then (V 6 (ic V e k)).toNatClampNeg + (V 15 e).toNatClampNeg else 0)) := su_z (fun k hk => by
    by_cases h : p k = p i
    · rw [if_pos h, if_pos h, sc k (by omega)]
    · rw [if_neg h, if_neg h]
      rfl)
  have bo : ns i (fun k => if p k = p i then (V 6 (ic V e k)).toNatClampNeg + (V 15 e).toNatClampNeg else 0) ≤ i * 250 := ns_bd (fun k hk => by
    obtain ⟨v1, v2⟩ := wd Q (j3 k (by omega)).2.1
    split <;> omega)
  have bo2 : i * 250 ≤ 1000 := by omega
  generalize hO : ns i (fun k => if p k = p i then (V 6 (ic V e k)).toNatClampNeg + (V 15 e).toNatClampNeg else 0) = O at so bo
  generalize hs : (V 6 (ic V e i)).toNatClampNeg + (V 15 e).toNatClampNeg = s at s0
  have hs2 : s ≤ 250 := by omega
  have ow : own V e i p = z (O + s) := by
    show su i (fun k => if p k = p i then spc V e k else 0) + (if p i = p i then spc V e i else 0) = _
    rw [if_pos rfl, so, s0, z_add]
  generalize hl : (V 2 (p i)).toNatClampNeg = len at l1 l2 l3
  have hfr : (fr V e (p i)).toInt = (len : Int) - t := by
    unfold fr
    rw [l1, t2, ti_sub (by rw [z_i (by omega), z_i (by omega)]; omega) (by rw [z_i (by omega), z_i (by omega)]; omega), z_i (by omega), z_i (by omega)]
  have fit : (∀ d, V 13 e ≤ d → d ≤ V 14 e → tkb V (z (p i)) d e + own V e i p ≤ V 2 (p i)) ↔ t + (O + s) ≤ len := by
    constructor
    · intro h
      have day : ∀ d, V 13 e ≤ d → d ≤ V 14 e → tkn V (z (p i)) d + (O + s) ≤ len := fun d x y => by
        obtain ⟨a, b⟩ := tk_z II J Q (w := z (p i)) (d := d)
        have := h d x y
        rw [tkb_tk hn, a, ow, z_add, l1, z_le (by omega) (by omega)] at this
        exact this
      have hFL := (Q.2.2.2.2 e he).2.2.2
      have h0 := day (V 13 e) (Int32.le_refl _) hFL
      have := (t3 (len - (O + s))).2 ⟨by omega, fun g hg x y => by have := day (V 13 g) x y; omega⟩
      omega
    · intro h d x y
      obtain ⟨a, b⟩ := tk_z II J Q (w := z (p i)) (d := d)
      rw [tkb_tk hn, a, ow, z_add, l1, z_le (by omega) (by omega)]
      obtain ⟨d', c1, c2⟩ := tk_first (w := z (p i)) x y
      obtain ⟨u1, u2⟩ := (t3 t).1 (Nat.le_refl _)
      have : tkn V (z (p i)) d' ≤ t := by
        rcases c1 with c1 | ⟨g, g1, g2, g3, c1⟩
        · rw [c1]; exact u1
        · rw [c1]; exact u2 g g1 g2 g3
      omega
  have sfr : spc V e i ≤ fr V e (p i) ↔ t + s ≤ len := by
    rw [Int32.le_iff_toInt_le, hfr, s0, z_i (by omega)]
    omega
  have ofr : spc V e i + su i (fun k => if p k = p i then spc V e k else 0) ≤ fr V e (p i) ↔ t + (O + s) ≤ len := by
    rw [Int32.le_iff_toInt_le, hfr, s0, so, z_add, z_i (by omega)]
    omega
  have hsu : suits V (ic V e i) (z (p i)) ↔ stn V (ic V e i) (p i / 2) = true := by
    unfold suits
    rw [z_c (by omega)]
    exact ⟨fun h => h.2.2, fun h => ⟨z_nn (by omega), (z_lt (by omega) (by omega)).2 hpi, h⟩⟩
  unfold okm okp opn
  rw [fit, sfr, ofr, hsu, agx_agn hn]
  constructor
  · rintro ⟨a, b, c, d⟩
    exact ⟨⟨a, by omega, b⟩, d, c⟩
  · rintro ⟨⟨a, b, c⟩, d, x⟩
    exact ⟨a, c, x, d⟩
theorem Va_iff (I : I1 V) (J : I2 V) (Q : I4 V) {e : Nat} {p : Nat → Nat} (he : e < nE V) (hn : V 16 e ≠ 112) : Va (okm V e) (cn V e) (2 * nR V) p ↔ Va (okp V e) (cn V e) (2 * nR V) p := by
  constructor
  · intro h i hi
    exact ⟨(h i hi).1, (ok_iff I J Q he hn hi (fun j hj => (h j (by omega)).1)).1 (h i hi).2⟩
  · intro h i hi
    exact ⟨(h i hi).1, (ok_iff I J Q he hn hi (fun j hj => (h j (by omega)).1)).2 (h i hi).2⟩
theorem Fi_iff (I : I1 V) (J : I2 V) (Q : I4 V) {e : Nat} {p : Nat → Nat} (he : e < nE V) (hn : V 16 e ≠ 112) (h : Fi (okm V e) (cn V e) (2 * nR V) p) : Fi (okp V e) (cn V e) (2 * nR V) p :=
  ⟨(Va_iff I J Q he hn).1 h.1, fun q hq => h.2 q ((Va_iff I J Q he hn).2 hq)⟩
end EQ
