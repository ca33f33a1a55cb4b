/-! ===== what the class reads ===== -/
def mtk (V : VV) (e : Nat) (w : Int32) : Nat → Int32
  | 0 => tk V w (V 13 e)
  | n + 1 => if V 13 e ≤ V 13 n ∧ V 13 n ≤ V 14 e then (if mtk V e w n < tk V w (V 13 n) then tk V w (V 13 n) else mtk V e w n) else mtk V e w n
def KO (V : VV) : Prop := ∀ i, i < 144 → V 12 i = 0 ∨ V 12 i = 114 ∨ V 12 i = 119
def first (V : VV) (e w k : Nat) : Prop := k < cn V e ∧ ic V e k = w ∧ ∀ j, j < k → ic V e j ≠ w
def mts (V : VV) (e : Nat) (x : Int32) (w : Nat) (kd : Int32) : Prop := ∃ g, g < nE V ∧ hd V g e = true ∧ ∃ k, first V g w k ∧ br kd x (V 19 (5 * g + k)) = true
def hag (V : VV) (w w' : Nat) (kd : Int32) : Prop := ∃ e, e < nE V ∧ V 16 e = 112 ∧ ∃ k, first V e w k ∧ mts V e (V 19 (5 * e + k)) w' kd
def swh (V : VV) (e : Nat) : Prop := ∀ k, k < cn V e → suits V (ic V e k) (V 19 (5 * e + k))
def kap (V : VV) (e : Nat) : Prop := ∀ k, k < cn V e → ¬ agn V e (ic V e k) (V 19 (5 * e + k))
def ata (V : VV) (e : Nat) : Prop := ∀ k, k < cn V e → takes V e (ic V e k)
def pes (V : VV) : Int32 := su (nE V) (fun e => if V 16 e = 112 then 1 else 0)
def pwk (V : VV) : Int32 := su (nE V) (fun e => if V 16 e = 112 then z (cn V e) else 0)
def sj : Nat → (Nat → Int64) → Int64
  | 0, _ => 0
  | n + 1, f => sj n f + f n
def ise (V : VV) (e : Nat) : Int64 := sj (cn V e) (fun k => match ow V (ic V e k) with
  | none => 0
  | some _ => Int32.toInt64 (V 10 (ic V e k)) * Int32.toInt64 ((V 14 e - V 13 e + 1) + 2 * tr V (ic V e k)))
def iss (V : VV) : Int64 := sj (nE V) (fun e => if V 16 e = 112 then ise V e else 0)
section CC
variable {S : St} {A : Nat → Nat → Nat} {V : VV} {M : MM}
theorem l_mostTaken (R : Rep S A V M) (C : CV V M) {e : Nat} {w : Int32} {f : Int32 → St → Prop} (he : e < nE V) (hf : f (mtk V e w (nE V)) S) : ∀ n k, k ≤ nE V → nE V < k + n → wl_X1_mostTakenDuring_13 f n S (A 2 0) (A 3 e) w (mtk V e w k) (z k) := by
  have hb := bE R
  intro n
  induction n with
  | zero => intro k h1 h2; omega
  | succ n ih =>
    intro k h1 h2
    unfold wl_X1_mostTakenDuring_13
    refine ⟨o2 R, _, p2_0 R, o0 R (by decide), s_size0 R (by decide) ?_⟩
    refine ⟨fun hc => ?_, fun hc => ?_⟩
    · have h3 := z_ex h1 (by omega) hc
      subst h3
      exact hf
    · have h3 := z_go h1 (by omega) hc
      refine ⟨o2 R, _, p2_0 R, o0 R (by decide), s_get0 R (by decide) (show k < sz V 3 from h3) ?_⟩
      have h4 := ih (k + 1) (by omega) (by omega)
      simp only [mtk] at h4
      refine ⟨o3 R h3, o3 R he, ?_⟩
      show w_X9_isWithin S (sI S (A 3 k) 1) (sI S (A 3 e) 1) (sI S (A 3 e) 2) _
      rw [f3_1 R C h3, f3_1 R C he, f3_2 R C he]
      refine s_isWithin (fun a b => ?_) (fun a => ?_)
      · refine ⟨fun hc => absurd hc (by decide), fun _ => ⟨o2 R, ?_⟩⟩
        show w_X1_takenOn S (A 2 0) w (sI S (A 3 k) 1) _
        rw [f3_1 R C h3]
        refine s_takenOn R C ?_
        show wl_X1_mostTakenDuring_13 f n S (A 2 0) (A 3 e) w _ (z k + 1)
        rw [if_pos ⟨a, b⟩] at h4
        rw [z_s]
        exact h4
      · refine ⟨fun _ => ?_, fun hc => absurd rfl hc⟩
        rw [if_neg a] at h4
        show wl_X1_mostTakenDuring_13 f n S (A 2 0) (A 3 e) w _ (z k + 1)
        rw [z_s]
        exact h4
theorem s_mostTaken (R : Rep S A V M) (C : CV V M) {e : Nat} {w : Int32} {f : Int32 → St → Prop} (he : e < nE V) (hf : f (mtk V e w (nE V)) S) : w_X1_mostTakenDuring S (A 2 0) (A 3 e) w f := by
  unfold w_X1_mostTakenDuring
  refine ⟨o3 R he, o2 R, ?_⟩
  rw [f3_1 R C he]
  exact s_takenOn R C ⟨nE V + 1, l_mostTaken R C he hf _ 0 (Nat.zero_le _) (by omega)⟩
theorem l_indexOf (R : Rep S A V M) (C : CV V M) {e w : Nat} {f : Int32 → St → Prop} (he : e < nE V) (hw : w < nW V) (h1 : ∀ k, first V e w k → f (z k) S) (h0 : ¬ has V e w → f (-1) S) : ∀ n k, k ≤ cn V e → cn V e < k + n → (∀ j, j < k → ic V e j ≠ w) → wl_X2_indexOf_2 f n S (A 3 e) (A 9 w) (z k) := by
  have hb := bC R he
  have hbw := bW R
  intro n
  induction n with
  | zero => intro k h1 h2; omega
  | succ n ih =>
    intro k k1 k2 hn
    unfold wl_X2_indexOf_2
    refine ⟨o3 R he, _, p3_4 R he, o20 R he, s_size20 R he ?_⟩
    refine ⟨fun hc => ?_, fun hc => ?_⟩
    · have h3 := z_ex k1 (by omega) hc
      subst h3
      exact h0 (fun ⟨j, a, b⟩ => hn j a b)
    · have h3 := z_go k1 (by omega) hc
      refine ⟨o3 R he, _, p3_4 R he, o20 R he, s_get20 R he h3 ?_⟩
      have hi := bI R he h3
      refine ⟨o9 R hi, o9 R hw, ?_⟩
      rw [f9_0 R C hi, f9_0 R C hw, z_eq (by omega) (by omega)]
      refine ⟨fun hc => ?_, fun hc => h1 k ⟨h3, hc, hn⟩⟩
      rw [z_s]
      refine ih (k + 1) (by omega) (by omega) (fun j hj => ?_)
      by_cases h : j = k
      · rw [h]; exact hc
      · exact hn j (by omega)
theorem s_indexOf (R : Rep S A V M) (C : CV V M) {e w : Nat} {f : Int32 → St → Prop} (he : e < nE V) (hw : w < nW V) (h1 : ∀ k, first V e w k → f (z k) S) (h0 : ¬ has V e w → f (-1) S) : w_X2_indexOf S (A 3 e) (A 9 w) f := by
  unfold w_X2_indexOf
  exact ⟨cn V e + 1, l_indexOf R C he hw h1 h0 _ 0 (Nat.zero_le _) (by omega) (fun j hj => absurd hj (by omega))⟩
theorem z_nm {k : Nat} (h : k < 2147483648) : ¬ z k = -1 := by
  intro h2
  have h3 := congrArg Int32.toInt h2
  rw [z_i h, show (-1 : Int32).toInt = -1 from by decide] at h3
  omega
theorem s_isAway (R : Rep S A V M) (C : CV V M) {e w : Nat} {a b : Int32} {f : Int32 → St → Prop} (he : e < nE V) (hw : w < nW V) (h1 : away V e w a b → f 1 S) (h0 : ¬ away V e w a b → f 0 S) : w_X2_isAwayBetween S (A 3 e) (A 9 w) a b f := by
  have hb := bC R he
  unfold w_X2_isAwayBetween
  refine ⟨o9 R hw, s_travelDays R C hw ?_⟩
  show ok S (A 3 e) 3 ∧ _
  rw [f3_6 R C he, f3_1 R C he, f3_2 R C he]
  refine ⟨o3 R he, fun c => h0 (fun h => c h.1), fun c => ⟨fun d => h0 (fun h => Int32.not_lt.2 h.2.1 d), fun d => ⟨fun g => h0 (fun h => Int32.not_lt.2 h.2.2.1 g), fun g => ?_⟩⟩⟩
  refine s_indexOf R C he hw (fun k hk => ?_) (fun hk => ?_)
  · exact ⟨fun hc => absurd hc (z_nm (by have := hk.1; omega)), fun _ => h1 ⟨c, Int32.not_lt.1 d, Int32.not_lt.1 g, k, hk.1, hk.2.1⟩⟩
  · exact ⟨fun _ => h0 (fun h => hk h.2.2.2), fun hc => absurd rfl hc⟩
theorem s_isLentFor (R : Rep S A V M) (C : CV V M) {e w : Nat} {f : Int32 → St → Prop} (he : e < nE V) (hw : w < nW V) (h1 : lent V w e → f 1 S) (h0 : ¬ lent V w e → f 0 S) : w_X8_isLentFor S (A 9 w) (A 3 e) f := by
  unfold w_X8_isLentFor
  rw [p9_6 R hw]
  refine ⟨o9 R hw, fun h => ?_, fun b h => ?_⟩
  · refine h1 (fun l hl => ?_)
    rw [hl] at h
    cases h
  · cases e1 : ow V w with
    | none => rw [e1] at h; cases h
    | some l =>
      rw [e1] at h
      cases h
      have hl := bO R hw e1
      rw [f5_1 R C hl, f9_5 R C hw]
      refine ⟨o5 R hl, fun c => h0 (fun h => Int32.not_lt.2 (h l e1).1 c), fun c => ⟨o3 R he, s_days R C he ?_⟩⟩
      show ok S (A 9 w) 9 ∧ _
      rw [p9_6 R hw, e1]
      refine ⟨o9 R hw, fun h => (by cases h), fun b h => ?_⟩
      cases h
      show ok S (A 5 l) 5 ∧ _
      rw [f5_3 R C hl, f5_2 R C hl, f3_1 R C he]
      refine ⟨o5 R hl, fun d => h0 (fun h => Int32.not_lt.2 (h l e1).2.1 d), fun d => ⟨o3 R he, fun g => h0 (fun h => Int32.not_lt.2 (h l e1).2.2 g), fun g => h1 (fun l' hl' => ?_)⟩⟩
      rw [e1] at hl'
      cases hl'
      exact ⟨Int32.not_lt.1 c, Int32.not_lt.1 d, Int32.not_lt.1 g⟩
theorem l_allowsTaking (R : Rep S A V M) (C : CV V M) {e w : Nat} {f : Int32 → St → Prop} (he : e < nE V) (hw : w < nW V) (h1 : takes V e w → f 1 S) (h0 : ¬ takes V e w → f 0 S) : ∀ n k, k ≤ nE V → nE V < k + n → (∀ g, g < k → g ≠ e → ¬ away V g w (V 13 e - tr V w) (V 14 e + tr V w)) → wl_X1_allowsTaking_8 f n S (A 2 0) (A 3 e) (A 9 w) (tr V w) (z k) := by
  have hb := bE R
  intro n
  induction n with
  | zero => intro k h1 h2; omega
  | succ n ih =>
    intro k k1 k2 hn
    unfold wl_X1_allowsTaking_8
    refine ⟨o2 R, _, p2_0 R, o0 R (by decide), s_size0 R (by decide) ?_⟩
    refine ⟨fun hc => ⟨o9 R hw, ?_⟩, fun hc => ?_⟩
    · have h3 := z_ex k1 (by omega) hc
      subst h3
      exact s_isLentFor R C he hw (fun a => ⟨Or.inr rfl, h1 ⟨hn, a⟩⟩) (fun a => ⟨Or.inl rfl, h0 (fun h => a h.2)⟩)
    · have h3 := z_go k1 (by omega) hc
      refine ⟨o2 R, _, p2_0 R, o0 R (by decide), s_get0 R (by decide) (show k < sz V 3 from h3) ?_⟩
      refine ⟨o3 R h3, o3 R he, ?_⟩
      show ((sI S (A 3 k) 0 = sI S (A 3 e) 0) → _) ∧ ((¬ sI S (A 3 k) 0 = sI S (A 3 e) 0) → _)
      rw [f3_0 R C h3, f3_0 R C he, z_eq (by omega) (by omega), z_s]
      have h4 := fun (hk : k ≠ e → ¬ away V k w (V 13 e - tr V w) (V 14 e + tr V w)) => ih (k + 1) (by omega) (by omega) (fun g hg hne => by
        by_cases h : g = k
        · rw [h] at hne ⊢; exact hk hne
        · exact hn g (by omega) hne)
      refine ⟨fun hc => h4 (fun h => absurd hc h), fun hc => ?_⟩
      show w_X2_isAwayBetween S (A 3 k) (A 9 w) (sI S (A 3 e) 1 - tr V w) (sI S (A 3 e) 2 + tr V w) _
      rw [f3_1 R C he, f3_2 R C he]
      refine s_isAway R C h3 hw (fun a => ?_) (fun a => ?_)
      · exact ⟨fun hc => absurd hc (by decide), fun _ => h0 (fun h => h.1 k h3 hc a)⟩
      · exact ⟨fun _ => h4 (fun _ => a), fun hc => absurd rfl hc⟩
theorem s_allowsTaking (R : Rep S A V M) (C : CV V M) {e w : Nat} {f : Int32 → St → Prop} (he : e < nE V) (hw : w < nW V) (h1 : takes V e w → f 1 S) (h0 : ¬ takes V e w → f 0 S) : w_X1_allowsTaking S (A 2 0) (A 3 e) (A 9 w) f := by
  unfold w_X1_allowsTaking
  exact ⟨o9 R hw, s_travelDays R C hw ⟨nE V + 1, l_allowsTaking R C he hw h1 h0 _ 0 (Nat.zero_le _) (by omega) (fun j hj => absurd hj (by omega))⟩⟩
theorem s_kindOf (R : Rep S A V M) (C : CV V M) (K : KO V) {i j : Nat} {f : Int32 → St → Prop} (hi : i < 12) (hj : j < 12) (hf : f (kq V i j) S) : w_X7_kindOf S (A 8 0) (z i) (z j) f := by
  have e : z i * 12 + z j = z (i * 12 + j) := by rw [show (12 : Int32) = z 12 from rfl, z_mul, z_add]
  have hb : i * 12 + j < 144 := by omega
  unfold w_X7_kindOf
  rw [e]
  refine ⟨fun hc => absurd hc (z_neg (by omega)), fun _ => ⟨o8 R, _, p8_0 R, o24 R, fun hc => ?_, fun _ => ⟨?_, fun h => ?_, fun h => ?_⟩⟩⟩
  · rw [n24 R] at hc
    have := (z_le (a := 144) (by decide) (by omega)).1 hc
    omega
  · rw [n24 R]
    exact z_vp hb (by decide)
  · rw [z_c (by omega), f24 R C hb] at h
    rw [z_c (by omega), f24 R C hb]
    unfold kq at hf
    rw [if_neg h] at hf
    refine ⟨?_, hf⟩
    rcases K _ hb with h2 | h2 | h2
    · exact absurd h2 h
    · rw [h2]; rfl
    · rw [h2]; rfl
  · rw [z_c (by omega), f24 R C hb] at h
    unfold kq at hf
    rw [if_pos h] at hf
    exact hf
theorem l_isAgainst2 (R : Rep S A V M) (C : CV V M) (K : KO V) {e w g : Nat} {x q : Int32} {f : Int32 → St → Prop} {kk : St → Nat → Nat → Nat → Nat → Int32 → Int32 → Prop} (hw : w < nW V) (hg : g < nE V)
    (h1 : (∃ k, k < cn V g ∧ br (kq V w (ic V g k)) x (V 19 (5 * g + k)) = true) → f 1 S) (h0 : (¬ ∃ k, k < cn V g ∧ br (kq V w (ic V g k)) x (V 19 (5 * g + k)) = true) → kk S (A 2 0) (A 8 0) (A 3 e) (A 9 w) x (q + 1)) : ∀ n k, k ≤ cn V g → cn V g < k + n → (∀ j, j < k → br (kq V w (ic V g j)) x (V 19 (5 * g + j)) = false) → wl_X1_isAgainst_44 f kk n S (A 2 0) (A 8 0) (A 3 e) (A 9 w) x q (A 3 g) (z k) := by
  have hb := bC R hg
  have hbw := bW R
  intro n
  induction n with
  | zero => intro k h1 h2; omega
  | succ n ih =>
    intro k k1 k2 hn
    unfold wl_X1_isAgainst_44
    refine ⟨o3 R hg, _, p3_4 R hg, o20 R hg, s_size20 R hg ?_⟩
    refine ⟨fun hc => ?_, fun hc => ?_⟩
    · have h3 := z_ex k1 (by omega) hc
      subst h3
      refine h0 (fun ⟨j, a, b⟩ => ?_)
      rw [hn j a] at b
      cases b
    · have h3 := z_go k1 (by omega) hc
      have hi := bI R hg h3
      refine ⟨o9 R hw, o3 R hg, _, p3_4 R hg, o20 R hg, s_get20 R hg h3 ?_⟩
      refine ⟨o9 R hi, o8 R, ?_⟩
      show w_X7_kindOf S (A 8 0) (sI S (A 9 w) 0) (sI S (A 9 (ic V g k)) 0) _
      rw [f9_0 R C hw, f9_0 R C hi]
      refine s_kindOf R C K (by omega) (by omega) ?_
      refine ⟨o3 R hg, _, p3_5 R hg, s_numberAt (o22 R hg) (n22 R hg) (by omega) (by decide) ?_⟩
      rw [f22 R C hg (by omega)]
      refine s_isBroken (fun a => ?_) (fun a => ?_)
      · exact ⟨fun hc => absurd hc (by decide), fun _ => h1 ⟨k, h3, a⟩⟩
      · refine ⟨fun _ => ?_, fun hc => absurd rfl hc⟩
        rw [z_s]
        refine ih (k + 1) (by omega) (by omega) (fun j hj => ?_)
        by_cases h : j = k
        · rw [h]; exact a
        · exact hn j (by omega)
theorem l_isAgainst (R : Rep S A V M) (C : CV V M) (K : KO V) {e w : Nat} {x : Int32} {f : Int32 → St → Prop} (he : e < nE V) (hw : w < nW V) (h1 : agn V e w x → f 1 S) (h0 : ¬ agn V e w x → f 0 S) : ∀ n k, k ≤ nE V → nE V < k + n → (∀ g, g < k → ¬ (hd V g e = true ∧ ∃ k, k < cn V g ∧ br (kq V w (ic V g k)) x (V 19 (5 * g + k)) = true)) → wl_X1_isAgainst_3 f n S (A 2 0) (A 8 0) (A 3 e) (A 9 w) x (z k) := by
  have hb := bE R
  intro n
  induction n with
  | zero => intro k h1 h2; omega
  | succ n ih =>
    intro k k1 k2 hn
    unfold wl_X1_isAgainst_3
    refine ⟨o2 R, _, p2_0 R, o0 R (by decide), s_size0 R (by decide) ?_⟩
    refine ⟨fun hc => ?_, fun hc => ?_⟩
    · have h3 := z_ex k1 (by omega) hc
      subst h3
      exact h0 (fun ⟨g, a, b⟩ => hn g a b)
    · have h3 := z_go k1 (by omega) hc
      have h4 := fun (hk : ¬ (hd V k e = true ∧ ∃ j, j < cn V k ∧ br (kq V w (ic V k j)) x (V 19 (5 * k + j)) = true)) => ih (k + 1) (by omega) (by omega) (fun g hg => by
        by_cases h : g = k
        · rw [h]; exact hk
        · exact hn g (by omega))
      refine ⟨o2 R, _, p2_0 R, o0 R (by decide), s_get0 R (by decide) (show k < sz V 3 from h3) ?_⟩
      refine ⟨o3 R h3, s_hangsDuring R C h3 he (fun a => ?_) (fun a => ?_)⟩
      · refine ⟨fun _ => ⟨cn V k + 1, l_isAgainst2 R C K hw h3 (fun b => h1 ⟨k, h3, a, b⟩) (fun b => ?_) _ 0 (Nat.zero_le _) (by omega) (fun j hj => absurd hj (by omega))⟩, fun hc => absurd hc (by decide)⟩
        rw [z_s]
        exact h4 (fun h => b h.2)
      · refine ⟨fun hc => absurd rfl hc, fun _ => ?_⟩
        rw [z_s]
        refine h4 (fun h => ?_)
        rw [a] at h
        cases h.1
theorem s_isAgainst (R : Rep S A V M) (C : CV V M) (K : KO V) {e w : Nat} {x : Int32} {f : Int32 → St → Prop} (he : e < nE V) (hw : w < nW V) (h1 : agn V e w x → f 1 S) (h0 : ¬ agn V e w x → f 0 S) : w_X1_isAgainst S (A 2 0) (A 8 0) (A 3 e) (A 9 w) x f := by
  unfold w_X1_isAgainst
  exact ⟨nE V + 1, l_isAgainst R C K he hw h1 h0 _ 0 (Nat.zero_le _) (by omega) (fun j hj => absurd hj (by omega))⟩
end CC
