/-! ===== the class's small methods over the museum ===== -/
section CB
variable {S : St} {A : Nat → Nat → Nat} {V : VV} {M : MM}
theorem s_isWithin {x a b : Int32} {f : Int32 → St → Prop} (h1 : a ≤ x → x ≤ b → f 1 S) (h0 : ¬ (a ≤ x ∧ x ≤ b) → f 0 S) : w_X9_isWithin S x a b f := by
  unfold w_X9_isWithin
  refine ⟨fun hc => h0 (fun h => ?_), fun hc => ⟨fun hd => h0 (fun h => ?_), fun hd => h1 (Int32.not_lt.1 hc) (Int32.not_lt.1 hd)⟩⟩
  · exact Int32.not_lt.2 h.1 hc
  · exact Int32.not_lt.2 h.2 hd
theorem s_isClimate {x y : Int32} {f : Int32 → St → Prop} (h1 : 0 ≤ x ∧ x ≤ 100 ∧ 0 ≤ y ∧ y ≤ 100 → f 1 S) (h0 : ¬ (0 ≤ x ∧ x ≤ 100 ∧ 0 ≤ y ∧ y ≤ 100) → f 0 S) : w_X9_isClimate S x y f := by
  unfold w_X9_isClimate
  refine s_isWithin (fun a b => ?_) (fun a => ?_)
  · refine ⟨fun hc => absurd hc (by decide), fun _ => ?_⟩
    refine s_isWithin (fun c d => ?_) (fun c => ?_)
    · exact ⟨fun hc => absurd hc (by decide), fun _ => h1 ⟨a, b, c, d⟩⟩
    · exact ⟨fun _ => h0 (fun h => c h.2.2), fun hc => absurd rfl hc⟩
  · exact ⟨fun _ => h0 (fun h => a ⟨h.1, h.2.1⟩), fun hc => absurd rfl hc⟩
theorem s_numberAt {a n k : Nat} {f : Int32 → St → Prop} (h : ok S a 101) (hn : sN S a = n) (hk : k < n) (hb : n < 2147483648) (hf : f (sI S a k) S) : w_X9_numberAt S a (z k) f := by
  unfold w_X9_numberAt
  refine ⟨fun hc => absurd hc (z_neg (by omega)), fun _ => ⟨h, fun hc => ?_, fun _ => ⟨?_, ?_⟩⟩⟩
  · rw [hn] at hc
    have := (z_le hb (by omega)).1 hc
    omega
  · rw [hn]
    exact z_vp hk hb
  · rw [z_c (by omega)]
    exact hf
theorem s_putAt {a n k : Nat} {v : Int32} {f : St → Prop} (h : ok S a 101) (hn : sN S a = n) (hk : k < n) (hb : n < 2147483648) (hf : f (setI S a k v)) : w_X9_putAt S a (z k) v f := by
  unfold w_X9_putAt
  refine ⟨fun hc => absurd hc (z_neg (by omega)), fun _ => ⟨h, fun hc => ?_, fun _ => ⟨?_, ?_⟩⟩⟩
  · rw [hn] at hc
    have := (z_le hb (by omega)).1 hc
    omega
  · rw [hn]
    exact z_vp hk hb
  · rw [z_c (by omega)]
    exact hf
theorem brk_t {k x y : Int32} (h : (k = 114 ∧ x / 2 = y / 2) ∨ (k = 119 ∧ x = y)) : br k x y = true := decide_eq_true h
theorem brk_f {k x y : Int32} (h : ¬ ((k = 114 ∧ x / 2 = y / 2) ∨ (k = 119 ∧ x = y))) : br k x y = false := decide_eq_false h
theorem s_isBroken {k x y : Int32} {f : Int32 → St → Prop} (h1 : br k x y = true → f 1 S) (h0 : br k x y = false → f 0 S) : w_X9_isBroken S k x y f := by
  unfold w_X9_isBroken
  refine ⟨fun a => ⟨fun b => h0 (brk_f ?_), fun b => ⟨fun c => h0 (brk_f ?_), fun c => h1 (brk_t (Or.inr ⟨b, c⟩))⟩⟩, fun a => ⟨fun b => h0 (brk_f ?_), fun b => h1 (brk_t (Or.inl ⟨a, b⟩))⟩⟩
  · rintro (h | h)
    · exact a h.1
    · exact b h.1
  · rintro (h | h)
    · exact a h.1
    · exact c h.2
  · rintro (h | h)
    · exact b h.2
    · rw [a] at h
      exact absurd h.1 (by decide)
theorem ho_t {e : Nat} {d : Int32} (h : V 16 e = 112 ∧ V 13 e ≤ d ∧ d ≤ V 14 e) : ho V e d = true := decide_eq_true h
theorem ho_f {e : Nat} {d : Int32} (h : ¬ (V 16 e = 112 ∧ V 13 e ≤ d ∧ d ≤ V 14 e)) : ho V e d = false := decide_eq_false h
theorem hd_t {e g : Nat} (h : V 16 e = 112 ∧ V 13 e ≤ V 14 g ∧ V 13 g ≤ V 14 e) : hd V e g = true := decide_eq_true h
theorem hd_f {e g : Nat} (h : ¬ (V 16 e = 112 ∧ V 13 e ≤ V 14 g ∧ V 13 g ≤ V 14 e)) : hd V e g = false := decide_eq_false h
theorem s_hangsOn (R : Rep S A V M) (C : CV V M) {e : Nat} {d : Int32} {f : Int32 → St → Prop} (he : e < nE V) (h1 : ho V e d = true → f 1 S) (h0 : ho V e d = false → f 0 S) : w_X2_hangsOn S (A 3 e) d f := by
  unfold w_X2_hangsOn
  rw [f3_6 R C he, f3_1 R C he, f3_2 R C he]
  refine ⟨o3 R he, fun a => h0 (ho_f fun h => a h.1), fun a => ⟨fun b => h0 (ho_f fun h => Int32.not_lt.2 h.2.1 b), fun b => ⟨fun c => h0 (ho_f fun h => Int32.not_lt.2 h.2.2 c), fun c => h1 (ho_t ⟨a, Int32.not_lt.1 b, Int32.not_lt.1 c⟩)⟩⟩⟩
theorem s_hangsDuring (R : Rep S A V M) (C : CV V M) {e g : Nat} {f : Int32 → St → Prop} (he : e < nE V) (hg : g < nE V) (h1 : hd V e g = true → f 1 S) (h0 : hd V e g = false → f 0 S) : w_X2_hangsDuring S (A 3 e) (A 3 g) f := by
  unfold w_X2_hangsDuring
  rw [f3_6 R C he, f3_1 R C he, f3_2 R C he, f3_1 R C hg, f3_2 R C hg]
  refine ⟨o3 R he, fun a => h0 (hd_f fun h => a h.1), fun a => ⟨o3 R hg, fun b => h0 (hd_f fun h => Int32.not_lt.2 h.2.1 b), fun b => ⟨fun c => h0 (hd_f fun h => Int32.not_lt.2 h.2.2 c), fun c => h1 (hd_t ⟨a, Int32.not_lt.1 b, Int32.not_lt.1 c⟩)⟩⟩⟩
theorem s_walls (R : Rep S A V M) {f : Int32 → St → Prop} (hf : f (z (2 * nR V)) S) : w_X3_walls S (A 4 0) f := by
  unfold w_X3_walls
  refine ⟨o4 R, _, p4_0 R, o0 R (by decide), s_size0 R (by decide) ?_⟩
  rw [show (2 : Int32) = z 2 from rfl, z_mul, Nat.mul_comm]
  exact hf
theorem s_days (R : Rep S A V M) (C : CV V M) {e : Nat} {f : Int32 → St → Prop} (he : e < nE V) (hf : f (V 14 e - V 13 e + 1) S) : w_X2_days S (A 3 e) f := by
  unfold w_X2_days
  rw [f3_1 R C he, f3_2 R C he]
  exact ⟨o3 R he, hf⟩
theorem s_travelDays (R : Rep S A V M) (C : CV V M) {w : Nat} {f : Int32 → St → Prop} (hw : w < nW V) (hf : f (tr V w) S) : w_X8_travelDays S (A 9 w) f := by
  unfold w_X8_travelDays
  rw [p9_6 R hw]
  refine ⟨o9 R hw, fun h => ?_, fun b h => ?_⟩
  · cases e : ow V w with
    | none => unfold tr at hf; rw [e] at hf; exact hf
    | some l => rw [e] at h; cases h
  · cases e : ow V w with
    | none => rw [e] at h; cases h
    | some l =>
      rw [e] at h
      cases h
      have hl := bO R hw e
      rw [f5_2 R C hl]
      unfold tr at hf
      rw [e] at hf
      exact ⟨o5 R hl, hf⟩
theorem s_stands (R : Rep S A V M) (C : CV V M) {w r : Nat} {f : Int32 → St → Prop} (hw : w < nW V) (hr : r < nR V) (h1 : stn V w r = true → f 1 S) (h0 : stn V w r = false → f 0 S) : w_X8_stands S (A 9 w) (A 7 r) f := by
  unfold w_X8_stands
  rw [f9_2 R C hw, f9_3 R C hw, f9_4 R C hw, f7_0 R C hr, f7_1 R C hr]
  refine ⟨o9 R hw, o7 R hr, fun a => h0 (decide_eq_false fun h => Int32.not_lt.2 h.1 a), fun a => ⟨fun b => h0 (decide_eq_false fun h => Int32.not_lt.2 h.2.1 b), fun b => ⟨fun c => h0 (decide_eq_false fun h => Int32.not_lt.2 h.2.2 c), fun c => h1 (decide_eq_true ⟨Int32.not_lt.1 a, Int32.not_lt.1 b, Int32.not_lt.1 c⟩)⟩⟩⟩
theorem z_half {n : Nat} (h : n < 2147483648) : z n / 2 = z (n / 2) := (Int32.ofNat_div (by omega) (by decide)).symm
theorem z_sub {a b : Nat} (h : b ≤ a) : z a - z b = z (a - b) := (Int32.ofNat_sub a b h).symm
theorem z_par {n : Nat} (h : n < 2147483648) : z n - z n / 2 * 2 = z (n % 2) := by
  rw [z_half h, show (2 : Int32) = z 2 from rfl, z_mul, z_sub (by omega)]
  congr 1
  omega
/-- a wall's number between 0 and the last -/
theorem wl_in {x : Int32} {n : Nat} (hn : n < 2147483648) (a : 0 ≤ x) (b : x ≤ z n - 1) : ∃ k, k < n ∧ x = z k := by
  have e := z_of a
  refine ⟨x.toNatClampNeg, ?_, e.symm⟩
  have h1 := i_of a
  rw [Int32.le_iff_toInt_le] at a b
  by_cases h0 : n = 0
  · subst h0
    rw [show (z 0 - 1 : Int32).toInt = -1 from by decide] at b
    rw [show (0 : Int32).toInt = 0 from by decide] at a
    omega
  · rw [show (1 : Int32) = z 1 from rfl, z_sub (by omega), z_i (by omega)] at b
    omega
theorem wl_out {x : Int32} {n : Nat} (hn : n < 2147483648) (h : ¬ (0 ≤ x ∧ x ≤ z n - 1)) : x < 0 ∨ z n ≤ x := by
  by_cases h0 : x < 0
  · exact Or.inl h0
  · refine Or.inr ?_
    have h1 := Int32.not_lt.1 h0
    have h2 : ¬ x ≤ z n - 1 := fun h2 => h ⟨h1, h2⟩
    have h3 := i_of h1
    rw [Int32.le_iff_toInt_le, z_i hn]
    rw [Int32.le_iff_toInt_le] at h2
    by_cases h4 : n = 0
    · omega
    · rw [show (1 : Int32) = z 1 from rfl, z_sub (by omega), z_i (by omega)] at h2
      omega
theorem len_in {k : Nat} (h : k < 2 * nR V) (hb : nR V ≤ 12) : len V (z k) = V 2 k := by
  unfold len
  rw [if_neg, z_c (by omega)]
  rintro (c | c)
  · exact z_neg (by omega) c
  · have := (z_le (by omega) (by omega)).1 c
    omega
theorem s_lengthOf (R : Rep S A V M) (C : CV V M) {x : Int32} {f : Int32 → St → Prop} (hf : f (len V x) S) : w_X3_lengthOf S (A 4 0) x f := by
  have hb := bR R
  unfold w_X3_lengthOf
  refine ⟨o4 R, s_walls R ?_⟩
  refine s_isWithin (fun a b => ?_) (fun a => ?_)
  · refine ⟨fun _ => ⟨o4 R, _, p4_0 R, o0 R (by decide), ?_⟩, fun hc => absurd hc (by decide)⟩
    obtain ⟨k, hk, rfl⟩ := wl_in (by omega) a b
    rw [z_half (by omega)]
    have hk2 : k / 2 < nR V := by omega
    refine s_get0 R (by decide) (show k / 2 < sz V 0 from hk2) ?_
    show ok S (A 7 (k / 2)) 7 ∧ _
    refine ⟨o7 R hk2, fun hc => ?_, fun hc => ?_⟩
    · show f (sI S (A 7 (k / 2)) 3) S
      rw [f7_3 R C hk2]
      rw [len_in hk hb] at hf
      rw [← z_half (by omega), z_par (by omega)] at hc
      have : k % 2 = 1 := by
        rcases Nat.mod_two_eq_zero_or_one k with h | h
        · rw [h] at hc; exact absurd rfl hc
        · exact h
      rw [show 2 * (k / 2) + 1 = k by omega]
      exact hf
    · show f (sI S (A 7 (k / 2)) 2) S
      rw [f7_2 R C hk2]
      rw [len_in hk hb] at hf
      rw [← z_half (by omega), z_par (by omega)] at hc
      have : k % 2 = 0 := by
        rcases Nat.mod_two_eq_zero_or_one k with h | h
        · exact h
        · rw [h] at hc; exact absurd hc (by decide)
      rw [show 2 * (k / 2) = k by omega]
      exact hf
  · refine ⟨fun hc => absurd rfl hc, fun _ => ?_⟩
    unfold len at hf
    rw [if_pos (wl_out (by omega) a)] at hf
    exact hf
theorem s_suits (R : Rep S A V M) (C : CV V M) {w : Nat} {x : Int32} {f : Int32 → St → Prop} (hw : w < nW V) (h1 : suits V w x → f 1 S) (h0 : ¬ suits V w x → f 0 S) : w_X3_suits S (A 4 0) (A 9 w) x f := by
  have hb := bR R
  unfold w_X3_suits
  refine ⟨o4 R, s_walls R ?_⟩
  refine s_isWithin (fun a b => ?_) (fun a => ?_)
  · refine ⟨fun hc => absurd hc (by decide), fun _ => ⟨o4 R, _, p4_0 R, o0 R (by decide), ?_⟩⟩
    obtain ⟨k, hk, rfl⟩ := wl_in (by omega) a b
    rw [z_half (by omega)]
    have hk2 : k / 2 < nR V := by omega
    refine s_get0 R (by decide) (show k / 2 < sz V 0 from hk2) ?_
    refine ⟨o7 R hk2, o9 R hw, s_stands R C hw hk2 (fun c => ?_) (fun c => ?_)⟩
    · exact ⟨fun hc => absurd hc (by decide), fun _ => h1 ⟨a, (z_lt (by omega) (by omega)).2 hk, by rw [z_c (by omega)]; exact c⟩⟩
    · refine ⟨fun _ => h0 (fun h => ?_), fun hc => absurd rfl hc⟩
      have := h.2.2
      rw [z_c (by omega), c] at this
      cases this
  · refine ⟨fun _ => h0 (fun h => ?_), fun hc => absurd rfl hc⟩
    rcases wl_out (by omega) a with c | c
    · exact Int32.not_lt.2 h.1 c
    · exact Int32.not_le.2 h.2.1 c
theorem l_spaceOn (R : Rep S A V M) (C : CV V M) {e : Nat} {w : Int32} {f : Int32 → St → Prop} (he : e < nE V) (hf : f (sp V e w) S) : ∀ n k, k ≤ cn V e → cn V e < k + n → wl_X2_spaceOn_4 f n S (A 3 e) w (su k (fun k => if V 19 (5 * e + k) = w then V 6 (ic V e k) + V 15 e else 0)) (z k) := by
  have hb := bC R he
  intro n
  induction n with
  | zero => intro k h1 h2; omega
  | succ n ih =>
    intro k h1 h2
    unfold wl_X2_spaceOn_4
    refine ⟨o3 R he, _, p3_4 R he, o20 R he, s_size20 R he ?_⟩
    refine ⟨fun hc => ?_, fun hc => ?_⟩
    · have h3 := z_ex h1 (by omega) hc
      subst h3
      exact hf
    · have h3 := z_go h1 (by omega) hc
      refine ⟨o3 R he, _, p3_5 R he, o22 R he, fun hc => ?_, fun _ => ⟨?_, fun hc => ?_, fun hc => ?_⟩⟩
      · rw [n22 R he] at hc
        have := (z_le (a := 5) (by decide) (by omega)).1 hc
        omega
      · rw [n22 R he]
        exact z_vp (by omega) (by decide)
      · rw [z_c (by omega), f22 R C he (by omega)] at hc
        rw [z_s]
        have h4 := ih (k + 1) (by omega) (by omega)
        simp only [su] at h4
        rw [if_neg hc] at h4
        exact h4
      · rw [z_c (by omega), f22 R C he (by omega)] at hc
        refine ⟨_, p3_4 R he, o20 R he, s_get20 R he h3 ?_⟩
        have hi := bI R he h3
        refine ⟨o9 R hi, o3 R he, ?_⟩
        rw [f9_1 R C hi, f3_3 R C he, z_s]
        have h4 := ih (k + 1) (by omega) (by omega)
        simp only [su] at h4
        rw [if_pos hc] at h4
        exact h4
theorem s_spaceOn (R : Rep S A V M) (C : CV V M) {e : Nat} {w : Int32} {f : Int32 → St → Prop} (he : e < nE V) (hf : f (sp V e w) S) : w_X2_spaceOn S (A 3 e) w f := by
  unfold w_X2_spaceOn
  exact ⟨cn V e + 1, l_spaceOn R C he hf _ 0 (Nat.zero_le _) (by omega)⟩
theorem l_takenOn (R : Rep S A V M) (C : CV V M) {w d : Int32} {f : Int32 → St → Prop} (hf : f (tk V w d) S) : ∀ n k, k ≤ nE V → nE V < k + n → wl_X1_takenOn_5 f n S (A 2 0) w d (su k (fun e => if ho V e d then sp V e w else 0)) (z k) := by
  have hb := bE R
  intro n
  induction n with
  | zero => intro k h1 h2; omega
  | succ n ih =>
    intro k h1 h2
    unfold wl_X1_takenOn_5
    refine ⟨o2 R, _, p2_0 R, o0 R (by decide), s_size0 R (by decide) ?_⟩
    refine ⟨fun hc => ?_, fun hc => ?_⟩
    · have h3 := z_ex h1 (by omega) hc
      subst h3
      exact hf
    · have h3 := z_go h1 (by omega) hc
      refine ⟨o2 R, _, p2_0 R, o0 R (by decide), s_get0 R (by decide) (show k < sz V 3 from h3) ?_⟩
      have h4 := ih (k + 1) (by omega) (by omega)
      simp only [su] at h4
      refine ⟨o3 R h3, s_hangsOn R C h3 (fun a => ?_) (fun a => ?_)⟩
      · rw [a, if_pos rfl] at h4
        refine ⟨fun hc => absurd hc (by decide), fun _ => ⟨o3 R h3, s_spaceOn R C h3 ?_⟩⟩
        rw [z_s]
        exact h4
      · rw [a, if_neg (by decide)] at h4
        refine ⟨fun _ => ?_, fun hc => absurd rfl hc⟩
        rw [z_s]
        exact h4
theorem s_takenOn (R : Rep S A V M) (C : CV V M) {w d : Int32} {f : Int32 → St → Prop} (hf : f (tk V w d) S) : w_X1_takenOn S (A 2 0) w d f := by
  unfold w_X1_takenOn
  exact ⟨nE V + 1, l_takenOn R C hf _ 0 (Nat.zero_le _) (by omega)⟩
end CB
