/-! ===== what the class reads, the rest ===== -/
section CD
variable {S : St} {A : Nat → Nat → Nat} {V : VV} {M : MM}
theorem l_exhibitionWith (R : Rep S A V M) (C : CV V M) {w : Nat} {d : Int32} {f : Int32 → St → Prop} (hw : w < nW V) (h1 : ∀ g, g < nE V → away V g w d d → (∀ j, j < g → ¬ away V j w d d) → f (z g) S) (h0 : (∀ g, g < nE V → ¬ away V g w d d) → f (-1) S) : ∀ n k, k ≤ nE V → nE V < k + n → (∀ g, g < k → ¬ away V g w d d) → wl_X1_exhibitionWith_2 f n S (A 2 0) (A 9 w) d (z k) := by
  have hb := bE R
  intro n
  induction n with
  | zero => intro k h1 h2; omega
  | succ n ih =>
    intro k k1 k2 hn
    unfold wl_X1_exhibitionWith_2
    refine ⟨o2 R, _, p2_0 R, o0 R (by decide), s_size0 R (by decide) ?_⟩
    refine ⟨fun hc => ?_, fun hc => ?_⟩
    · have h3 := z_ex k1 (by omega) hc
      subst h3
      exact h0 hn
    · have h3 := z_go k1 (by omega) hc
      refine ⟨o2 R, _, p2_0 R, o0 R (by decide), s_get0 R (by decide) (show k < sz V 3 from h3) ?_⟩
      refine ⟨o3 R h3, s_isAway R C h3 hw (fun a => ?_) (fun a => ?_)⟩
      · exact ⟨fun hc => absurd hc (by decide), fun _ => h1 k h3 a hn⟩
      · refine ⟨fun _ => ?_, fun hc => absurd rfl hc⟩
        rw [z_s]
        refine ih (k + 1) (by omega) (by omega) (fun g hg => ?_)
        by_cases h : g = k
        · rw [h]; exact a
        · exact hn g (by omega)
theorem s_exhibitionWith (R : Rep S A V M) (C : CV V M) {w : Nat} {d : Int32} {f : Int32 → St → Prop} (hw : w < nW V) (h1 : ∀ g, g < nE V → away V g w d d → (∀ j, j < g → ¬ away V j w d d) → f (z g) S) (h0 : (∀ g, g < nE V → ¬ away V g w d d) → f (-1) S) : w_X1_exhibitionWith S (A 2 0) (A 9 w) d f := by
  unfold w_X1_exhibitionWith
  exact ⟨nE V + 1, l_exhibitionWith R C hw h1 h0 _ 0 (Nat.zero_le _) (by omega) (fun j hj => absurd hj (by omega))⟩
theorem l_countOn (R : Rep S A V M) (C : CV V M) {e : Nat} {w : Int32} {f : Int32 → St → Prop} (he : e < nE V) (hf : f (co V e w) S) : ∀ n k, k ≤ cn V e → cn V e < k + n → wl_X2_countOn_4 f n S (A 3 e) w (su k (fun k => if V 19 (5 * e + k) = w then 1 else 0)) (z k) := by
  have hb := bC R he
  intro n
  induction n with
  | zero => intro k h1 h2; omega
  | succ n ih =>
    intro k h1 h2
    unfold wl_X2_countOn_4
    refine ⟨o3 R he, _, p3_4 R he, o20 R he, s_size20 R he ?_⟩
    refine ⟨fun hc => ?_, fun hc => ?_⟩
    · have h3 := z_ex h1 (by omega) hc
      subst h3
      exact hf
    · have h3 := z_go h1 (by omega) hc
      have h4 := ih (k + 1) (by omega) (by omega)
      simp only [su] at h4
      refine ⟨o3 R he, _, p3_5 R he, o22 R he, fun hc => ?_, fun _ => ⟨?_, fun hc => ?_, fun hc => ?_⟩⟩
      · rw [n22 R he] at hc
        have := (z_le (a := 5) (by decide) (by omega)).1 hc
        omega
      · rw [n22 R he]
        exact z_vp (by omega) (by decide)
      · rw [z_c (by omega), f22 R C he (by omega)] at hc
        rw [z_s]
        rw [if_neg hc] at h4
        exact h4
      · rw [z_c (by omega), f22 R C he (by omega)] at hc
        rw [z_s]
        rw [if_pos hc] at h4
        exact h4
theorem s_countOn (R : Rep S A V M) (C : CV V M) {e : Nat} {w : Int32} {f : Int32 → St → Prop} (he : e < nE V) (hf : f (co V e w) S) : w_X2_countOn S (A 3 e) w f := by
  unfold w_X2_countOn
  exact ⟨cn V e + 1, l_countOn R C he hf _ 0 (Nat.zero_le _) (by omega)⟩
theorem l_worksOn (R : Rep S A V M) (C : CV V M) {w d : Int32} {f : Int32 → St → Prop} (hf : f (hg V w d) S) : ∀ n k, k ≤ nE V → nE V < k + n → wl_X1_worksOn_5 f n S (A 2 0) w d (su k (fun e => if ho V e d then co V e w else 0)) (z k) := by
  have hb := bE R
  intro n
  induction n with
  | zero => intro k h1 h2; omega
  | succ n ih =>
    intro k h1 h2
    unfold wl_X1_worksOn_5
    refine ⟨o2 R, _, p2_0 R, o0 R (by decide), s_size0 R (by decide) ?_⟩
    refine ⟨fun hc => ?_, fun hc => ?_⟩
    · have h3 := z_ex h1 (by omega) hc
      subst h3
      exact hf
    · have h3 := z_go h1 (by omega) hc
      refine ⟨o2 R, _, p2_0 R, o0 R (by decide), s_get0 R (by decide) (show k < sz V 3 from h3) ?_⟩
      have h4 := ih (k + 1) (by omega) (by omega)
      simp only [su] at h4
      refine ⟨o3 R h3, s_hangsOn R C h3 (fun a => ?_) (fun a => ?_)⟩
      · rw [a, if_pos rfl] at h4
        refine ⟨fun hc => absurd hc (by decide), fun _ => ⟨o3 R h3, s_countOn R C h3 ?_⟩⟩
        rw [z_s]
        exact h4
      · rw [a, if_neg (by decide)] at h4
        refine ⟨fun _ => ?_, fun hc => absurd rfl hc⟩
        rw [z_s]
        exact h4
theorem s_worksOn (R : Rep S A V M) (C : CV V M) {w d : Int32} {f : Int32 → St → Prop} (hf : f (hg V w d) S) : w_X1_worksOn S (A 2 0) w d f := by
  unfold w_X1_worksOn
  exact ⟨nE V + 1, l_worksOn R C hf _ 0 (Nat.zero_le _) (by omega)⟩
theorem l_plannedExhibitions (R : Rep S A V M) (C : CV V M) {f : Int32 → St → Prop} (hf : f (pes V) S) : ∀ n k, k ≤ nE V → nE V < k + n → wl_X1_plannedExhibitions_4 f n S (A 2 0) (su k (fun e => if V 16 e = 112 then 1 else 0)) (z k) := by
  have hb := bE R
  intro n
  induction n with
  | zero => intro k h1 h2; omega
  | succ n ih =>
    intro k h1 h2
    unfold wl_X1_plannedExhibitions_4
    refine ⟨o2 R, _, p2_0 R, o0 R (by decide), s_size0 R (by decide) ?_⟩
    refine ⟨fun hc => ?_, fun hc => ?_⟩
    · have h3 := z_ex h1 (by omega) hc
      subst h3
      exact hf
    · have h3 := z_go h1 (by omega) hc
      refine ⟨o2 R, _, p2_0 R, o0 R (by decide), s_get0 R (by decide) (show k < sz V 3 from h3) ?_⟩
      have h4 := ih (k + 1) (by omega) (by omega)
      simp only [su] at h4
      refine ⟨o3 R h3, ?_⟩
      show (¬ sI S (A 3 k) 6 = 112 → _) ∧ (sI S (A 3 k) 6 = 112 → _)
      rw [f3_6 R C h3, z_s]
      refine ⟨fun hc => ?_, fun hc => ?_⟩
      · rw [if_neg hc, Int32.add_zero] at h4
        exact h4
      · rw [if_pos hc] at h4
        exact h4
theorem s_plannedExhibitions (R : Rep S A V M) (C : CV V M) {f : Int32 → St → Prop} (hf : f (pes V) S) : w_X1_plannedExhibitions S (A 2 0) f := by
  unfold w_X1_plannedExhibitions
  exact ⟨nE V + 1, l_plannedExhibitions R C hf _ 0 (Nat.zero_le _) (by omega)⟩
theorem l_plannedWorks (R : Rep S A V M) (C : CV V M) {f : Int32 → St → Prop} (hf : f (pwk V) S) : ∀ n k, k ≤ nE V → nE V < k + n → wl_X1_plannedWorks_4 f n S (A 2 0) (su k (fun e => if V 16 e = 112 then z (cn V e) else 0)) (z k) := by
  have hb := bE R
  intro n
  induction n with
  | zero => intro k h1 h2; omega
  | succ n ih =>
    intro k h1 h2
    unfold wl_X1_plannedWorks_4
    refine ⟨o2 R, _, p2_0 R, o0 R (by decide), s_size0 R (by decide) ?_⟩
    refine ⟨fun hc => ?_, fun hc => ?_⟩
    · have h3 := z_ex h1 (by omega) hc
      subst h3
      exact hf
    · have h3 := z_go h1 (by omega) hc
      refine ⟨o2 R, _, p2_0 R, o0 R (by decide), s_get0 R (by decide) (show k < sz V 3 from h3) ?_⟩
      have h4 := ih (k + 1) (by omega) (by omega)
      simp only [su] at h4
      refine ⟨o3 R h3, ?_⟩
      show (¬ sI S (A 3 k) 6 = 112 → _) ∧ (sI S (A 3 k) 6 = 112 → _)
      rw [f3_6 R C h3]
      refine ⟨fun hc => ?_, fun hc => ?_⟩
      · rw [if_neg hc, Int32.add_zero] at h4
        rw [z_s]
        exact h4
      · rw [if_pos hc] at h4
        refine ⟨o2 R, _, p2_0 R, o0 R (by decide), s_get0 R (by decide) (show k < sz V 3 from h3) ?_⟩
        refine ⟨o3 R h3, _, p3_4 R h3, o20 R h3, s_size20 R h3 ?_⟩
        rw [z_s]
        exact h4
theorem s_plannedWorks (R : Rep S A V M) (C : CV V M) {f : Int32 → St → Prop} (hf : f (pwk V) S) : w_X1_plannedWorks S (A 2 0) f := by
  unfold w_X1_plannedWorks
  exact ⟨nE V + 1, l_plannedWorks R C hf _ 0 (Nat.zero_le _) (by omega)⟩
theorem l_insured2 (R : Rep S A V M) (C : CV V M) {e : Nat} {f : Int64 → St → Prop} (he : e < nE V) (hf : f (ise V e) S) : ∀ n k, k ≤ cn V e → cn V e < k + n → wl_X2_insuredSum_4 f n S (A 3 e) (sj k (fun k => match ow V (ic V e k) with
    | none => 0
    | some _ => Int32.toInt64 (V 10 (ic V e k)) * Int32.toInt64 ((V 14 e - V 13 e + 1) + 2 * tr V (ic V e k)))) (z k) := by
  have hb := bC R he
  intro n
  induction n with
  | zero => intro k h1 h2; omega
  | succ n ih =>
    intro k h1 h2
    unfold wl_X2_insuredSum_4
    refine ⟨o3 R he, _, p3_4 R he, o20 R he, s_size20 R he ?_⟩
    refine ⟨fun hc => ?_, fun hc => ?_⟩
    · have h3 := z_ex h1 (by omega) hc
      subst h3
      exact hf
    · have h3 := z_go h1 (by omega) hc
      refine ⟨o3 R he, _, p3_4 R he, o20 R he, s_get20 R he h3 ?_⟩
      have hi := bI R he h3
      have h4 := ih (k + 1) (by omega) (by omega)
      simp only [sj] at h4
      refine ⟨o9 R hi, ?_⟩
      show (sP S (A 9 (ic V e k)) 6 = none → _) ∧ (∀ b : Nat, sP S (A 9 (ic V e k)) 6 = some b → _)
      rw [p9_6 R hi]
      refine ⟨fun h => ?_, fun b h => ?_⟩
      · cases e1 : ow V (ic V e k) with
        | some l => rw [e1] at h; cases h
        | none =>
          rw [e1] at h4
          rw [z_s]
          have h5 : ∀ x : Int64, x + 0 = x := Int64.add_zero
          rw [h5] at h4
          exact h4
      · cases e1 : ow V (ic V e k) with
        | none => rw [e1] at h; cases h
        | some l =>
          rw [e1] at h4
          refine ⟨o3 R he, s_days R C he ⟨o9 R hi, s_travelDays R C hi ?_⟩⟩
          show wl_X2_insuredSum_4 f n S (A 3 e) (_ + Int32.toInt64 (sI S (A 9 (ic V e k)) 5) * _) (z k + 1)
          rw [z_s, f9_5 R C hi]
          exact h4
theorem s_insured2 (R : Rep S A V M) (C : CV V M) {e : Nat} {f : Int64 → St → Prop} (he : e < nE V) (hf : f (ise V e) S) : w_X2_insuredSum S (A 3 e) f := by
  unfold w_X2_insuredSum
  exact ⟨cn V e + 1, l_insured2 R C he hf _ 0 (Nat.zero_le _) (by omega)⟩
theorem l_insured (R : Rep S A V M) (C : CV V M) {f : Int64 → St → Prop} (hf : f (iss V) S) : ∀ n k, k ≤ nE V → nE V < k + n → wl_X1_insuredSum_4 f n S (A 2 0) (sj k (fun e => if V 16 e = 112 then ise V e else 0)) (z k) := by
  have hb := bE R
  intro n
  induction n with
  | zero => intro k h1 h2; omega
  | succ n ih =>
    intro k h1 h2
    unfold wl_X1_insuredSum_4
    refine ⟨o2 R, _, p2_0 R, o0 R (by decide), s_size0 R (by decide) ?_⟩
    refine ⟨fun hc => ?_, fun hc => ?_⟩
    · have h3 := z_ex h1 (by omega) hc
      subst h3
      exact hf
    · have h3 := z_go h1 (by omega) hc
      refine ⟨o2 R, _, p2_0 R, o0 R (by decide), s_get0 R (by decide) (show k < sz V 3 from h3) ?_⟩
      have h4 := ih (k + 1) (by omega) (by omega)
      simp only [sj] at h4
      refine ⟨o3 R h3, ?_⟩
      show (¬ sI S (A 3 k) 6 = 112 → _) ∧ (sI S (A 3 k) 6 = 112 → _)
      rw [f3_6 R C h3]
      refine ⟨fun hc => ?_, fun hc => ?_⟩
      · have h5 : ∀ x : Int64, x + 0 = x := Int64.add_zero
        rw [if_neg hc, h5] at h4
        rw [z_s]
        exact h4
      · rw [if_pos hc] at h4
        refine ⟨o2 R, _, p2_0 R, o0 R (by decide), s_get0 R (by decide) (show k < sz V 3 from h3) ?_⟩
        refine ⟨o3 R h3, s_insured2 R C h3 ?_⟩
        rw [z_s]
        exact h4
theorem s_insured (R : Rep S A V M) (C : CV V M) {f : Int64 → St → Prop} (hf : f (iss V) S) : w_X1_insuredSum S (A 2 0) f := by
  unfold w_X1_insuredSum
  exact ⟨nE V + 1, l_insured R C hf _ 0 (Nat.zero_le _) (by omega)⟩
theorem l_meets (R : Rep S A V M) (C : CV V M) {e w : Nat} {x q : Int32} {f : Int32 → St → Prop} (he : e < nE V) (hw : w < nW V) (h1 : mts V e x w q → f 1 S) (h0 : ¬ mts V e x w q → f 0 S) : ∀ n k, k ≤ nE V → nE V < k + n → (∀ g, g < k → ¬ (hd V g e = true ∧ ∃ j, first V g w j ∧ br q x (V 19 (5 * g + j)) = true)) → wl_X1_meetsAgainst_3 f n S (A 2 0) (A 3 e) x (A 9 w) q (z k) := by
  have hb := bE R
  intro n
  induction n with
  | zero => intro k h1 h2; omega
  | succ n ih =>
    intro k k1 k2 hn
    unfold wl_X1_meetsAgainst_3
    refine ⟨o2 R, _, p2_0 R, o0 R (by decide), s_size0 R (by decide) ?_⟩
    refine ⟨fun hc => ?_, fun hc => ?_⟩
    · have h3 := z_ex k1 (by omega) hc
      subst h3
      exact h0 (fun ⟨g, a, b⟩ => hn g a b)
    · have h3 := z_go k1 (by omega) hc
      have hbk := bC R h3
      have h4 := fun (hk : ¬ (hd V k e = true ∧ ∃ j, first V k w j ∧ br q x (V 19 (5 * k + j)) = true)) => ih (k + 1) (by omega) (by omega) (fun g hg => by
        by_cases h : g = k
        · rw [h]; exact hk
        · exact hn g (by omega))
      refine ⟨o2 R, _, p2_0 R, o0 R (by decide), s_get0 R (by decide) (show k < sz V 3 from h3) ?_⟩
      refine ⟨o3 R h3, s_indexOf R C h3 hw (fun j hj => ?_) (fun hj => ?_)⟩
      · refine ⟨o3 R h3, s_hangsDuring R C h3 he (fun a => ?_) (fun a => ?_)⟩
        · refine ⟨fun hc => absurd hc (by decide), fun _ => ⟨fun hc => absurd hc (z_nm (by have := hj.1; omega)), fun _ => ?_⟩⟩
          refine ⟨o3 R h3, _, p3_5 R h3, s_numberAt (o22 R h3) (n22 R h3) (by have := hj.1; omega) (by decide) ?_⟩
          rw [f22 R C h3 (by have := hj.1; omega)]
          refine s_isBroken (fun b => ?_) (fun b => ?_)
          · exact ⟨fun hc => absurd hc (by decide), fun _ => h1 ⟨k, h3, a, j, hj, b⟩⟩
          · refine ⟨fun _ => ?_, fun hc => absurd rfl hc⟩
            rw [z_s]
            refine h4 (fun ⟨_, i, hi, hb⟩ => ?_)
            have : i = j := by
              by_cases h : i < j
              · exact absurd hi.2.1 (hj.2.2 i h)
              · by_cases h' : j < i
                · exact absurd hj.2.1 (hi.2.2 j h')
                · omega
            rw [this, b] at hb
            cases hb
        · refine ⟨fun _ => ?_, fun hc => absurd rfl hc⟩
          rw [z_s]
          refine h4 (fun h => ?_)
          rw [a] at h
          cases h.1
      · have h5 : ¬ (hd V k e = true ∧ ∃ j, first V k w j ∧ br q x (V 19 (5 * k + j)) = true) := fun ⟨_, i, hi, _⟩ => hj ⟨i, hi.1, hi.2.1⟩
        refine ⟨o3 R h3, s_hangsDuring R C h3 he (fun a => ?_) (fun a => ?_)⟩
        · refine ⟨fun hc => absurd hc (by decide), fun _ => ⟨fun _ => ?_, fun hc => absurd rfl hc⟩⟩
          rw [z_s]
          exact h4 h5
        · refine ⟨fun _ => ?_, fun hc => absurd rfl hc⟩
          rw [z_s]
          exact h4 h5
theorem s_meets (R : Rep S A V M) (C : CV V M) {e w : Nat} {x q : Int32} {f : Int32 → St → Prop} (he : e < nE V) (hw : w < nW V) (h1 : mts V e x w q → f 1 S) (h0 : ¬ mts V e x w q → f 0 S) : w_X1_meetsAgainst S (A 2 0) (A 3 e) x (A 9 w) q f := by
  unfold w_X1_meetsAgainst
  exact ⟨nE V + 1, l_meets R C he hw h1 h0 _ 0 (Nat.zero_le _) (by omega) (fun j hj => absurd hj (by omega))⟩
theorem l_hangsAg (R : Rep S A V M) (C : CV V M) {w w' : Nat} {q : Int32} {f : Int32 → St → Prop} (hw : w < nW V) (hw' : w' < nW V) (h1 : hag V w w' q → f 1 S) (h0 : ¬ hag V w w' q → f 0 S) : ∀ n k, k ≤ nE V → nE V < k + n → (∀ e, e < k → ¬ (V 16 e = 112 ∧ ∃ j, first V e w j ∧ mts V e (V 19 (5 * e + j)) w' q)) → wl_X1_hangsAgainst_3 f n S (A 2 0) (A 9 w) (A 9 w') q (z k) := by
  have hb := bE R
  intro n
  induction n with
  | zero => intro k h1 h2; omega
  | succ n ih =>
    intro k k1 k2 hn
    unfold wl_X1_hangsAgainst_3
    refine ⟨o2 R, _, p2_0 R, o0 R (by decide), s_size0 R (by decide) ?_⟩
    refine ⟨fun hc => ?_, fun hc => ?_⟩
    · have h3 := z_ex k1 (by omega) hc
      subst h3
      exact h0 (fun ⟨g, a, b⟩ => hn g a b)
    · have h3 := z_go k1 (by omega) hc
      have hbk := bC R h3
      have h4 := fun (hk : ¬ (V 16 k = 112 ∧ ∃ j, first V k w j ∧ mts V k (V 19 (5 * k + j)) w' q)) => ih (k + 1) (by omega) (by omega) (fun g hg => by
        by_cases h : g = k
        · rw [h]; exact hk
        · exact hn g (by omega))
      refine ⟨o2 R, _, p2_0 R, o0 R (by decide), s_get0 R (by decide) (show k < sz V 3 from h3) ?_⟩
      refine ⟨o3 R h3, s_indexOf R C h3 hw (fun j hj => ?_) (fun hj => ?_)⟩
      · refine ⟨o3 R h3, ?_⟩
        show (¬ sI S (A 3 k) 6 = 112 → _) ∧ (sI S (A 3 k) 6 = 112 → _)
        rw [f3_6 R C h3, z_s]
        refine ⟨fun a => h4 (fun h => a h.1), fun a => ⟨fun hc => absurd hc (z_nm (by have := hj.1; omega)), fun _ => ?_⟩⟩
        refine ⟨_, p3_5 R h3, s_numberAt (o22 R h3) (n22 R h3) (by have := hj.1; omega) (by decide) ?_⟩
        rw [f22 R C h3 (by have := hj.1; omega)]
        refine ⟨o2 R, s_meets R C h3 hw' (fun b => ?_) (fun b => ?_)⟩
        · exact ⟨fun hc => absurd hc (by decide), fun _ => h1 ⟨k, h3, a, j, hj, b⟩⟩
        · refine ⟨fun _ => ?_, fun hc => absurd rfl hc⟩
          refine h4 (fun ⟨_, i, hi, hb⟩ => ?_)
          have : i = j := by
            by_cases h : i < j
            · exact absurd hi.2.1 (hj.2.2 i h)
            · by_cases h' : j < i
              · exact absurd hj.2.1 (hi.2.2 j h')
              · omega
          rw [this] at hb
          exact b hb
      · have h5 : ¬ (V 16 k = 112 ∧ ∃ j, first V k w j ∧ mts V k (V 19 (5 * k + j)) w' q) := fun ⟨_, i, hi, _⟩ => hj ⟨i, hi.1, hi.2.1⟩
        refine ⟨o3 R h3, ?_⟩
        show (¬ sI S (A 3 k) 6 = 112 → _) ∧ (sI S (A 3 k) 6 = 112 → _)
        rw [f3_6 R C h3, z_s]
        exact ⟨fun _ => h4 h5, fun _ => ⟨fun _ => h4 h5, fun hc => absurd rfl hc⟩⟩
theorem s_hangsAg (R : Rep S A V M) (C : CV V M) {w w' : Nat} {q : Int32} {f : Int32 → St → Prop} (hw : w < nW V) (hw' : w' < nW V) (h1 : hag V w w' q → f 1 S) (h0 : ¬ hag V w w' q → f 0 S) : w_X1_hangsAgainst S (A 2 0) (A 9 w) (A 9 w') q f := by
  unfold w_X1_hangsAgainst
  exact ⟨nE V + 1, l_hangsAg R C hw hw' h1 h0 _ 0 (Nat.zero_le _) (by omega) (fun j hj => absurd hj (by omega))⟩
theorem l_swh (R : Rep S A V M) (C : CV V M) {e : Nat} {f : Int32 → St → Prop} (he : e < nE V) (h1 : swh V e → f 1 S) (h0 : ¬ swh V e → f 0 S) : ∀ n k, k ≤ cn V e → cn V e < k + n → (∀ j, j < k → suits V (ic V e j) (V 19 (5 * e + j))) → wl_X1_standsWhereItHangs_2 f n S (A 3 e) (A 4 0) (z k) := by
  have hb := bC R he
  intro n
  induction n with
  | zero => intro k h1 h2; omega
  | succ n ih =>
    intro k k1 k2 hn
    unfold wl_X1_standsWhereItHangs_2
    refine ⟨o3 R he, _, p3_4 R he, o20 R he, s_size20 R he ?_⟩
    refine ⟨fun hc => ?_, fun hc => ?_⟩
    · have h3 := z_ex k1 (by omega) hc
      subst h3
      exact h1 hn
    · have h3 := z_go k1 (by omega) hc
      have hi := bI R he h3
      refine ⟨o3 R he, _, p3_4 R he, o20 R he, s_get20 R he h3 ?_⟩
      refine ⟨o9 R hi, o3 R he, _, p3_5 R he, s_numberAt (o22 R he) (n22 R he) (by omega) (by decide) ?_⟩
      rw [f22 R C he (by omega)]
      refine ⟨o4 R, s_suits R C hi (fun a => ?_) (fun a => ?_)⟩
      · refine ⟨fun _ => ?_, fun hc => absurd hc (by decide)⟩
        rw [z_s]
        refine ih (k + 1) (by omega) (by omega) (fun j hj => ?_)
        by_cases h : j = k
        · rw [h]; exact a
        · exact hn j (by omega)
      · exact ⟨fun hc => absurd rfl hc, fun _ => h0 (fun h => a (h k h3))⟩
theorem s_swh (R : Rep S A V M) (C : CV V M) {e a : Nat} {f : Int32 → St → Prop} (he : e < nE V) (h1 : swh V e → f 1 S) (h0 : ¬ swh V e → f 0 S) : w_X1_standsWhereItHangs S a (A 3 e) (A 4 0) f := by
  unfold w_X1_standsWhereItHangs
  exact ⟨cn V e + 1, l_swh R C he h1 h0 _ 0 (Nat.zero_le _) (by omega) (fun j hj => absurd hj (by omega))⟩
theorem l_kap (R : Rep S A V M) (C : CV V M) (K : KO V) {e : Nat} {f : Int32 → St → Prop} (he : e < nE V) (h1 : kap V e → f 1 S) (h0 : ¬ kap V e → f 0 S) : ∀ n k, k ≤ cn V e → cn V e < k + n → (∀ j, j < k → ¬ agn V e (ic V e j) (V 19 (5 * e + j))) → wl_X1_keepsApart_2 f n S (A 2 0) (A 3 e) (A 8 0) (z k) := by
  have hb := bC R he
  intro n
  induction n with
  | zero => intro k h1 h2; omega
  | succ n ih =>
    intro k k1 k2 hn
    unfold wl_X1_keepsApart_2
    refine ⟨o3 R he, _, p3_4 R he, o20 R he, s_size20 R he ?_⟩
    refine ⟨fun hc => ?_, fun hc => ?_⟩
    · have h3 := z_ex k1 (by omega) hc
      subst h3
      exact h1 hn
    · have h3 := z_go k1 (by omega) hc
      have hi := bI R he h3
      refine ⟨o3 R he, _, p3_4 R he, o20 R he, s_get20 R he h3 ?_⟩
      refine ⟨o9 R hi, o3 R he, _, p3_5 R he, s_numberAt (o22 R he) (n22 R he) (by omega) (by decide) ?_⟩
      rw [f22 R C he (by omega)]
      refine ⟨o2 R, s_isAgainst R C K he hi (fun a => ?_) (fun a => ?_)⟩
      · exact ⟨fun hc => absurd hc (by decide), fun _ => h0 (fun h => h k h3 a)⟩
      · refine ⟨fun _ => ?_, fun hc => absurd rfl hc⟩
        rw [z_s]
        refine ih (k + 1) (by omega) (by omega) (fun j hj => ?_)
        by_cases h : j = k
        · rw [h]; exact a
        · exact hn j (by omega)
theorem s_kap (R : Rep S A V M) (C : CV V M) (K : KO V) {e : Nat} {f : Int32 → St → Prop} (he : e < nE V) (h1 : kap V e → f 1 S) (h0 : ¬ kap V e → f 0 S) : w_X1_keepsApart S (A 2 0) (A 3 e) (A 8 0) f := by
  unfold w_X1_keepsApart
  exact ⟨cn V e + 1, l_kap R C K he h1 h0 _ 0 (Nat.zero_le _) (by omega) (fun j hj => absurd hj (by omega))⟩
theorem l_ahw (R : Rep S A V M) (C : CV V M) (K : KO V) {f : Int32 → St → Prop} (h1 : (∀ e, e < nE V → V 16 e = 112 → swh V e ∧ kap V e) → f 1 S) (h0 : (¬ ∀ e, e < nE V → V 16 e = 112 → swh V e ∧ kap V e) → f 0 S) : ∀ n k, k ≤ nE V → nE V < k + n → (∀ e, e < k → V 16 e = 112 → swh V e ∧ kap V e) → wl_X1_allHangWell_2 f n S (A 2 0) (A 4 0) (A 8 0) (z k) := by
  have hb := bE R
  intro n
  induction n with
  | zero => intro k h1 h2; omega
  | succ n ih =>
    intro k k1 k2 hn
    unfold wl_X1_allHangWell_2
    refine ⟨o2 R, _, p2_0 R, o0 R (by decide), s_size0 R (by decide) ?_⟩
    refine ⟨fun hc => ?_, fun hc => ?_⟩
    · have h3 := z_ex k1 (by omega) hc
      subst h3
      exact h1 hn
    · have h3 := z_go k1 (by omega) hc
      have h4 := fun (hk : V 16 k = 112 → swh V k ∧ kap V k) => ih (k + 1) (by omega) (by omega) (fun g hg => by
        by_cases h : g = k
        · rw [h]; exact hk
        · exact hn g (by omega))
      refine ⟨o2 R, _, p2_0 R, o0 R (by decide), s_get0 R (by decide) (show k < sz V 3 from h3) ?_⟩
      refine ⟨o3 R h3, ?_⟩
      show (¬ sI S (A 3 k) 6 = 112 → _) ∧ (sI S (A 3 k) 6 = 112 → _)
      rw [f3_6 R C h3, z_s]
      refine ⟨fun a => h4 (fun h => absurd h a), fun a => ⟨o2 R, s_swh R C h3 (fun b => ?_) (fun b => ?_)⟩⟩
      · refine ⟨fun hc => absurd hc (by decide), fun _ => ⟨o2 R, s_kap R C K h3 (fun c => ?_) (fun c => ?_)⟩⟩
        · exact ⟨fun _ => h4 (fun _ => ⟨b, c⟩), fun hc => absurd hc (by decide)⟩
        · exact ⟨fun hc => absurd rfl hc, fun _ => h0 (fun h => c (h k h3 a).2)⟩
      · exact ⟨fun _ => h0 (fun h => b (h k h3 a).1), fun hc => absurd rfl hc⟩
theorem s_ahw (R : Rep S A V M) (C : CV V M) (K : KO V) {f : Int32 → St → Prop} (h1 : (∀ e, e < nE V → V 16 e = 112 → swh V e ∧ kap V e) → f 1 S) (h0 : (¬ ∀ e, e < nE V → V 16 e = 112 → swh V e ∧ kap V e) → f 0 S) : w_X1_allHangWell S (A 2 0) (A 4 0) (A 8 0) f := by
  unfold w_X1_allHangWell
  exact ⟨nE V + 1, l_ahw R C K h1 h0 _ 0 (Nat.zero_le _) (by omega) (fun j hj => absurd hj (by omega))⟩
theorem l_ata (R : Rep S A V M) (C : CV V M) {e : Nat} {f : Int32 → St → Prop} (he : e < nE V) (h1 : ata V e → f 1 S) (h0 : ¬ ata V e → f 0 S) : ∀ n k, k ≤ cn V e → cn V e < k + n → (∀ j, j < k → takes V e (ic V e j)) → wl_X1_allowsTakingAll_2 f n S (A 2 0) (A 3 e) (z k) := by
  have hb := bC R he
  intro n
  induction n with
  | zero => intro k h1 h2; omega
  | succ n ih =>
    intro k k1 k2 hn
    unfold wl_X1_allowsTakingAll_2
    refine ⟨o3 R he, _, p3_4 R he, o20 R he, s_size20 R he ?_⟩
    refine ⟨fun hc => ?_, fun hc => ?_⟩
    · have h3 := z_ex k1 (by omega) hc
      subst h3
      exact h1 hn
    · have h3 := z_go k1 (by omega) hc
      have hi := bI R he h3
      refine ⟨o3 R he, _, p3_4 R he, o20 R he, s_get20 R he h3 ?_⟩
      refine ⟨o9 R hi, o2 R, s_allowsTaking R C he hi (fun a => ?_) (fun a => ?_)⟩
      · refine ⟨fun _ => ?_, fun hc => absurd hc (by decide)⟩
        rw [z_s]
        refine ih (k + 1) (by omega) (by omega) (fun j hj => ?_)
        by_cases h : j = k
        · rw [h]; exact a
        · exact hn j (by omega)
      · exact ⟨fun hc => absurd rfl hc, fun _ => h0 (fun h => a (h k h3))⟩
theorem s_ata (R : Rep S A V M) (C : CV V M) {e : Nat} {f : Int32 → St → Prop} (he : e < nE V) (h1 : ata V e → f 1 S) (h0 : ¬ ata V e → f 0 S) : w_X1_allowsTakingAll S (A 2 0) (A 3 e) f := by
  unfold w_X1_allowsTakingAll
  exact ⟨cn V e + 1, l_ata R C he h1 h0 _ 0 (Nat.zero_le _) (by omega) (fun j hj => absurd hj (by omega))⟩
theorem l_tkw (R : Rep S A V M) (C : CV V M) {f : Int32 → St → Prop} (h1 : (∀ e, e < nE V → V 16 e = 112 → ata V e) → f 1 S) (h0 : (¬ ∀ e, e < nE V → V 16 e = 112 → ata V e) → f 0 S) : ∀ n k, k ≤ nE V → nE V < k + n → (∀ e, e < k → V 16 e = 112 → ata V e) → wl_X1_takesWell_2 f n S (A 2 0) (z k) := by
  have hb := bE R
  intro n
  induction n with
  | zero => intro k h1 h2; omega
  | succ n ih =>
    intro k k1 k2 hn
    unfold wl_X1_takesWell_2
    refine ⟨o2 R, _, p2_0 R, o0 R (by decide), s_size0 R (by decide) ?_⟩
    refine ⟨fun hc => ?_, fun hc => ?_⟩
    · have h3 := z_ex k1 (by omega) hc
      subst h3
      exact h1 hn
    · have h3 := z_go k1 (by omega) hc
      have h4 := fun (hk : V 16 k = 112 → ata V k) => ih (k + 1) (by omega) (by omega) (fun g hg => by
        by_cases h : g = k
        · rw [h]; exact hk
        · exact hn g (by omega))
      refine ⟨o2 R, _, p2_0 R, o0 R (by decide), s_get0 R (by decide) (show k < sz V 3 from h3) ?_⟩
      refine ⟨o3 R h3, ?_⟩
      show (¬ sI S (A 3 k) 6 = 112 → _) ∧ (sI S (A 3 k) 6 = 112 → _)
      rw [f3_6 R C h3, z_s]
      refine ⟨fun a => h4 (fun h => absurd h a), fun a => ⟨o2 R, s_ata R C h3 (fun b => ?_) (fun b => ?_)⟩⟩
      · exact ⟨fun _ => h4 (fun _ => b), fun hc => absurd hc (by decide)⟩
      · exact ⟨fun hc => absurd rfl hc, fun _ => h0 (fun h => b (h k h3 a))⟩
theorem s_tkw (R : Rep S A V M) (C : CV V M) {f : Int32 → St → Prop} (h1 : (∀ e, e < nE V → V 16 e = 112 → ata V e) → f 1 S) (h0 : (¬ ∀ e, e < nE V → V 16 e = 112 → ata V e) → f 0 S) : w_X1_takesWell S (A 2 0) f := by
  unfold w_X1_takesWell
  exact ⟨nE V + 1, l_tkw R C h1 h0 _ 0 (Nat.zero_le _) (by omega) (fun j hj => absurd hj (by omega))⟩
def fit (V : VV) : Prop := ∀ w, w < 2 * nR V → ∀ d, d < 100 → tk V (z w) (z d) ≤ V 2 w
theorem l_fit2 (R : Rep S A V M) (C : CV V M) {w : Nat} {f : Int32 → St → Prop} {kk : St → Nat → Nat → Int32 → Prop} (hw : w < 2 * nR V) (h1 : (∀ d, d < 100 → tk V (z w) (z d) ≤ V 2 w) → kk S (A 2 0) (A 4 0) (z (w + 1))) (h0 : (¬ ∀ d, d < 100 → tk V (z w) (z d) ≤ V 2 w) → f 0 S) : ∀ n k, k ≤ 100 → 100 < k + n → (∀ d, d < k → tk V (z w) (z d) ≤ V 2 w) → wl_X1_fitsOn_12 f kk n S (A 2 0) (A 4 0) (z w) (z k) := by
  intro n
  induction n with
  | zero => intro k h1 h2; omega
  | succ n ih =>
    intro k k1 k2 hn
    unfold wl_X1_fitsOn_12
    refine ⟨fun hc => ?_, fun hc => ?_⟩
    · rw [show (99 : Int32) = z 99 from rfl, z_lt (by decide) (by omega)] at hc
      have h3 : k = 100 := by omega
      subst h3
      rw [z_s]
      exact h1 hn
    · rw [show (99 : Int32) = z 99 from rfl, z_lt (by decide) (by omega)] at hc
      refine ⟨o2 R, s_takenOn R C ⟨o4 R, s_lengthOf R C ?_⟩⟩
      rw [len_in hw (bR R)]
      refine ⟨fun a => ?_, fun a => h0 (fun h => a (h k (by omega)))⟩
      rw [z_s]
      refine ih (k + 1) (by omega) (by omega) (fun j hj => ?_)
      by_cases h : j = k
      · rw [h]; exact a
      · exact hn j (by omega)
theorem l_fit (R : Rep S A V M) (C : CV V M) {f : Int32 → St → Prop} (h1 : fit V → f 1 S) (h0 : ¬ fit V → f 0 S) : ∀ n k, k ≤ 2 * nR V → 2 * nR V < k + n → (∀ w, w < k → ∀ d, d < 100 → tk V (z w) (z d) ≤ V 2 w) → wl_X1_fitsOn_2 f n S (A 2 0) (A 4 0) (z k) := by
  have hb := bR R
  intro n
  induction n with
  | zero => intro k h1 h2; omega
  | succ n ih =>
    intro k k1 k2 hn
    unfold wl_X1_fitsOn_2
    refine ⟨o4 R, s_walls R ?_⟩
    refine ⟨fun hc => ?_, fun hc => ?_⟩
    · have h3 := z_ex k1 (by omega) hc
      subst h3
      exact h1 hn
    · have h3 := z_go k1 (by omega) hc
      refine ⟨101, l_fit2 R C h3 (fun a => ?_) (fun a => h0 (fun h => a (h k h3))) _ 0 (by decide) (by decide) (fun j hj => absurd hj (by omega))⟩
      refine ih (k + 1) (by omega) (by omega) (fun j hj => ?_)
      by_cases h : j = k
      · rw [h]; exact a
      · exact hn j (by omega)
theorem s_fit (R : Rep S A V M) (C : CV V M) {f : Int32 → St → Prop} (h1 : fit V → f 1 S) (h0 : ¬ fit V → f 0 S) : w_X1_fitsOn S (A 2 0) (A 4 0) f := by
  unfold w_X1_fitsOn
  exact ⟨2 * nR V + 1, l_fit R C h1 h0 _ 0 (Nat.zero_le _) (by omega) (fun j hj => absurd hj (by omega))⟩
def prs (V : VV) (n : Nat) : Int32 := su n (fun i => if V 12 i = 0 then 0 else 1)
theorem l_pairs (R : Rep S A V M) (C : CV V M) {f : Int32 → St → Prop} (hf : f (prs V 144 / 2) S) : ∀ n k, k ≤ 144 → 144 < k + n → wl_X7_pairs_4 f n S (A 8 0) (prs V k) (z k) := by
  intro n
  induction n with
  | zero => intro k h1 h2; omega
  | succ n ih =>
    intro k k1 k2
    unfold wl_X7_pairs_4
    refine ⟨o8 R, _, p8_0 R, o24 R, ?_⟩
    rw [n24 R]
    refine ⟨fun hc => ?_, fun hc => ?_⟩
    · have h3 := z_ex (n := 144) k1 (by decide) hc
      subst h3
      exact hf
    · have h3 := z_go (n := 144) k1 (by decide) hc
      have h4 := ih (k + 1) (by omega) (by omega)
      simp only [prs, su] at h4
      rw [z_c (by omega), f24 R C h3, z_s]
      refine ⟨z_vp h3 (by decide), fun a => ?_, fun a => ?_⟩
      · rw [if_pos a, Int32.add_zero] at h4
        exact h4
      · rw [if_neg a] at h4
        exact h4
theorem s_pairs (R : Rep S A V M) (C : CV V M) {f : Int32 → St → Prop} (hf : f (prs V 144 / 2) S) : w_X7_pairs S (A 8 0) f := by
  unfold w_X7_pairs
  exact ⟨145, l_pairs R C hf _ 0 (by decide) (by decide)⟩
theorem s_isFrom (R : Rep S A V M) (C : CV V M) {w l : Nat} {f : Int32 → St → Prop} (hw : w < nW V) (hl : l < nL V) (h1 : ow V w = some l → f 1 S) (h0 : ow V w ≠ some l → f 0 S) : w_X8_isFrom S (A 9 w) (A 5 l) f := by
  have hb := bL R
  unfold w_X8_isFrom
  rw [p9_6 R hw]
  refine ⟨o9 R hw, fun h => ?_, fun b h => ?_⟩
  · refine h0 (fun hl => ?_)
    rw [hl] at h
    cases h
  · cases e1 : ow V w with
    | none => rw [e1] at h; cases h
    | some j =>
      rw [e1] at h
      cases h
      have hj := bO R hw e1
      rw [f5_0 R C hj, f5_0 R C hl, z_eq (by omega) (by omega)]
      refine ⟨o5 R hj, o5 R hl, fun a => h0 (fun h => ?_), fun a => h1 ?_⟩
      · rw [e1] at h
        cases h
        exact a rfl
      · rw [e1, a]
end CD
