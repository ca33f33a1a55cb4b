/-! ===== means and shares ===== -/
section CM
variable {S : St} {A : Nat → Nat → Nat} {V : VV} {M : MM} {exc : String → St → Prop}
def pen (V : VV) : Nat := ns (nE V) (fun e => if V 16 e = 112 then 1 else 0)
def pwn (V : VV) : Nat := ns (nE V) (fun e => if V 16 e = 112 then cn V e else 0)
theorem pes_z (I : I1 V) : pes V = z (pen V) ∧ pen V ≤ 8 := by
  obtain ⟨_, _, _, _, _, _, _, hE⟩ := I
  constructor
  · refine su_z (fun e he => ?_)
    by_cases h : V 16 e = 112
    · rw [if_pos h, if_pos h]
      rfl
    · rw [if_neg h, if_neg h]
      rfl
  · refine Nat.le_trans (ns_bd (x := 1) (fun e he => ?_)) (by omega)
    split <;> omega
theorem pwk_z (I : I1 V) (J : I2 V) : pwk V = z (pwn V) ∧ pwn V ≤ 40 := by
  obtain ⟨_, _, _, _, _, _, _, hE⟩ := I
  constructor
  · refine su_z (fun e he => ?_)
    by_cases h : V 16 e = 112
    · rw [if_pos h, if_pos h]
    · rw [if_neg h, if_neg h]
      rfl
  · refine Nat.le_trans (ns_bd (x := 5) (fun e he => ?_)) (by omega)
    have := (J e he).2.1
    split <;> omega
def spMW (V : VV) (k : Nat) (r : UInt64) : Prop := (pes V = 0 ∧ k = 1) ∨ (pes V ≠ 0 ∧ k = 0 ∧ r = FP.ddiv (FP.i2d (pwk V)) (FP.i2d (pes V)))
theorem pes_pos (I : I1 V) (h : ¬ pes V = 0) : 0 < pen V := by
  refine Nat.pos_of_ne_zero (fun e => h ?_)
  rw [(pes_z I).1, e]
  rfl
theorem mw_ok (I : I1 V) (J : I2 V) (h : ¬ pes V = 0) : vf_n64 (FP.ddiv (FP.i2d (pwk V)) (FP.i2d (pes V))) := by
  rw [(pes_z I).1, (pwk_z I J).1]
  exact mean_ok (pwk_z I J).2 (pes_z I).2 (pes_pos I h)
theorem s_meanWorks (R : Rep S A V M) (C : CV V M) (I : I1 V) (J : I2 V) {g : UInt64 → St → Prop} (hf : ∀ r, spMW V 0 r → vf_n64 r → g r S) (h1 : spMW V 1 0 → exc "java/lang/ArithmeticException" S) : w_X9_meanWorks S (A 10 0) g exc := by
  unfold w_X9_meanWorks
  refine ⟨o10 R, _, p10_4 R, o2 R, s_plannedExhibitions R C ⟨fun h => ?_, fun h => h1 (Or.inl ⟨h, rfl⟩)⟩⟩
  exact ⟨o10 R, _, p10_4 R, o2 R, s_plannedWorks R C ⟨mw_ok I J h, hf _ (Or.inr ⟨h, rfl, rfl⟩) (mw_ok I J h)⟩⟩
def shr (V : VV) (x y : Int32) : UInt32 := if len V x ≤ 0 then 0 else FP.fdiv (FP.i2f (tk V x y)) (FP.i2f (len V x))
theorem len_z (I : I1 V) (Q : I4 V) {x : Int32} (hx : ix (2 * nR V) x) : ∃ n, len V x = z n ∧ 0 < n ∧ n ≤ 400 := by
  obtain ⟨_, _, _, _, hR, _, _, _⟩ := I
  obtain ⟨i, hi, rfl⟩ := hx
  refine ⟨(V 2 i).toNatClampNeg, ?_⟩
  obtain ⟨a, b, c⟩ := inr_nat (a := 1) (b := 400) (by decide) (Q.2.1 i hi) (by decide)
  have e : len V (z i) = V 2 i := by
    unfold len
    have h1 : ¬ (z i < 0 ∨ z (2 * nR V) ≤ z i) := by
      rintro (h | h)
      · have := z_nn (show i < 2147483648 by omega)
        exact absurd h (Int32.not_lt.mpr this)
      · have := (z_le (by omega) (by omega)).1 h
        omega
    rw [if_neg h1, z_c (by omega)]
  rw [e]
  exact ⟨a, b, c⟩
theorem shr_ok (I : I1 V) (J : I2 V) (Q : I4 V) {x y : Int32} (hx : ix (2 * nR V) x) : vf_n32 (shr V x y) := by
  obtain ⟨n, h1, h2, h3⟩ := len_z I Q hx
  unfold shr
  split
  · unfold vf_n32
    decide
  · rw [h1, (tk_z I J Q).1]
    exact share_ok (tk_z I J Q).2 (by omega) h2
theorem s_share (R : Rep S A V M) (C : CV V M) (I : I1 V) (J : I2 V) (Q : I4 V) {x y : Int32} {g : UInt32 → St → Prop} (hf : spU V x y 0 → vf_n32 (shr V x y) → g (shr V x y) S) (h1 : spU V x y 1 → exc "java/lang/IndexOutOfBoundsException" S) (h2 : spU V x y 2 → exc "java/lang/IllegalArgumentException" S) : w_X9_share S (A 10 0) x y g exc := by
  unfold w_X9_share
  refine ⟨o10 R, s_refuse R (fun h => ⟨o10 R, _, p10_0 R, o4 R, s_lengthOf R C ?_⟩) h1 h2⟩
  have hx : ix (2 * nR V) x := by
    rcases h with ⟨_, h⟩ | ⟨_, _, h⟩ | ⟨h, _, _⟩
    · exact absurd h (by decide)
    · exact absurd h (by decide)
    · exact h
  have hv := shr_ok (y := y) I J Q hx
  have hg := hf h hv
  unfold shr at hv hg
  refine ⟨fun hc => ?_, fun hc => ⟨o10 R, _, p10_4 R, o2 R, s_takenOn R C ?_⟩⟩
  · rw [if_pos hc] at hg
    exact hg
  · rw [if_neg hc] at hg hv
    exact ⟨hv, hg⟩
end CM
