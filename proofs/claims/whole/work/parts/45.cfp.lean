/-! ===== no NaN comes ===== -/
def fpok (f : FP.Core.Fmt) : FP.Core.Datum → Prop
  | .nan => False
  | .inf _ => True
  | .fin _ c q => c < 2 ^ f.p ∧ f.qmin ≤ q ∧ q ≤ f.qmax
theorem fp_bound {f : FP.Core.Fmt} {s : Bool} {c : Nat} {q : Int} (hc : c < 2 ^ f.p) (hq : f.qmin ≤ q) : fpok f (FP.Core.bound f s c q) := by
  unfold FP.Core.bound
  split
  · next h => exact ⟨hc, hq, h⟩
  · trivial
theorem fp_ratio {f : FP.Core.Fmt} {s : Bool} {n d : Nat} {e : Int} (hp : 1 ≤ f.p) (hm : f.qmin ≤ f.qmax) : fpok f (FP.Core.roundRatio f s n d e) := by
  unfold FP.Core.roundRatio
  split
  · exact ⟨Nat.pow_pos (by decide), Int.le_refl _, hm⟩
  · unfold FP.Core.roundAt FP.Core.settle
    have hq : f.qmin ≤ FP.Core.quantum f n d e := by unfold FP.Core.quantum; exact Int.le_max_left _ _
    split
    · next h => exact fp_bound h hq
    · refine fp_bound ?_ (Int.le_trans hq (by omega))
      unfold FP.Core.Fmt.tails
      exact Nat.pow_lt_pow_right (by decide) (by omega)
theorem vf32_of {n r : Nat} {b : Bool} (hn : n = b.toNat * 2147483648 + r) (hr : r ≤ 2139095040) : vf_n32 (UInt32.ofNat n) := by
  unfold vf_n32
  rw [UInt32.le_iff_toNat_le, UInt32.toNat_and, UInt32.toNat_ofNat']
  show n % 2 ^ 32 &&& (2 ^ 31 - 1) ≤ 2139095040
  rw [Nat.and_two_pow_sub_one_eq_mod]
  cases b <;> simp only [Bool.toNat_false, Bool.toNat_true] at hn <;> omega
theorem vf64_of {n r : Nat} {b : Bool} (hn : n = b.toNat * 9223372036854775808 + r) (hr : r ≤ 9218868437227405312) : vf_n64 (UInt64.ofNat n) := by
  unfold vf_n64
  rw [UInt64.le_iff_toNat_le, UInt64.toNat_and, UInt64.toNat_ofNat']
  show n % 2 ^ 64 &&& (2 ^ 63 - 1) ≤ 9218868437227405312
  rw [Nat.and_two_pow_sub_one_eq_mod]
  cases b <;> simp only [Bool.toNat_false, Bool.toNat_true] at hn <;> omega
theorem fp_b32 {d : FP.Core.Datum} (h : fpok FP.Core.b32 d) : vf_n32 (UInt32.ofNat (FP.Core.encode FP.Core.b32 d)) := by
  cases d with
  | nan => exact h.elim
  | inf s => cases s <;> (unfold vf_n32; decide +kernel)
  | fin s c q =>
    obtain ⟨h1, h2, h3⟩ := h
    have e1 : FP.Core.b32.tails = 8388608 := by decide
    have e2 : FP.Core.b32.exps = 256 := by decide
    have e3 : FP.Core.b32.qmin = -149 := by decide
    have e4 : FP.Core.b32.qmax = 104 := by decide
    have e5 : (2 : Nat) ^ FP.Core.b32.p = 16777216 := by decide
    rw [e5] at h1
    rw [e3] at h2
    rw [e4] at h3
    show vf_n32 (UInt32.ofNat (if c < FP.Core.b32.tails then FP.Core.assemble FP.Core.b32 s 0 c else FP.Core.assemble FP.Core.b32 s ((q - FP.Core.b32.qmin).toNat + 1) (c - FP.Core.b32.tails)))
    split
    · next hc =>
      rw [e1] at hc
      refine vf32_of (b := s) (r := c) ?_ (by omega)
      unfold FP.Core.assemble
      rw [e1, e2]
      cases s <;> simp only [Bool.toNat_false, Bool.toNat_true] <;> omega
    · next hc =>
      rw [e1] at hc
      refine vf32_of (b := s) (r := ((q - -149).toNat + 1) * 8388608 + (c - 8388608)) ?_ (by omega)
      unfold FP.Core.assemble
      rw [e1, e2, e3]
      cases s <;> simp only [Bool.toNat_false, Bool.toNat_true] <;> omega
theorem fp_b64 {d : FP.Core.Datum} (h : fpok FP.Core.b64 d) : vf_n64 (UInt64.ofNat (FP.Core.encode FP.Core.b64 d)) := by
  cases d with
  | nan => exact h.elim
  | inf s => cases s <;> (unfold vf_n64; decide +kernel)
  | fin s c q =>
    obtain ⟨h1, h2, h3⟩ := h
    have e1 : FP.Core.b64.tails = 4503599627370496 := by decide +kernel
    have e2 : FP.Core.b64.exps = 2048 := by decide +kernel
    have e3 : FP.Core.b64.qmin = -1074 := by decide +kernel
    have e4 : FP.Core.b64.qmax = 971 := by decide +kernel
    have e5 : (2 : Nat) ^ FP.Core.b64.p = 9007199254740992 := by decide +kernel
    rw [e5] at h1
    rw [e3] at h2
    rw [e4] at h3
    show vf_n64 (UInt64.ofNat (if c < FP.Core.b64.tails then FP.Core.assemble FP.Core.b64 s 0 c else FP.Core.assemble FP.Core.b64 s ((q - FP.Core.b64.qmin).toNat + 1) (c - FP.Core.b64.tails)))
    split
    · next hc =>
      rw [e1] at hc
      refine vf64_of (b := s) (r := c) ?_ (by omega)
      unfold FP.Core.assemble
      rw [e1, e2]
      cases s <;> simp only [Bool.toNat_false, Bool.toNat_true] <;> omega
    · next hc =>
      rw [e1] at hc
      refine vf64_of (b := s) (r := ((q - -1074).toNat + 1) * 4503599627370496 + (c - 4503599627370496)) ?_ (by omega)
      unfold FP.Core.assemble
      rw [e1, e2, e3]
      cases s <;> simp only [Bool.toNat_false, Bool.toNat_true] <;> omega
theorem fp_dec {x : UInt32} (h : vf_n32 x) : FP.Core.decode FP.Core.b32 x.toNat ≠ .nan := by
  unfold vf_n32 at h
  rw [UInt32.le_iff_toNat_le, UInt32.toNat_and] at h
  have h2 : x.toNat &&& (2 ^ 31 - 1) ≤ 2139095040 := h
  rw [Nat.and_two_pow_sub_one_eq_mod] at h2
  have e1 : FP.Core.b32.tails = 8388608 := by decide
  have e2 : FP.Core.b32.exps = 256 := by decide
  intro hd
  unfold FP.Core.decode FP.Core.fieldE FP.Core.fieldT at hd
  rw [e1, e2] at hd
  split at hd
  · next ha =>
    split at hd
    · cases hd
    · next hb => omega
  · split at hd <;> cases hd
/-- a small number as a float -/
def fx (t : Nat) : Bool := match FP.Core.decode FP.Core.b32 (FP.i2f (z t)).toNat with
  | .fin _ c _ => decide (t = 0 ∨ c ≠ 0)
  | _ => false
theorem fx_all : ∀ i : Fin 101, ∀ j : Fin 100, fx (100 * i.val + j.val) = true := by decide +kernel
theorem fx_ok {t : Nat} (h : t ≤ 10000) : fx t = true := by
  have := fx_all ⟨t / 100, by omega⟩ ⟨t % 100, by omega⟩
  rw [show 100 * (t / 100) + t % 100 = t by omega] at this
  exact this
theorem share_ok {t n : Nat} (ht : t ≤ 10000) (hn : n ≤ 10000) (h0 : 0 < n) : vf_n32 (FP.fdiv (FP.i2f (z t)) (FP.i2f (z n))) := by
  have a := fx_ok ht
  have b := fx_ok hn
  unfold fx at a b
  show vf_n32 (UInt32.ofNat (FP.Core.encode FP.Core.b32 (FP.Core.quotient FP.Core.b32 (FP.Core.decode FP.Core.b32 (FP.i2f (z t)).toNat) (FP.Core.decode FP.Core.b32 (FP.i2f (z n)).toNat))))
  refine fp_b32 ?_
  cases ea : FP.Core.decode FP.Core.b32 (FP.i2f (z t)).toNat with
  | nan => rw [ea] at a; cases a
  | inf s => rw [ea] at a; cases a
  | fin s c q =>
    cases eb : FP.Core.decode FP.Core.b32 (FP.i2f (z n)).toNat with
    | nan => rw [eb] at b; cases b
    | inf s => rw [eb] at b; cases b
    | fin s' c' q' =>
      rw [eb] at b
      have hb : n = 0 ∨ c' ≠ 0 := of_decide_eq_true b
      unfold FP.Core.quotient
      dsimp only
      rw [if_neg (by omega)]
      exact fp_ratio (by decide) (by decide)
theorem f2d_ok {x : UInt32} (h : vf_n32 x) : vf_n64 (FP.f2d x) := by
  have hd := fp_dec h
  have hnn : ¬ FP.Core.fIsNaN x = true := fun e => hd (of_decide_eq_true e)
  unfold FP.f2d
  rw [if_neg hnn]
  show vf_n64 (UInt64.ofNat (FP.Core.encode FP.Core.b64 (FP.Core.round FP.Core.b64 (FP.Core.decode FP.Core.b32 x.toNat))))
  refine fp_b64 ?_
  cases ea : FP.Core.decode FP.Core.b32 x.toNat with
  | nan => exact absurd ea hd
  | inf s => trivial
  | fin s c q =>
    show fpok FP.Core.b64 (FP.Core.roundRatio FP.Core.b64 s c 1 q)
    exact fp_ratio (by decide +kernel) (by decide +kernel)
theorem mean_all : ∀ a : Fin 41, ∀ b : Fin 9, 0 < b.val → FP.ddiv (FP.i2d (z a.val)) (FP.i2d (z b.val)) &&& 0x7fffffffffffffff ≤ 0x7ff0000000000000 := by decide +kernel
theorem mean_ok {a b : Nat} (ha : a ≤ 40) (hb : b ≤ 8) (h0 : 0 < b) : vf_n64 (FP.ddiv (FP.i2d (z a)) (FP.i2d (z b))) := mean_all ⟨a, by omega⟩ ⟨b, by omega⟩ h0
