/-! ===== rows of the law's own: its script, its switch ===== -/
/-- the law's script lies outside of what is made: L ints at b -/
def scr (X : XE) (b L : Nat) (xs : Nat → Int32) : Prop :=
  match X with
  | (_, _, _, _, s, _, _, _, _, _, A, _, _) => va_X b L xs s s.heap ∧ b < s.heap.size ∧ ¬ A b
section HR
variable {X : XE} {own nm : String} {cc : ByteArray} {nL : Nat} {ret : Option FieldType} {rm : Room} {tab : List (Nat × Nat × Nat × Nat)} {cells slots : Nat} {S : St} {pc : Nat} {vs : List (Nat × Value)} {st : List Value}
theorem r_sld (h : cy X own nm cc nL ret rm tab) {b L : Nat} {xs : Nat → Int32} (hsc : scr X b L xs) {i : Int32} (hin : vp_in i L) (hd : decode cc pc = .ok (.iaload, 1)) (kk : pw X cells slots S (pc + 1) vs (.int (xs i.toNatClampNeg) :: st)) : pw X cells slots S pc vs (.int i :: .ref b :: st) := by
  obtain ⟨p, l, e, R, s, m, args, below, meth, c, A, G, Q⟩ := X
  obtain ⟨hx, hb, hr, hml, hown, hts, hlk, hR, htab, hK, hA, hsx, htx, hstk, hnm⟩ := h
  obtain ⟨h1, h2, h3⟩ := hsc
  intro H locs ls hl hP hD hS
  exact va_sld hx hb h1 h2 h3 hS hin hd (kk H locs ls hl hP hD hS)
theorem r_slen (h : cy X own nm cc nL ret rm tab) {b L : Nat} {xs : Nat → Int32} (hsc : scr X b L xs) (hd : decode cc pc = .ok (.arraylength, 1)) (kk : pw X cells slots S (pc + 1) vs (.int (Int32.ofNat L) :: st)) : pw X cells slots S pc vs (.ref b :: st) := by
  obtain ⟨p, l, e, R, s, m, args, below, meth, c, A, G, Q⟩ := X
  obtain ⟨hx, hb, hr, hml, hown, hts, hlk, hR, htab, hK, hA, hsx, htx, hstk, hnm⟩ := h
  obtain ⟨h1, h2, h3⟩ := hsc
  intro H locs ls hl hP hD hS
  exact va_slen hx hb h1 h2 h3 hS hd (kk H locs ls hl hP hD hS)
theorem r_tabIn (h : cy X own nm cc nL ret rm tab) {dflt lo hi : Int} {offs : Array Int} {len : Nat} {x : Int32} (off : Int) (tgt : Nat) (hd : decode cc pc = .ok (.tableswitch dflt lo hi offs, len)) (h1 : ¬ x.toInt < lo) (h2 : ¬ hi < x.toInt) (ho : offs[(x.toInt - lo).toNat]? = some off) (ht : (pc : Int) + off = (tgt : Int)) (kk : pw X cells slots S tgt vs st) : pw X cells slots S pc vs (.int x :: st) := by
  obtain ⟨p, l, e, R, s, m, args, below, meth, c, A, G, Q⟩ := X
  obtain ⟨hx, hb, hr, hml, hown, hts, hlk, hR, htab, hK, hA, hsx, htx, hstk, hnm⟩ := h
  intro H locs ls hl hP hD hS
  exact lv_tableIn hx hb hd h1 h2 ho ht (kk H locs ls hl hP hD hS)
theorem r_tabOut (h : cy X own nm cc nL ret rm tab) {dflt lo hi : Int} {offs : Array Int} {len : Nat} {x : Int32} (tgt : Nat) (hd : decode cc pc = .ok (.tableswitch dflt lo hi offs, len)) (ho : x.toInt < lo ∨ hi < x.toInt) (ht : (pc : Int) + dflt = (tgt : Int)) (kk : pw X cells slots S tgt vs st) : pw X cells slots S pc vs (.int x :: st) := by
  obtain ⟨p, l, e, R, s, m, args, below, meth, c, A, G, Q⟩ := X
  obtain ⟨hx, hb, hr, hml, hown, hts, hlk, hR, htab, hK, hA, hsx, htx, hstk, hnm⟩ := h
  intro H locs ls hl hP hD hS
  exact lv_tableOut hx hb hd ho ht (kk H locs ls hl hP hD hS)
end HR
/-! no difference between what is the same -/
theorem lg_same (x : Int64) : lg_cmp x x = 0 := by
  unfold lg_cmp
  rw [if_neg (show ¬ x > x from Int64.lt_irrefl), if_pos rfl]
theorem fp_dec64 {x : UInt64} (h : vf_n64 x) : FP.Core.decode FP.Core.b64 x.toNat ≠ .nan := by
  unfold vf_n64 at h
  rw [UInt64.le_iff_toNat_le, UInt64.toNat_and] at h
  have h2 : x.toNat &&& (2 ^ 63 - 1) ≤ 9218868437227405312 := h
  rw [Nat.and_two_pow_sub_one_eq_mod] at h2
  have e1 : FP.Core.b64.tails = 4503599627370496 := by decide +kernel
  have e2 : FP.Core.b64.exps = 2048 := by decide +kernel
  intro hd
  unfold FP.Core.decode FP.Core.fieldE FP.Core.fieldT at hd
  rw [e1, e2] at hd
  split at hd
  · next ha =>
    split at hd
    · cases hd
    · next hb => omega
  · split at hd <;> cases hd
theorem cmp_same (a : Int) : compare a a = .eq := by
  show compareOfLessAndEq a a = .eq
  unfold compareOfLessAndEq
  rw [if_neg (Int.lt_irrefl a), if_pos rfl]
theorem order_same {d : FP.Core.Datum} (h : d ≠ .nan) : FP.Core.order d d = some .eq := by
  cases d with
  | nan => exact absurd rfl h
  | inf s =>
    show some (compare (FP.Core.signed s 1) (FP.Core.signed s 1)) = _
    rw [cmp_same]
  | fin s c q =>
    show some (compare (FP.Core.signed s (FP.Core.inUnits c q (min q q))) (FP.Core.signed s (FP.Core.inUnits c q (min q q)))) = _
    rw [cmp_same]
theorem dcmp_same {x : UInt64} (h : vf_n64 x) : Op.cmpValue (FP.dcmp x x) .l = 0 := by
  have e : FP.dcmp x x = some .eq := order_same (fp_dec64 h)
  rw [e]
  rfl
