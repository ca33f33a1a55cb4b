/-! ===== small numbers ===== -/
def z (n : Nat) : Int32 := Int32.ofNat n
theorem z_i {n : Nat} (h : n < 2147483648) : (z n).toInt = n := Int32.toInt_ofNat_of_lt (by omega)
theorem z_c {n : Nat} (h : n < 2147483648) : (z n).toNatClampNeg = n := Int32.toNatClampNeg_ofNat_of_lt (by omega)
theorem z_le {a b : Nat} (ha : a < 2147483648) (hb : b < 2147483648) : z a ≤ z b ↔ a ≤ b := Int32.ofNat_le_iff_le (by omega) (by omega)
theorem z_lt {a b : Nat} (ha : a < 2147483648) (hb : b < 2147483648) : z a < z b ↔ a < b := Int32.ofNat_lt_iff_lt (by omega) (by omega)
theorem z_eq {a b : Nat} (ha : a < 2147483648) (hb : b < 2147483648) : z a = z b ↔ a = b := by
  constructor
  · intro h
    have h2 := congrArg Int32.toInt h
    rw [z_i ha, z_i hb] at h2
    omega
  · intro h
    rw [h]
theorem z_add (a b : Nat) : z a + z b = z (a + b) := (Int32.ofNat_add a b).symm
theorem z_mul (a b : Nat) : z a * z b = z (a * b) := (Int32.ofNat_mul a b).symm
theorem z_s (n : Nat) : z n + 1 = z (n + 1) := z_add n 1
theorem z_neg {n : Nat} (h : n < 2147483648) : ¬ z n < 0 := by
  rw [show (0 : Int32) = z 0 from rfl, z_lt h (by decide)]
  omega
theorem z_nn {n : Nat} (h : n < 2147483648) : 0 ≤ z n := by
  rw [show (0 : Int32) = z 0 from rfl, z_le (by decide) h]
  omega
theorem z_vp {i n : Nat} (h : i < n) (hn : n < 2147483648) : vp_in (z i) n := by
  unfold vp_in
  rw [z_c (by omega)]
  intro hc
  rcases hc with hc | hc
  · exact z_neg (by omega) hc
  · omega
theorem z_ex {n k : Nat} (h1 : k ≤ n) (hn : n < 2147483648) (hc : z n ≤ z k) : k = n := by
  rw [z_le hn (by omega)] at hc
  omega
theorem z_go {n k : Nat} (h1 : k ≤ n) (hn : n < 2147483648) (hc : ¬ z n ≤ z k) : k < n := by
  rw [z_le hn (by omega)] at hc
  omega
theorem z_of {x : Int32} (h : 0 ≤ x) : z x.toNatClampNeg = x := Int32.ofNat_toNatClampNeg x h
theorem i_of {x : Int32} (h : 0 ≤ x) : x.toInt = x.toNatClampNeg := Int32.toInt_eq_toNatClampNeg h
def su : Nat → (Nat → Int32) → Int32
  | 0, _ => 0
  | n + 1, f => su n f + f n
theorem su_c {n : Nat} {f g : Nat → Int32} (h : ∀ i, i < n → f i = g i) : su n f = su n g := by
  induction n with
  | zero => rfl
  | succ n ih =>
    unfold su
    rw [ih (fun i hi => h i (by omega)), h n (by omega)]
theorem upd_s (f : Nat → Int32) (k : Nat) (v : Int32) : upd f k v k = v := if_pos rfl
theorem upd_n (f : Nat → Int32) {k j : Nat} (v : Int32) (h : j ≠ k) : upd f k v j = f j := if_neg h
theorem upd_ap (f : Nat → Int32) (k j : Nat) (v : Int32) : upd f k v j = if j = k then v else f j := rfl
/-! ===== the joint memory: labels (tag, index), contents by field ===== -/
abbrev VV : Type := Nat → Nat → Int32
abbrev MM : Type := Nat → Nat → Nat → Int32
def up2 (V : VV) (k i : Nat) (v : Int32) : VV := fun k' => if k' = k then upd (V k) i v else V k'
def up3 (M : MM) (t i k : Nat) (v : Int32) : MM := fun t' i' => if t' = t ∧ i' = i then upd (M t i) k v else M t' i'
theorem up2_s (V : VV) (k i : Nat) (v : Int32) : up2 V k i v k = upd (V k) i v := if_pos rfl
theorem up2_n (V : VV) {k k' i : Nat} (v : Int32) (h : k' ≠ k) : up2 V k i v k' = V k' := if_neg h
theorem up3_s (M : MM) (t i k : Nat) (v : Int32) : up3 M t i k v t i = upd (M t i) k v := if_pos ⟨rfl, rfl⟩
theorem up3_t (M : MM) {t t' i k : Nat} (v : Int32) (h : t' ≠ t) : up3 M t i k v t' = M t' := by
  funext i'
  exact if_neg (fun e => h e.1)
theorem up3_i (M : MM) {t t' i i' k : Nat} (v : Int32) (h : i' ≠ i) : up3 M t i k v t' i' = M t' i' := if_neg (fun e => h e.2)
def nR (V : VV) : Nat := (V 24 0).toNatClampNeg
def nL (V : VV) : Nat := (V 25 0).toNatClampNeg
def nW (V : VV) : Nat := (V 26 0).toNatClampNeg
def nE (V : VV) : Nat := (V 27 0).toNatClampNeg
def cn (V : VV) (e : Nat) : Nat := (V 17 e).toNatClampNeg
def ic (V : VV) (e k : Nat) : Nat := (V 18 (5 * e + k)).toNatClampNeg
def ow (V : VV) (w : Nat) : Option Nat := if V 11 w < 0 then none else some (V 11 w).toNatClampNeg
def sz (V : VV) (i : Nat) : Nat := if i = 0 then nR V else if i = 1 then nL V else if i = 2 then nW V else nE V
def el (i : Nat) : Nat := if i = 0 then 7 else if i = 1 then 5 else if i = 2 then 9 else 3
def us (V : VV) (t i : Nat) : Prop :=
  if t = 0 then i < 4 else if t = 1 then i = 0 else if t = 2 then i = 0 else if t = 4 then i = 0 else if t = 6 then i = 0 else if t = 8 then i = 0 else if t = 10 then i = 0 else if t = 11 then i = 0 else if t = 24 then i = 0
  else if t = 3 then i < nE V else if t = 5 then i < nL V else if t = 7 then i < nR V else if t = 9 then i < nW V
  else if t = 20 then i < nE V else if t = 21 then i < nE V ∧ 0 < cn V i else if t = 22 then i < nE V else if t = 23 then i < 4 ∧ 0 < sz V i
  else if t = 25 then i < 5 else if t = 26 then i < 3 else if t = 27 then i < 23 else if t = 28 then (i = 0 ∧ i = 1) else if t = 29 then i = 0 else if t = 30 then i = 0 else False
def kd (t : Nat) : Nat := if t < 12 then t else if t = 20 then 0 else if t = 21 then 102 else if t = 23 then 102 else if t = 24 then 100 else if t = 29 then 103 else if t = 30 then 104 else 101
def ml (k : Nat) : Nat := if k < 2 then 4 else if k = 2 then 8 else if k < 6 then 4 else if k < 12 then 12 else if k = 12 then 144 else if k < 18 then 8 else if k < 20 then 40 else if k < 22 then 5 else 32
def cp (n : Nat) : Nat := if n ≤ 10 then 10 else 15
def nn (V : VV) (t i : Nat) : Nat := if t = 21 then 10 else if t = 22 then 5 else if t = 23 then cp (sz V i) else if t = 24 then 144 else if t = 25 then (if i = 0 then 8 else if i = 3 then 40 else if i = 4 then 25 else 5) else if t = 26 then (if i = 2 then 32 else 5) else if t = 29 then 1 else if t = 30 then 1 else ml i
def pt (T : Nat) (A : Nat → Nat → Nat) (V : VV) (t i k : Nat) : Option Nat :=
  if t = 0 then (if k = 1 then some (if sz V i = 0 then T else A 23 i) else none)
  else if t = 20 then (if k = 1 then some (if cn V i = 0 then T else A 21 i) else none)
  else if t = 23 then (if k < sz V i then some (A (el i) k) else none)
  else if t = 21 then (if k < cn V i then some (A 9 (ic V i k)) else none)
  else if t = 9 then (if k = 6 then (ow V i).map (A 5) else none)
  else if t = 3 then (if k = 4 then some (A 20 i) else if k = 5 then some (A 22 i) else none)
  else if t = 4 then (if k = 0 then some (A 0 0) else none)
  else if t = 2 then (if k = 0 then some (A 0 3) else none)
  else if t = 8 then (if k = 0 then some (A 24 0) else none)
  else if t = 10 then (if k = 0 then some (A 4 0) else if k = 1 then some (A 0 1) else if k = 2 then some (A 0 2) else if k = 3 then some (A 8 0) else if k = 4 then some (A 2 0) else if k = 5 then some (A 1 0) else if k = 6 then some (A 6 0) else none)
  else if t = 1 then (if k = 2 then some (A 25 0) else if k = 3 then some (A 25 1) else if k = 4 then some (A 25 2) else if k = 5 then some (A 25 3) else if k = 6 then some (A 25 4) else none)
  else if t = 6 then (if k = 2 then some (A 26 0) else if k = 3 then some (A 26 1) else if k = 4 then some (A 26 2) else none)
  else if t = 11 then (if k < 23 then some (A 27 k) else none)
  else none
def Rep (S : St) (A : Nat → Nat → Nat) (V : VV) (M : MM) : Prop :=
  (∀ t i, us V t i → ok S (A t i) (kd t)) ∧ (∀ t i, us V t i → sI S (A t i) = M t i) ∧ (∀ t i, us V t i → sP S (A t i) = pt (sT S) A V t i) ∧
  (∀ t i, us V t i → 20 < t → sN S (A t i) = if t = 28 then A 40 0 else nn V t i) ∧ (∀ t i t' i', us V t i → us V t' i' → A t i = A t' i' → t = t' ∧ i = i') ∧
  (∀ i, i < 4 → M 0 i 2 = z (sz V i) ∧ sz V i ≤ 12) ∧ (∀ e, e < nE V → M 20 e 2 = z (cn V e) ∧ cn V e ≤ 5 ∧ ∀ k, k < cn V e → ic V e k < nW V) ∧ (∀ w l, w < nW V → ow V w = some l → l < nL V)
section RA
variable {S : St} {A : Nat → Nat → Nat} {V : VV} {M : MM}
theorem o0 (R : Rep S A V M) {i : Nat} (h : i < 4) : ok S (A 0 i) 0 := R.1 0 i h
theorem i0 (R : Rep S A V M) {i : Nat} (h : i < 4) : sI S (A 0 i) = M 0 i := R.2.1 0 i h
theorem o1 (R : Rep S A V M)  : ok S (A 1 0) 1 := R.1 1 0 rfl
theorem i1 (R : Rep S A V M)  : sI S (A 1 0) = M 1 0 := R.2.1 1 0 rfl
theorem p1_2 (R : Rep S A V M)  : sP S (A 1 0) 2 = some (A 25 0) := by rw [R.2.2.1 1 0 rfl]; rfl
theorem p1_3 (R : Rep S A V M)  : sP S (A 1 0) 3 = some (A 25 1) := by rw [R.2.2.1 1 0 rfl]; rfl
theorem p1_4 (R : Rep S A V M)  : sP S (A 1 0) 4 = some (A 25 2) := by rw [R.2.2.1 1 0 rfl]; rfl
theorem p1_5 (R : Rep S A V M)  : sP S (A 1 0) 5 = some (A 25 3) := by rw [R.2.2.1 1 0 rfl]; rfl
theorem p1_6 (R : Rep S A V M)  : sP S (A 1 0) 6 = some (A 25 4) := by rw [R.2.2.1 1 0 rfl]; rfl
theorem o2 (R : Rep S A V M)  : ok S (A 2 0) 2 := R.1 2 0 rfl
theorem i2 (R : Rep S A V M)  : sI S (A 2 0) = M 2 0 := R.2.1 2 0 rfl
theorem p2_0 (R : Rep S A V M)  : sP S (A 2 0) 0 = some (A 0 3) := by rw [R.2.2.1 2 0 rfl]; rfl
theorem o3 (R : Rep S A V M) {i : Nat} (h : i < nE V) : ok S (A 3 i) 3 := R.1 3 i h
theorem i3 (R : Rep S A V M) {i : Nat} (h : i < nE V) : sI S (A 3 i) = M 3 i := R.2.1 3 i h
theorem p3_4 (R : Rep S A V M) {i : Nat} (h : i < nE V) : sP S (A 3 i) 4 = some (A 20 i) := by rw [R.2.2.1 3 i h]; rfl
theorem p3_5 (R : Rep S A V M) {i : Nat} (h : i < nE V) : sP S (A 3 i) 5 = some (A 22 i) := by rw [R.2.2.1 3 i h]; rfl
theorem o4 (R : Rep S A V M)  : ok S (A 4 0) 4 := R.1 4 0 rfl
theorem i4 (R : Rep S A V M)  : sI S (A 4 0) = M 4 0 := R.2.1 4 0 rfl
theorem p4_0 (R : Rep S A V M)  : sP S (A 4 0) 0 = some (A 0 0) := by rw [R.2.2.1 4 0 rfl]; rfl
theorem o5 (R : Rep S A V M) {i : Nat} (h : i < nL V) : ok S (A 5 i) 5 := R.1 5 i h
theorem i5 (R : Rep S A V M) {i : Nat} (h : i < nL V) : sI S (A 5 i) = M 5 i := R.2.1 5 i h
theorem o6 (R : Rep S A V M)  : ok S (A 6 0) 6 := R.1 6 0 rfl
theorem i6 (R : Rep S A V M)  : sI S (A 6 0) = M 6 0 := R.2.1 6 0 rfl
theorem p6_2 (R : Rep S A V M)  : sP S (A 6 0) 2 = some (A 26 0) := by rw [R.2.2.1 6 0 rfl]; rfl
theorem p6_3 (R : Rep S A V M)  : sP S (A 6 0) 3 = some (A 26 1) := by rw [R.2.2.1 6 0 rfl]; rfl
theorem p6_4 (R : Rep S A V M)  : sP S (A 6 0) 4 = some (A 26 2) := by rw [R.2.2.1 6 0 rfl]; rfl
theorem o7 (R : Rep S A V M) {i : Nat} (h : i < nR V) : ok S (A 7 i) 7 := R.1 7 i h
theorem i7 (R : Rep S A V M) {i : Nat} (h : i < nR V) : sI S (A 7 i) = M 7 i := R.2.1 7 i h
theorem o8 (R : Rep S A V M)  : ok S (A 8 0) 8 := R.1 8 0 rfl
theorem i8 (R : Rep S A V M)  : sI S (A 8 0) = M 8 0 := R.2.1 8 0 rfl
theorem p8_0 (R : Rep S A V M)  : sP S (A 8 0) 0 = some (A 24 0) := by rw [R.2.2.1 8 0 rfl]; rfl
theorem o9 (R : Rep S A V M) {i : Nat} (h : i < nW V) : ok S (A 9 i) 9 := R.1 9 i h
theorem i9 (R : Rep S A V M) {i : Nat} (h : i < nW V) : sI S (A 9 i) = M 9 i := R.2.1 9 i h
theorem o10 (R : Rep S A V M)  : ok S (A 10 0) 10 := R.1 10 0 rfl
theorem i10 (R : Rep S A V M)  : sI S (A 10 0) = M 10 0 := R.2.1 10 0 rfl
theorem p10_0 (R : Rep S A V M)  : sP S (A 10 0) 0 = some (A 4 0) := by rw [R.2.2.1 10 0 rfl]; rfl
theorem p10_1 (R : Rep S A V M)  : sP S (A 10 0) 1 = some (A 0 1) := by rw [R.2.2.1 10 0 rfl]; rfl
theorem p10_2 (R : Rep S A V M)  : sP S (A 10 0) 2 = some (A 0 2) := by rw [R.2.2.1 10 0 rfl]; rfl
theorem p10_3 (R : Rep S A V M)  : sP S (A 10 0) 3 = some (A 8 0) := by rw [R.2.2.1 10 0 rfl]; rfl
theorem p10_4 (R : Rep S A V M)  : sP S (A 10 0) 4 = some (A 2 0) := by rw [R.2.2.1 10 0 rfl]; rfl
theorem p10_5 (R : Rep S A V M)  : sP S (A 10 0) 5 = some (A 1 0) := by rw [R.2.2.1 10 0 rfl]; rfl
theorem p10_6 (R : Rep S A V M)  : sP S (A 10 0) 6 = some (A 6 0) := by rw [R.2.2.1 10 0 rfl]; rfl
theorem o11 (R : Rep S A V M)  : ok S (A 11 0) 11 := R.1 11 0 rfl
theorem i11 (R : Rep S A V M)  : sI S (A 11 0) = M 11 0 := R.2.1 11 0 rfl
theorem p11_0 (R : Rep S A V M) : sP S (A 11 0) 0 = some (A 27 0) := by rw [R.2.2.1 11 0 rfl]; rfl
theorem p11_1 (R : Rep S A V M) : sP S (A 11 0) 1 = some (A 27 1) := by rw [R.2.2.1 11 0 rfl]; rfl
theorem p11_2 (R : Rep S A V M) : sP S (A 11 0) 2 = some (A 27 2) := by rw [R.2.2.1 11 0 rfl]; rfl
theorem p11_3 (R : Rep S A V M) : sP S (A 11 0) 3 = some (A 27 3) := by rw [R.2.2.1 11 0 rfl]; rfl
theorem p11_4 (R : Rep S A V M) : sP S (A 11 0) 4 = some (A 27 4) := by rw [R.2.2.1 11 0 rfl]; rfl
theorem p11_5 (R : Rep S A V M) : sP S (A 11 0) 5 = some (A 27 5) := by rw [R.2.2.1 11 0 rfl]; rfl
theorem p11_6 (R : Rep S A V M) : sP S (A 11 0) 6 = some (A 27 6) := by rw [R.2.2.1 11 0 rfl]; rfl
theorem p11_7 (R : Rep S A V M) : sP S (A 11 0) 7 = some (A 27 7) := by rw [R.2.2.1 11 0 rfl]; rfl
theorem p11_8 (R : Rep S A V M) : sP S (A 11 0) 8 = some (A 27 8) := by rw [R.2.2.1 11 0 rfl]; rfl
theorem p11_9 (R : Rep S A V M) : sP S (A 11 0) 9 = some (A 27 9) := by rw [R.2.2.1 11 0 rfl]; rfl
theorem p11_10 (R : Rep S A V M) : sP S (A 11 0) 10 = some (A 27 10) := by rw [R.2.2.1 11 0 rfl]; rfl
theorem p11_11 (R : Rep S A V M) : sP S (A 11 0) 11 = some (A 27 11) := by rw [R.2.2.1 11 0 rfl]; rfl
theorem p11_12 (R : Rep S A V M) : sP S (A 11 0) 12 = some (A 27 12) := by rw [R.2.2.1 11 0 rfl]; rfl
theorem p11_13 (R : Rep S A V M) : sP S (A 11 0) 13 = some (A 27 13) := by rw [R.2.2.1 11 0 rfl]; rfl
theorem p11_14 (R : Rep S A V M) : sP S (A 11 0) 14 = some (A 27 14) := by rw [R.2.2.1 11 0 rfl]; rfl
theorem p11_15 (R : Rep S A V M) : sP S (A 11 0) 15 = some (A 27 15) := by rw [R.2.2.1 11 0 rfl]; rfl
theorem p11_16 (R : Rep S A V M) : sP S (A 11 0) 16 = some (A 27 16) := by rw [R.2.2.1 11 0 rfl]; rfl
theorem p11_17 (R : Rep S A V M) : sP S (A 11 0) 17 = some (A 27 17) := by rw [R.2.2.1 11 0 rfl]; rfl
theorem p11_18 (R : Rep S A V M) : sP S (A 11 0) 18 = some (A 27 18) := by rw [R.2.2.1 11 0 rfl]; rfl
theorem p11_19 (R : Rep S A V M) : sP S (A 11 0) 19 = some (A 27 19) := by rw [R.2.2.1 11 0 rfl]; rfl
theorem p11_20 (R : Rep S A V M) : sP S (A 11 0) 20 = some (A 27 20) := by rw [R.2.2.1 11 0 rfl]; rfl
theorem p11_21 (R : Rep S A V M) : sP S (A 11 0) 21 = some (A 27 21) := by rw [R.2.2.1 11 0 rfl]; rfl
theorem p11_22 (R : Rep S A V M) : sP S (A 11 0) 22 = some (A 27 22) := by rw [R.2.2.1 11 0 rfl]; rfl
theorem o20 (R : Rep S A V M) {i : Nat} (h : i < nE V) : ok S (A 20 i) 0 := R.1 20 i h
theorem i20 (R : Rep S A V M) {i : Nat} (h : i < nE V) : sI S (A 20 i) = M 20 i := R.2.1 20 i h
theorem o21 (R : Rep S A V M) {i : Nat} (h : i < nE V ∧ 0 < cn V i) : ok S (A 21 i) 102 := R.1 21 i h
theorem i21 (R : Rep S A V M) {i : Nat} (h : i < nE V ∧ 0 < cn V i) : sI S (A 21 i) = M 21 i := R.2.1 21 i h
theorem n21 (R : Rep S A V M) {i : Nat} (h : i < nE V ∧ 0 < cn V i) : sN S (A 21 i) = 10 := R.2.2.2.1 21 i h (by decide)
theorem o22 (R : Rep S A V M) {i : Nat} (h : i < nE V) : ok S (A 22 i) 101 := R.1 22 i h
theorem i22 (R : Rep S A V M) {i : Nat} (h : i < nE V) : sI S (A 22 i) = M 22 i := R.2.1 22 i h
theorem n22 (R : Rep S A V M) {i : Nat} (h : i < nE V) : sN S (A 22 i) = 5 := R.2.2.2.1 22 i h (by decide)
theorem o23 (R : Rep S A V M) {i : Nat} (h : i < 4 ∧ 0 < sz V i) : ok S (A 23 i) 102 := R.1 23 i h
theorem i23 (R : Rep S A V M) {i : Nat} (h : i < 4 ∧ 0 < sz V i) : sI S (A 23 i) = M 23 i := R.2.1 23 i h
theorem o24 (R : Rep S A V M)  : ok S (A 24 0) 100 := R.1 24 0 rfl
theorem i24 (R : Rep S A V M)  : sI S (A 24 0) = M 24 0 := R.2.1 24 0 rfl
theorem n24 (R : Rep S A V M)  : sN S (A 24 0) = 144 := R.2.2.2.1 24 0 rfl (by decide)
theorem o25 (R : Rep S A V M) {i : Nat} (h : i < 5) : ok S (A 25 i) 101 := R.1 25 i h
theorem i25 (R : Rep S A V M) {i : Nat} (h : i < 5) : sI S (A 25 i) = M 25 i := R.2.1 25 i h
theorem n25_0 (R : Rep S A V M) : sN S (A 25 0) = 8 := R.2.2.2.1 25 0 (show us V 25 0 from (by decide : 0 < 5)) (by decide)
theorem n25_1 (R : Rep S A V M) : sN S (A 25 1) = 5 := R.2.2.2.1 25 1 (show us V 25 1 from (by decide : 1 < 5)) (by decide)
theorem n25_2 (R : Rep S A V M) : sN S (A 25 2) = 5 := R.2.2.2.1 25 2 (show us V 25 2 from (by decide : 2 < 5)) (by decide)
theorem n25_3 (R : Rep S A V M) : sN S (A 25 3) = 40 := R.2.2.2.1 25 3 (show us V 25 3 from (by decide : 3 < 5)) (by decide)
theorem n25_4 (R : Rep S A V M) : sN S (A 25 4) = 25 := R.2.2.2.1 25 4 (show us V 25 4 from (by decide : 4 < 5)) (by decide)
theorem o26 (R : Rep S A V M) {i : Nat} (h : i < 3) : ok S (A 26 i) 101 := R.1 26 i h
theorem i26 (R : Rep S A V M) {i : Nat} (h : i < 3) : sI S (A 26 i) = M 26 i := R.2.1 26 i h
theorem n26_0 (R : Rep S A V M) : sN S (A 26 0) = 5 := R.2.2.2.1 26 0 (show us V 26 0 from (by decide : 0 < 3)) (by decide)
theorem n26_1 (R : Rep S A V M) : sN S (A 26 1) = 5 := R.2.2.2.1 26 1 (show us V 26 1 from (by decide : 1 < 3)) (by decide)
theorem n26_2 (R : Rep S A V M) : sN S (A 26 2) = 32 := R.2.2.2.1 26 2 (show us V 26 2 from (by decide : 2 < 3)) (by decide)
theorem o27 (R : Rep S A V M) {i : Nat} (h : i < 23) : ok S (A 27 i) 101 := R.1 27 i h
theorem i27 (R : Rep S A V M) {i : Nat} (h : i < 23) : sI S (A 27 i) = M 27 i := R.2.1 27 i h
theorem n27_0 (R : Rep S A V M) : sN S (A 27 0) = 4 := R.2.2.2.1 27 0 (show us V 27 0 from (by decide : 0 < 23)) (by decide)
theorem n27_1 (R : Rep S A V M) : sN S (A 27 1) = 4 := R.2.2.2.1 27 1 (show us V 27 1 from (by decide : 1 < 23)) (by decide)
theorem n27_2 (R : Rep S A V M) : sN S (A 27 2) = 8 := R.2.2.2.1 27 2 (show us V 27 2 from (by decide : 2 < 23)) (by decide)
theorem n27_3 (R : Rep S A V M) : sN S (A 27 3) = 4 := R.2.2.2.1 27 3 (show us V 27 3 from (by decide : 3 < 23)) (by decide)
theorem n27_4 (R : Rep S A V M) : sN S (A 27 4) = 4 := R.2.2.2.1 27 4 (show us V 27 4 from (by decide : 4 < 23)) (by decide)
theorem n27_5 (R : Rep S A V M) : sN S (A 27 5) = 4 := R.2.2.2.1 27 5 (show us V 27 5 from (by decide : 5 < 23)) (by decide)
theorem n27_6 (R : Rep S A V M) : sN S (A 27 6) = 12 := R.2.2.2.1 27 6 (show us V 27 6 from (by decide : 6 < 23)) (by decide)
theorem n27_7 (R : Rep S A V M) : sN S (A 27 7) = 12 := R.2.2.2.1 27 7 (show us V 27 7 from (by decide : 7 < 23)) (by decide)
theorem n27_8 (R : Rep S A V M) : sN S (A 27 8) = 12 := R.2.2.2.1 27 8 (show us V 27 8 from (by decide : 8 < 23)) (by decide)
theorem n27_9 (R : Rep S A V M) : sN S (A 27 9) = 12 := R.2.2.2.1 27 9 (show us V 27 9 from (by decide : 9 < 23)) (by decide)
theorem n27_10 (R : Rep S A V M) : sN S (A 27 10) = 12 := R.2.2.2.1 27 10 (show us V 27 10 from (by decide : 10 < 23)) (by decide)
theorem n27_11 (R : Rep S A V M) : sN S (A 27 11) = 12 := R.2.2.2.1 27 11 (show us V 27 11 from (by decide : 11 < 23)) (by decide)
theorem n27_12 (R : Rep S A V M) : sN S (A 27 12) = 144 := R.2.2.2.1 27 12 (show us V 27 12 from (by decide : 12 < 23)) (by decide)
theorem n27_13 (R : Rep S A V M) : sN S (A 27 13) = 8 := R.2.2.2.1 27 13 (show us V 27 13 from (by decide : 13 < 23)) (by decide)
theorem n27_14 (R : Rep S A V M) : sN S (A 27 14) = 8 := R.2.2.2.1 27 14 (show us V 27 14 from (by decide : 14 < 23)) (by decide)
theorem n27_15 (R : Rep S A V M) : sN S (A 27 15) = 8 := R.2.2.2.1 27 15 (show us V 27 15 from (by decide : 15 < 23)) (by decide)
theorem n27_16 (R : Rep S A V M) : sN S (A 27 16) = 8 := R.2.2.2.1 27 16 (show us V 27 16 from (by decide : 16 < 23)) (by decide)
theorem n27_17 (R : Rep S A V M) : sN S (A 27 17) = 8 := R.2.2.2.1 27 17 (show us V 27 17 from (by decide : 17 < 23)) (by decide)
theorem n27_18 (R : Rep S A V M) : sN S (A 27 18) = 40 := R.2.2.2.1 27 18 (show us V 27 18 from (by decide : 18 < 23)) (by decide)
theorem n27_19 (R : Rep S A V M) : sN S (A 27 19) = 40 := R.2.2.2.1 27 19 (show us V 27 19 from (by decide : 19 < 23)) (by decide)
theorem n27_20 (R : Rep S A V M) : sN S (A 27 20) = 5 := R.2.2.2.1 27 20 (show us V 27 20 from (by decide : 20 < 23)) (by decide)
theorem n27_21 (R : Rep S A V M) : sN S (A 27 21) = 5 := R.2.2.2.1 27 21 (show us V 27 21 from (by decide : 21 < 23)) (by decide)
theorem n27_22 (R : Rep S A V M) : sN S (A 27 22) = 32 := R.2.2.2.1 27 22 (show us V 27 22 from (by decide : 22 < 23)) (by decide)
theorem o29 (R : Rep S A V M)  : ok S (A 29 0) 103 := R.1 29 0 rfl
theorem i29 (R : Rep S A V M)  : sI S (A 29 0) = M 29 0 := R.2.1 29 0 rfl
theorem n29 (R : Rep S A V M) : sN S (A 29 0) = 1 := R.2.2.2.1 29 0 rfl (by decide)
theorem o30 (R : Rep S A V M)  : ok S (A 30 0) 104 := R.1 30 0 rfl
theorem i30 (R : Rep S A V M)  : sI S (A 30 0) = M 30 0 := R.2.1 30 0 rfl
theorem n30 (R : Rep S A V M) : sN S (A 30 0) = 1 := R.2.2.2.1 30 0 rfl (by decide)
theorem p0_1 (R : Rep S A V M) {i : Nat} (h : i < 4) (hs : 0 < sz V i) : sP S (A 0 i) 1 = some (A 23 i) := by
  rw [R.2.2.1 0 i h]
  show some (if sz V i = 0 then sT S else A 23 i) = _
  rw [if_neg (by omega)]
theorem p20_1 (R : Rep S A V M) {i : Nat} (h : i < nE V) (hs : 0 < cn V i) : sP S (A 20 i) 1 = some (A 21 i) := by
  rw [R.2.2.1 20 i h]
  show some (if cn V i = 0 then sT S else A 21 i) = _
  rw [if_neg (by omega)]
theorem p23 (R : Rep S A V M) {i k : Nat} (h : i < 4) (hk : k < sz V i) : sP S (A 23 i) k = some (A (el i) k) := by
  rw [R.2.2.1 23 i ⟨h, by omega⟩]
  exact if_pos hk
theorem p21 (R : Rep S A V M) {i k : Nat} (h : i < nE V) (hk : k < cn V i) : sP S (A 21 i) k = some (A 9 (ic V i k)) := by
  rw [R.2.2.1 21 i ⟨h, by omega⟩]
  exact if_pos hk
theorem p9_6 (R : Rep S A V M) {i : Nat} (h : i < nW V) : sP S (A 9 i) 6 = (ow V i).map (A 5) := by
  rw [R.2.2.1 9 i h]
  rfl
theorem n23 (R : Rep S A V M) {i : Nat} (h : i < 4) (hs : 0 < sz V i) : sN S (A 23 i) = cp (sz V i) := R.2.2.2.1 23 i ⟨h, hs⟩ (by decide)
theorem l0 (R : Rep S A V M) {i : Nat} (h : i < 4) : sI S (A 0 i) 2 = z (sz V i) := by
  rw [i0 R h]
  exact (R.2.2.2.2.2.1 i h).1
theorem b0 (R : Rep S A V M) {i : Nat} (h : i < 4) : sz V i ≤ 12 := (R.2.2.2.2.2.1 i h).2
theorem bR (R : Rep S A V M) : nR V ≤ 12 := b0 R (i := 0) (by decide)
theorem bL (R : Rep S A V M) : nL V ≤ 12 := b0 R (i := 1) (by decide)
theorem bW (R : Rep S A V M) : nW V ≤ 12 := b0 R (i := 2) (by decide)
theorem bE (R : Rep S A V M) : nE V ≤ 12 := b0 R (i := 3) (by decide)
theorem l20 (R : Rep S A V M) {i : Nat} (h : i < nE V) : sI S (A 20 i) 2 = z (cn V i) := by
  rw [i20 R h]
  exact (R.2.2.2.2.2.2.1 i h).1
theorem bC (R : Rep S A V M) {i : Nat} (h : i < nE V) : cn V i ≤ 5 := (R.2.2.2.2.2.2.1 i h).2.1
theorem bI (R : Rep S A V M) {i k : Nat} (h : i < nE V) (hk : k < cn V i) : ic V i k < nW V := (R.2.2.2.2.2.2.1 i h).2.2 k hk
theorem bO (R : Rep S A V M) {w l : Nat} (h : w < nW V) (hl : ow V w = some l) : l < nL V := R.2.2.2.2.2.2.2 w l h hl
/-! ===== lists ===== -/
theorem s_size0 (R : Rep S A V M) {i : Nat} {f : Int32 → St → Prop} (h : i < 4) (hf : f (z (sz V i)) S) : w_Jx4a65c_size_8abf5 S (A 0 i) f := by
  unfold w_Jx4a65c_size_8abf5
  refine ⟨o0 R h, ?_⟩
  rw [l0 R h]
  exact hf
theorem s_size20 (R : Rep S A V M) {i : Nat} {f : Int32 → St → Prop} (h : i < nE V) (hf : f (z (cn V i)) S) : w_Jx4a65c_size_8abf5 S (A 20 i) f := by
  unfold w_Jx4a65c_size_8abf5
  refine ⟨o20 R h, ?_⟩
  rw [l20 R h]
  exact hf
theorem cp_le {n : Nat} (h : n ≤ 12) : n ≤ cp n ∧ cp n ≤ 15 := by
  unfold cp
  split <;> omega
theorem s_get0 (R : Rep S A V M) {i k : Nat} {f : Nat → St → Prop} (h : i < 4) (hk : k < sz V i) (hf : f (A (el i) k) S) : w_Jx4a65c_get_915e3 S (A 0 i) (z k) f := by
  have hb := b0 R h
  have hc := cp_le hb
  unfold w_Jx4a65c_get_915e3 w_J15_checkIndex_7cf53 w_J3_checkIndex_8e157N2
  refine ⟨o0 R h, fun hc => absurd hc (z_neg (by omega)), fun _ => ⟨fun _ => ?_, fun hc => ?_⟩⟩
  · dsimp only
    unfold w_Jx4a65c_elementData_915e3
    refine ⟨o0 R h, o0 R h, _, p0_1 R h (by omega), o23 R ⟨h, by omega⟩, ?_, _, ?_, hf⟩
    · rw [n23 R h (by omega)]
      exact z_vp (by omega) (by omega)
    · rw [z_c (by omega)]
      exact p23 R h hk
  · rw [l0 R h, z_lt (by omega) (by omega)] at hc
    exact hc hk
theorem s_get20 (R : Rep S A V M) {i k : Nat} {f : Nat → St → Prop} (h : i < nE V) (hk : k < cn V i) (hf : f (A 9 (ic V i k)) S) : w_Jx4a65c_get_915e3 S (A 20 i) (z k) f := by
  have hb := bC R h
  unfold w_Jx4a65c_get_915e3 w_J15_checkIndex_7cf53 w_J3_checkIndex_8e157N2
  refine ⟨o20 R h, fun hc => absurd hc (z_neg (by omega)), fun _ => ⟨fun _ => ?_, fun hc => ?_⟩⟩
  · dsimp only
    unfold w_Jx4a65c_elementData_915e3
    refine ⟨o20 R h, o20 R h, _, p20_1 R h (by omega), o21 R ⟨h, by omega⟩, ?_, _, ?_, hf⟩
    · rw [n21 R ⟨h, by omega⟩]
      exact z_vp (by omega) (by omega)
    · rw [z_c (by omega)]
      exact p21 R h hk
  · rw [l20 R h, z_lt (by omega) (by omega)] at hc
    exact hc hk
end RA
/-! ===== writes ===== -/
section RW
variable {S : St} {A : Nat → Nat → Nat} {V V' : VV} {M : MM}
theorem sI_setI (S : St) (a k : Nat) (v : Int32) (b : Nat) : sI (setI S a k v) b = if b = a then upd (sI S a) k v else sI S b := rfl
theorem Rep_set (R : Rep S A V M) {t i k : Nat} {v : Int32} (h : us V t i) (hk : (t = 0 ∨ t = 20) → k ≠ 2) : Rep (setI S (A t i) k v) A V (up3 M t i k v) := by
  obtain ⟨h1, h2, h3, h4, h5, h6, h7, h8⟩ := R
  refine ⟨h1, fun t' i' h' => ?_, h3, h4, h5, fun i' hi => ?_, fun e he => ?_, h8⟩
  · rw [sI_setI]
    by_cases e : A t' i' = A t i
    · obtain ⟨rfl, rfl⟩ := h5 _ _ _ _ h' h e
      rw [if_pos rfl, up3_s, h2 _ _ h]
    · rw [if_neg e]
      by_cases e2 : t' = t
      · subst e2
        have e3 : i' ≠ i := fun e3 => e (by rw [e3])
        rw [up3_i M v e3, h2 _ _ h']
      · rw [up3_t M v e2, h2 _ _ h']
  · obtain ⟨k1, k2⟩ := h6 i' hi
    refine ⟨?_, k2⟩
    by_cases e2 : 0 = t
    · subst e2
      by_cases e3 : i' = i
      · subst e3
        rw [up3_s, upd_n _ _ (Ne.symm (hk (Or.inl rfl))), k1]
      · rw [up3_i M v e3, k1]
    · rw [up3_t M v e2, k1]
  · obtain ⟨k1, k2⟩ := h7 e he
    refine ⟨?_, k2⟩
    by_cases e2 : 20 = t
    · subst e2
      by_cases e3 : e = i
      · subst e3
        rw [up3_s, upd_n _ _ (Ne.symm (hk (Or.inr rfl))), k1]
      · rw [up3_i M v e3, k1]
    · rw [up3_t M v e2, k1]
theorem Rep_V (R : Rep S A V M) (e11 : V' 11 = V 11) (e17 : V' 17 = V 17) (e18 : V' 18 = V 18) (e24 : V' 24 = V 24) (e25 : V' 25 = V 25) (e26 : V' 26 = V 26) (e27 : V' 27 = V 27) : Rep S A V' M := by
  have f1 : nR V' = nR V := by unfold nR; rw [e24]
  have f2 : nL V' = nL V := by unfold nL; rw [e25]
  have f3 : nW V' = nW V := by unfold nW; rw [e26]
  have f4 : nE V' = nE V := by unfold nE; rw [e27]
  have f5 : cn V' = cn V := by funext e; unfold cn; rw [e17]
  have f6 : ic V' = ic V := by funext e k; unfold ic; rw [e18]
  have f7 : ow V' = ow V := by funext w; unfold ow; rw [e11]
  have f8 : sz V' = sz V := by funext i; unfold sz; rw [f1, f2, f3, f4]
  have f9 : us V' = us V := by funext t i; unfold us; rw [f1, f2, f3, f4, f5, f8]
  have g1 : nn V' = nn V := by funext t i; unfold nn; rw [f8]
  have g2 : ∀ T, pt T A V' = pt T A V := by intro T; funext t i k; unfold pt; rw [f5, f6, f7, f8]
  unfold Rep at R ⊢
  rw [f2, f3, f4, f5, f6, f7, f8, f9, g1]
  simp only [g2]
  exact R
end RW
