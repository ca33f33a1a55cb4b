/-! ===== the museum: V by the reference's rows ===== -/
def CV (V : VV) (M : MM) : Prop :=
  (∀ i, i < nR V → M 7 i 0 = V 0 i ∧ M 7 i 1 = V 1 i ∧ M 7 i 2 = V 2 (2 * i) ∧ M 7 i 3 = V 2 (2 * i + 1)) ∧
  (∀ i, i < nL V → M 5 i 0 = z i ∧ M 5 i 1 = V 3 i ∧ M 5 i 2 = V 4 i ∧ M 5 i 3 = V 5 i) ∧
  (∀ i, i < nW V → M 9 i 0 = z i ∧ M 9 i 1 = V 6 i ∧ M 9 i 2 = V 7 i ∧ M 9 i 3 = V 8 i ∧ M 9 i 4 = V 9 i ∧ M 9 i 5 = V 10 i) ∧
  (∀ i, i < nE V → M 3 i 0 = z i ∧ M 3 i 1 = V 13 i ∧ M 3 i 2 = V 14 i ∧ M 3 i 3 = V 15 i ∧ M 3 i 6 = V 16 i ∧ ∀ k, k < 5 → M 22 i k = V 19 (5 * i + k)) ∧
  (∀ i, i < 144 → M 24 0 i = V 12 i) ∧ M 10 0 7 = V 28 0 ∧ (∀ i, i < 5 → M 26 1 i = 0) ∧ M 26 2 0 = 0
def MV (V : VV) (M : MM) : Prop := (∀ k, k < 20 → ∀ i, i < ml k → M 27 k i = V k i) ∧ ∀ k, 24 ≤ k → k < 29 → M 11 0 k = V k 0
/-- what the class does leaves the reference's rows alone -/
def Fr (M M' : MM) : Prop := M' 11 = M 11 ∧ M' 27 = M 27 ∧ M' 28 = M 28
theorem Fr.refl (M : MM) : Fr M M := ⟨rfl, rfl, rfl⟩
theorem Fr.trans {M M' M'' : MM} (h : Fr M M') (k : Fr M' M'') : Fr M M'' := ⟨k.1.trans h.1, k.2.1.trans h.2.1, k.2.2.trans h.2.2⟩
theorem Fr.up {M : MM} {t i k : Nat} {v : Int32} (h : 11 ≠ t) (h2 : 27 ≠ t) (h3 : 28 ≠ t) : Fr M (up3 M t i k v) := ⟨up3_t M v h, up3_t M v h2, up3_t M v h3⟩
theorem Fr.mv {V : VV} {M M' : MM} (h : Fr M M') (m : MV V M) : MV V M' := ⟨fun k hk i hi => by rw [h.2.1]; exact m.1 k hk i hi, fun k h1 h2 => by rw [h.1]; exact m.2 k h1 h2⟩
section VA
variable {S : St} {A : Nat → Nat → Nat} {V : VV} {M : MM}
theorem f7_0 (R : Rep S A V M) (C : CV V M) {i : Nat} (h : i < nR V) : sI S (A 7 i) 0 = V 0 i := by
  rw [i7 R h]
  exact (C.1 i h).1
theorem f7_1 (R : Rep S A V M) (C : CV V M) {i : Nat} (h : i < nR V) : sI S (A 7 i) 1 = V 1 i := by
  rw [i7 R h]
  exact (C.1 i h).2.1
theorem f7_2 (R : Rep S A V M) (C : CV V M) {i : Nat} (h : i < nR V) : sI S (A 7 i) 2 = V 2 (2 * i) := by
  rw [i7 R h]
  exact (C.1 i h).2.2.1
theorem f7_3 (R : Rep S A V M) (C : CV V M) {i : Nat} (h : i < nR V) : sI S (A 7 i) 3 = V 2 (2 * i + 1) := by
  rw [i7 R h]
  exact (C.1 i h).2.2.2
theorem f5_0 (R : Rep S A V M) (C : CV V M) {i : Nat} (h : i < nL V) : sI S (A 5 i) 0 = z i := by
  rw [i5 R h]
  exact (C.2.1 i h).1
theorem f5_1 (R : Rep S A V M) (C : CV V M) {i : Nat} (h : i < nL V) : sI S (A 5 i) 1 = V 3 i := by
  rw [i5 R h]
  exact (C.2.1 i h).2.1
theorem f5_2 (R : Rep S A V M) (C : CV V M) {i : Nat} (h : i < nL V) : sI S (A 5 i) 2 = V 4 i := by
  rw [i5 R h]
  exact (C.2.1 i h).2.2.1
theorem f5_3 (R : Rep S A V M) (C : CV V M) {i : Nat} (h : i < nL V) : sI S (A 5 i) 3 = V 5 i := by
  rw [i5 R h]
  exact (C.2.1 i h).2.2.2
theorem f9_0 (R : Rep S A V M) (C : CV V M) {i : Nat} (h : i < nW V) : sI S (A 9 i) 0 = z i := by
  rw [i9 R h]
  exact (C.2.2.1 i h).1
theorem f9_1 (R : Rep S A V M) (C : CV V M) {i : Nat} (h : i < nW V) : sI S (A 9 i) 1 = V 6 i := by
  rw [i9 R h]
  exact (C.2.2.1 i h).2.1
theorem f9_2 (R : Rep S A V M) (C : CV V M) {i : Nat} (h : i < nW V) : sI S (A 9 i) 2 = V 7 i := by
  rw [i9 R h]
  exact (C.2.2.1 i h).2.2.1
theorem f9_3 (R : Rep S A V M) (C : CV V M) {i : Nat} (h : i < nW V) : sI S (A 9 i) 3 = V 8 i := by
  rw [i9 R h]
  exact (C.2.2.1 i h).2.2.2.1
theorem f9_4 (R : Rep S A V M) (C : CV V M) {i : Nat} (h : i < nW V) : sI S (A 9 i) 4 = V 9 i := by
  rw [i9 R h]
  exact (C.2.2.1 i h).2.2.2.2.1
theorem f9_5 (R : Rep S A V M) (C : CV V M) {i : Nat} (h : i < nW V) : sI S (A 9 i) 5 = V 10 i := by
  rw [i9 R h]
  exact (C.2.2.1 i h).2.2.2.2.2
theorem f3_0 (R : Rep S A V M) (C : CV V M) {i : Nat} (h : i < nE V) : sI S (A 3 i) 0 = z i := by
  rw [i3 R h]
  exact (C.2.2.2.1 i h).1
theorem f3_1 (R : Rep S A V M) (C : CV V M) {i : Nat} (h : i < nE V) : sI S (A 3 i) 1 = V 13 i := by
  rw [i3 R h]
  exact (C.2.2.2.1 i h).2.1
theorem f3_2 (R : Rep S A V M) (C : CV V M) {i : Nat} (h : i < nE V) : sI S (A 3 i) 2 = V 14 i := by
  rw [i3 R h]
  exact (C.2.2.2.1 i h).2.2.1
theorem f3_3 (R : Rep S A V M) (C : CV V M) {i : Nat} (h : i < nE V) : sI S (A 3 i) 3 = V 15 i := by
  rw [i3 R h]
  exact (C.2.2.2.1 i h).2.2.2.1
theorem f3_6 (R : Rep S A V M) (C : CV V M) {i : Nat} (h : i < nE V) : sI S (A 3 i) 6 = V 16 i := by
  rw [i3 R h]
  exact (C.2.2.2.1 i h).2.2.2.2.1
theorem f22 (R : Rep S A V M) (C : CV V M) {i k : Nat} (h : i < nE V) (hk : k < 5) : sI S (A 22 i) k = V 19 (5 * i + k) := by
  rw [i22 R h]
  exact (C.2.2.2.1 i h).2.2.2.2.2 k hk
theorem f24 (R : Rep S A V M) (C : CV V M) {k : Nat} (hk : k < 144) : sI S (A 24 0) k = V 12 k := by
  rw [i24 R]
  exact C.2.2.2.2.1 k hk
theorem f10_7 (R : Rep S A V M) (C : CV V M) : sI S (A 10 0) 7 = V 28 0 := by
  rw [i10 R]
  exact C.2.2.2.2.2.1
end VA
/-! ===== what is asked of the museum ===== -/
def ho (V : VV) (e : Nat) (d : Int32) : Bool := decide (V 16 e = 112 ∧ V 13 e ≤ d ∧ d ≤ V 14 e)
def sp (V : VV) (e : Nat) (w : Int32) : Int32 := su (cn V e) (fun k => if V 19 (5 * e + k) = w then V 6 (ic V e k) + V 15 e else 0)
def tk (V : VV) (w d : Int32) : Int32 := su (nE V) (fun e => if ho V e d then sp V e w else 0)
def co (V : VV) (e : Nat) (w : Int32) : Int32 := su (cn V e) (fun k => if V 19 (5 * e + k) = w then 1 else 0)
def hg (V : VV) (w d : Int32) : Int32 := su (nE V) (fun e => if ho V e d then co V e w else 0)
/-- both hang, on a day that they share -/
def hd (V : VV) (e g : Nat) : Bool := decide (V 16 e = 112 ∧ V 13 e ≤ V 14 g ∧ V 13 g ≤ V 14 e)
def br (k x y : Int32) : Bool := decide ((k = 114 ∧ x / 2 = y / 2) ∨ (k = 119 ∧ x = y))
def kq (V : VV) (i j : Nat) : Int32 := if V 12 (i * 12 + j) = 0 then 110 else V 12 (i * 12 + j)
def tr (V : VV) (w : Nat) : Int32 := match ow V w with
  | none => 0
  | some l => V 4 l
def has (V : VV) (e w : Nat) : Prop := ∃ k, k < cn V e ∧ ic V e k = w
def lent (V : VV) (w e : Nat) : Prop := ∀ l, ow V w = some l → V 10 w ≤ V 3 l ∧ V 14 e - V 13 e + 1 ≤ V 5 l ∧ V 4 l ≤ V 13 e
/-- a work is away for an exhibition on a day of these -/
def away (V : VV) (e w : Nat) (a b : Int32) : Prop := V 16 e = 112 ∧ V 13 e - tr V w ≤ b ∧ a ≤ V 14 e + tr V w ∧ has V e w
def takes (V : VV) (e w : Nat) : Prop := (∀ g, g < nE V → g ≠ e → ¬ away V g w (V 13 e - tr V w) (V 14 e + tr V w)) ∧ lent V w e
def stn (V : VV) (w r : Nat) : Bool := decide (V 7 w ≤ V 0 r ∧ V 0 r ≤ V 8 w ∧ V 1 r ≤ V 9 w)
def len (V : VV) (w : Int32) : Int32 := if w < 0 ∨ z (2 * nR V) ≤ w then 0 else V 2 w.toNatClampNeg
def suits (V : VV) (w : Nat) (wl : Int32) : Prop := 0 ≤ wl ∧ wl < z (2 * nR V) ∧ stn V w (wl.toNatClampNeg / 2) = true
/-- a work on a wall against what hangs during an exhibition -/
def agn (V : VV) (e w : Nat) (wl : Int32) : Prop := ∃ g, g < nE V ∧ hd V g e = true ∧ ∃ k, k < cn V g ∧ br (kq V w (ic V g k)) wl (V 19 (5 * g + k)) = true
