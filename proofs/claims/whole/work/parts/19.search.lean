/-! ===== the first plan in the order of its walls ===== -/
def Va (ok : (Nat → Nat) → Nat → Prop) (c m : Nat) (p : Nat → Nat) : Prop := ∀ i, i < c → p i < m ∧ ok p i
def Fi (ok : (Nat → Nat) → Nat → Prop) (c m : Nat) (p : Nat → Nat) : Prop := Va ok c m p ∧ ∀ q, Va ok c m q → ∀ i, i < c → (∀ j, j < i → q j = p j) → p i ≤ q i
def Lo (ok : (Nat → Nat) → Nat → Prop) : Prop := ∀ p q i, (∀ j, j ≤ i → p j = q j) → ok p i → ok q i
/-- from work i on, behind a prefix: the first plan, or none -/
def HT (ok : (Nat → Nat) → Nat → Prop) (c m i : Nat) (p p' : Nat → Nat) : Prop := (∀ j, j < i → p' j = p j) ∧ Va ok c m p' ∧ ∀ q, Va ok c m q → (∀ j, j < i → q j = p j) → ∀ k, k < c → (∀ j, j < k → q j = p' j) → p' k ≤ q k
def HF (ok : (Nat → Nat) → Nat → Prop) (c m i : Nat) (p : Nat → Nat) : Prop := ∀ q, Va ok c m q → ¬ ∀ j, j < i → q j = p j
/-- the walls below w are of no use to work i -/
def HI (ok : (Nat → Nat) → Nat → Prop) (c m i w : Nat) (p : Nat → Nat) : Prop := ∀ q, Va ok c m q → (∀ j, j < i → q j = p j) → w ≤ q i
def pu (p : Nat → Nat) (i w : Nat) : Nat → Nat := fun j => if j = i then w else p j
theorem pu_s (p : Nat → Nat) (i w : Nat) : pu p i w i = w := if_pos rfl
theorem pu_n (p : Nat → Nat) {i j : Nat} (w : Nat) (h : j ≠ i) : pu p i w j = p j := if_neg h
section SE
variable {ok : (Nat → Nat) → Nat → Prop} {c m i w : Nat} {p p' q : Nat → Nat}
theorem Fi_uniq (h : Fi ok c m p) (k : Fi ok c m q) : ∀ i, i < c → p i = q i := by
  intro i
  induction i using Nat.strongRecOn with
  | _ i ih =>
    intro hi
    have a := h.2 q k.1 i hi (fun j hj => (ih j hj (by omega)).symm)
    have b := k.2 p h.1 i hi (fun j hj => ih j hj (by omega))
    omega
theorem HT_Fi (h : HT ok c m 0 p p') : Fi ok c m p' := ⟨h.2.1, fun q hq i hi ha => h.2.2 q hq (fun j hj => absurd hj (by omega)) i hi ha⟩
theorem HF_no (h : HF ok c m 0 p) : ∀ q, ¬ Va ok c m q := fun q hq => h q hq (fun j hj => absurd hj (by omega))
theorem HI_0 : HI ok c m i 0 p := fun _ _ _ => Nat.zero_le _
theorem HI_end (h : HI ok c m i m p) (hi : i < c) : HF ok c m i p := fun q hq ha => by
  have a := h q hq ha
  have b := (hq i hi).1
  omega
theorem HI_bad (hl : Lo ok) (h : HI ok c m i w p) (hi : i < c) (hb : ¬ ok (pu p i w) i) : HI ok c m i (w + 1) p := fun q hq ha => by
  have a := h q hq ha
  by_cases e : q i = w
  · exfalso
    refine hb (hl q _ i (fun j hj => ?_) (hq i hi).2)
    by_cases e2 : j = i
    · rw [e2, pu_s, e]
    · rw [pu_n p w e2]
      exact ha j (by omega)
  · omega
theorem HI_dead (h : HI ok c m i w p) (hf : HF ok c m (i + 1) (pu p i w)) : HI ok c m i (w + 1) p := fun q hq ha => by
  have a := h q hq ha
  by_cases e : q i = w
  · exfalso
    refine hf q hq (fun j hj => ?_)
    by_cases e2 : j = i
    · rw [e2, pu_s, e]
    · rw [pu_n p w e2]
      exact ha j (by omega)
  · omega
theorem HT_up (h : HI ok c m i w p) (ht : HT ok c m (i + 1) (pu p i w) p') : HT ok c m i p p' := by
  obtain ⟨h1, h2, h3⟩ := ht
  have e1 : ∀ j, j < i → p' j = p j := fun j hj => by rw [h1 j (by omega), pu_n p w (by omega)]
  have e2 : p' i = w := by rw [h1 i (by omega), pu_s]
  refine ⟨e1, h2, fun q hq ha k hk hb => ?_⟩
  by_cases c1 : k < i
  · rw [ha k c1, e1 k c1]
    exact Nat.le_refl _
  · by_cases c2 : k = i
    · rw [c2, e2]
      exact h q hq ha
    · refine h3 q hq (fun j hj => ?_) k hk hb
      rw [hb j (by omega), h1 j hj]
theorem HT_full (h : ∀ j, j < c → p j < m ∧ ok p j) : HT ok c m c p p := by
  refine ⟨fun _ _ => rfl, h, fun q hq ha k hk hb => ?_⟩
  rw [ha k hk]
  exact Nat.le_refl _
theorem Va_pu (hl : Lo ok) (h : ∀ j, j < i → p j < m ∧ ok p j) (hw : w < m) (ho : ok (pu p i w) i) : ∀ j, j < i + 1 → pu p i w j < m ∧ ok (pu p i w) j := fun j hj => by
  by_cases e : j = i
  · rw [e, pu_s]
    exact ⟨hw, ho⟩
  · rw [pu_n p w e]
    refine ⟨(h j (by omega)).1, hl p _ j (fun k hk => ?_) (h j (by omega)).2⟩
    rw [pu_n p w (by omega)]
end SE
