/-! ===== the law's helpers, by what the class answers ===== -/
section EL
variable {S : St} {A : Nat → Nat → Nat} {V : VV} {M : MM}
theorem Dn_setJ {V' : VV} {S' : St} {a k : Nat} {v : Int64} (D : Dn A M V' S') : Dn A M V' (setJ S' a k v) := by
  obtain ⟨A', M', R', h⟩ := D
  exact ⟨A', M', R', h⟩
theorem Dn_setE {V' : VV} {S' : St} {a k : Nat} {v : UInt64} (D : Dn A M V' S') : Dn A M V' (setE S' a k v) := by
  obtain ⟨A', M', R', h⟩ := D
  exact ⟨A', M', R', h⟩
theorem ndx0 : Int32.toNatClampNeg 0 = 0 := by decide
theorem sJ_set (S : St) (a k : Nat) (v : Int64) : sJ (setJ S a k v) a k = v := by
  show va_up (sJ S) a (updJ (sJ S a) k v) a k = v
  rw [va_up_self]
  exact if_pos rfl
theorem sE_set (S : St) (a k : Nat) (v : UInt64) : sE (setE S a k v) a k = v := by
  show va_up (sE S) a (updE (sE S a) k v) a k = v
  rw [va_up_self]
  exact if_pos rfl
theorem out29 {V' : VV} {S' : St} (D : Dn A M V' S') : ok S' (A 29 0) 103 ∧ vp_in 0 (sN S' (A 29 0)) := by
  obtain ⟨A', M', R', _, _, _, _, _, _, e, _⟩ := D
  rw [← e]
  refine ⟨o29 R', ?_⟩
  rw [n29 R']
  exact z_vp (i := 0) (by decide) (by decide)
theorem out30 {V' : VV} {S' : St} (D : Dn A M V' S') : ok S' (A 30 0) 104 ∧ vp_in 0 (sN S' (A 30 0)) := by
  obtain ⟨A', M', R', _, _, _, _, _, _, _, e, _⟩ := D
  rw [← e]
  refine ⟨o30 R', ?_⟩
  rw [n30 R']
  exact z_vp (i := 0) (by decide) (by decide)
theorem outJ {V' : VV} {S' : St} {x : Int64} {f : Int32 → St → Prop} (D : Dn A M V' S') (hf : ∀ S2, Dn A M V' S2 → sJ S2 (A 29 0) 0 = x → f 0 S2) : ok S' (A 29 0) 103 ∧ vp_in 0 (sN S' (A 29 0)) ∧ f 0 (setJ S' (A 29 0) (Int32.toNatClampNeg 0) x) := by
  obtain ⟨a, b⟩ := out29 D
  refine ⟨a, b, ?_⟩
  rw [ndx0]
  exact hf _ (Dn_setJ D) (sJ_set S' (A 29 0) 0 x)
theorem outE {V' : VV} {S' : St} {x : UInt64} {f : Int32 → St → Prop} (D : Dn A M V' S') (hf : ∀ S2, Dn A M V' S2 → sE S2 (A 30 0) 0 = x → f 0 S2) : ok S' (A 30 0) 104 ∧ vp_in 0 (sN S' (A 30 0)) ∧ f 0 (setE S' (A 30 0) (Int32.toNatClampNeg 0) x) := by
  obtain ⟨a, b⟩ := out30 D
  refine ⟨a, b, ?_⟩
  rw [ndx0]
  exact hf _ (Dn_setE D) (sE_set S' (A 30 0) 0 x)
theorem outB {V' : VV} {S' : St} {r : Int32} {f : Int32 → St → Prop} (hr : r = 0 ∨ r = 1) (D : Dn A M V' S') (hf : ∀ S2, Dn A M V' S2 → sJ S2 (A 29 0) 0 = Int32.toInt64 r → f 0 S2) : ((r = 0) → ok S' (A 29 0) 103 ∧ vp_in 0 (sN S' (A 29 0)) ∧ f 0 (setJ S' (A 29 0) (Int32.toNatClampNeg 0) 0)) ∧ ((¬ r = 0) → ok S' (A 29 0) 103 ∧ vp_in 0 (sN S' (A 29 0)) ∧ f 0 (setJ S' (A 29 0) (Int32.toNatClampNeg 0) 1)) := by
  refine ⟨fun e => outJ D (fun S2 D2 h => hf S2 D2 ?_), fun e => outJ D (fun S2 D2 h => hf S2 D2 ?_)⟩
  · rw [h, e]
    decide
  · rw [h, hr.resolve_left e]
    decide
theorem hzE (I : Iv V) : nE V < 8 → cn V (nE V) = 0 ∧ ∀ k, k < 5 → V 19 (5 * nE V + k) = 0 := fun h => by
  obtain ⟨a, b⟩ := I.2.2.2.2.2.2 (nE V) (Nat.le_refl _) h
  refine ⟨?_, b⟩
  unfold cn
  rw [a]
  rfl
theorem VRI (I : Iv V) : VR V := ⟨fun w hw => (I.2.2.2.1.2.2.2.1 w hw).2, fun l hl => (I.2.2.2.1.2.2.1 l hl).1⟩
theorem CH01 {x y r : Int32} (h : spCH V x y 0 r) : r = 0 ∨ r = 1 := by
  rcases h with ⟨_, h⟩ | ⟨i, j, _, _, _, _, _, h⟩
  · exact absurd h (by decide)
  · rw [h]
    split
    · exact Or.inr rfl
    · exact Or.inl rfl
theorem CT01 {x y r : Int32} (h : spCT V x y 0 r) : r = 0 ∨ r = 1 := by
  rcases h with ⟨_, h⟩ | ⟨e, _, _, ⟨_, h⟩ | ⟨q, _, _, ⟨_, h⟩ | ⟨_, _, ⟨_, h⟩ | ⟨_, h⟩⟩⟩⟩
  · exact absurd h (by decide)
  · exact absurd h (by decide)
  · exact absurd h (by decide)
  · exact Or.inr h
  · exact Or.inl h
def spTk (V : VV) (x y : Int32) (k : Nat) (r : Int32) : Prop := spU V x y k ∧ (k = 0 → r = tk V x y)
def spHg (V : VV) (x y : Int32) (k : Nat) (r : Int32) : Prop := spU V x y k ∧ (k = 0 → r = hg V x y)
def spSh (V : VV) (x y : Int32) (k : Nat) (r : UInt32) : Prop := spU V x y k ∧ (k = 0 → r = shr V x y)
theorem spTk_det {x y : Int32} {k k' : Nat} {r r' : Int32} (h : spTk V x y k r) (h' : spTk V x y k' r') : k = k' ∧ (k = 0 → r = r') := by
  have e := spU_det h.1 h'.1
  exact ⟨e, fun a => (h.2 a).trans (h'.2 (by omega)).symm⟩
theorem spHg_det {x y : Int32} {k k' : Nat} {r r' : Int32} (h : spHg V x y k r) (h' : spHg V x y k' r') : k = k' ∧ (k = 0 → r = r') := by
  have e := spU_det h.1 h'.1
  exact ⟨e, fun a => (h.2 a).trans (h'.2 (by omega)).symm⟩
theorem spSh_det {x y : Int32} {k k' : Nat} {r r' : UInt32} (h : spSh V x y k r) (h' : spSh V x y k' r') : k = k' ∧ (k = 0 → r = r') := by
  have e := spU_det h.1 h'.1
  exact ⟨e, fun a => (h.2 a).trans (h'.2 (by omega)).symm⟩
theorem spL_Iv {V' : VV} {a b c r : Int32} {k : Nat} (I : Iv V) (h : spL V a b c k r V') : Iv V' := by
  rcases h with ⟨_, _, e⟩ | ⟨_, _, _, e⟩ | ⟨hi, hn, _, _, e⟩
  · rw [e]; exact I
  · rw [e]; exact I
  · rw [e]; exact addL_Iv I hn hi
theorem spW_Iv {V' : VV} {a b c d e' f r : Int32} {k : Nat} (I : Iv V) (h : spW V a b c d e' f k r V') : Iv V' := by
  rcases h with ⟨_, _, e⟩ | ⟨_, _, _, e⟩ | ⟨hi, hn, _, _, e⟩
  · rw [e]; exact I
  · rw [e]; exact I
  · rw [e]; exact addW_Iv I hn hi
theorem spE_Iv {V' : VV} {a b c r : Int32} {k : Nat} (I : Iv V) (h : spE V a b c k r V') : Iv V' := by
  rcases h with ⟨_, _, e⟩ | ⟨_, _, _, e⟩ | ⟨hi, hn, _, _, e⟩
  · rw [e]; exact I
  · rw [e]; exact I
  · rw [e]; exact addE_Iv I hn hi
theorem spInc_Iv {V' : VV} {x y r : Int32} {k : Nat} (I : Iv V) (h : spInc V x y k r V') : Iv V' := by
  rcases h with ⟨_, _, e⟩ | ⟨q, hq, _, ⟨_, _, e⟩ | ⟨w, hw, _, ⟨_, _, e⟩ | ⟨h1, h2, h3, _, _, e⟩⟩⟩
  · rw [e]; exact I
  · rw [e]; exact I
  · rw [e]; exact I
  · rw [e]; exact incV_Iv I hq hw h1 h2 h3
theorem e_addRoom (R : Rep S A V M) (C : CV V M) (I : Iv V) {x1 x2 x3 x4 : Int32} {g : Int32 → St → Prop} (hf : ∀ (k : Nat) (r : Int32) (V' : VV) (S' : St), (spR V x1 x2 x3 x4 k r V') → k ≤ 4 → Dn A M V' S' → (k = 0 → sJ S' (A 29 0) 0 = Int32.toInt64 r) → g (z k) S') : w_L_addRoom S (A 10 0) x1 x2 x3 x4 (A 29 0) g := by
  have K := I.2.2.2.2.2.1.1
  have hR4 := I.1.2.2.2.2.1
  unfold w_L_addRoom
  exact ⟨o10 R, s_addRoom R C K (fun r V' S' p D => outJ D (fun S2 D2 e => hf 0 r V' S2 p (by decide) D2 (fun _ => e))) (fun p => Or.inl ⟨rfl, hf 1 0 V S p (by decide) (Dn.same R C K) (fun h => absurd h (by decide))⟩) (fun p => Or.inr (⟨rfl, hf 2 0 V S p (by decide) (Dn.same R C K) (fun h => absurd h (by decide))⟩))⟩
theorem e_setClimate (R : Rep S A V M) (C : CV V M) (I : Iv V) {x1 x2 x3 : Int32} {g : Int32 → St → Prop} (hf : ∀ (k : Nat) (r : Int32) (V' : VV) (S' : St), (spClim V x1 x2 x3 k r V') → k ≤ 4 → Dn A M V' S' → (k = 0 → sJ S' (A 29 0) 0 = Int32.toInt64 r) → g (z k) S') : w_L_setClimate S (A 10 0) x1 x2 x3 (A 29 0) g := by
  have K := I.2.2.2.2.2.1.1
  have hR4 := I.1.2.2.2.2.1
  unfold w_L_setClimate
  exact ⟨o10 R, s_setClimate R C K hR4 (fun r V' S' p D => outJ D (fun S2 D2 e => hf 0 r V' S2 p (by decide) D2 (fun _ => e))) (fun p => Or.inl ⟨rfl, hf 1 0 V S p (by decide) (Dn.same R C K) (fun h => absurd h (by decide))⟩) (fun p => Or.inr (⟨rfl, hf 2 0 V S p (by decide) (Dn.same R C K) (fun h => absurd h (by decide))⟩))⟩
theorem e_addLender (R : Rep S A V M) (C : CV V M) (I : Iv V) {x1 x2 x3 : Int32} {g : Int32 → St → Prop} (hf : ∀ (k : Nat) (r : Int32) (V' : VV) (S' : St), (spL V x1 x2 x3 k r V') → k ≤ 4 → Dn A M V' S' → (k = 0 → sJ S' (A 29 0) 0 = Int32.toInt64 r) → g (z k) S') : w_L_addLender S (A 10 0) x1 x2 x3 (A 29 0) g := by
  have K := I.2.2.2.2.2.1.1
  have hR4 := I.1.2.2.2.2.1
  unfold w_L_addLender
  exact ⟨o10 R, s_addLender R C K (fun r V' S' p D => outJ D (fun S2 D2 e => hf 0 r V' S2 p (by decide) D2 (fun _ => e))) (fun p => Or.inl ⟨rfl, hf 1 0 V S p (by decide) (Dn.same R C K) (fun h => absurd h (by decide))⟩) (fun p => Or.inr (⟨rfl, hf 2 0 V S p (by decide) (Dn.same R C K) (fun h => absurd h (by decide))⟩))⟩
theorem e_addWork (R : Rep S A V M) (C : CV V M) (I : Iv V) {x1 x2 x3 x4 x5 x6 : Int32} {g : Int32 → St → Prop} (hf : ∀ (k : Nat) (r : Int32) (V' : VV) (S' : St), (spW V x1 x2 x3 x4 x5 x6 k r V') → k ≤ 4 → Dn A M V' S' → (k = 0 → sJ S' (A 29 0) 0 = Int32.toInt64 r) → g (z k) S') : w_L_addWork S (A 10 0) x1 x2 x3 x4 x5 x6 (A 29 0) g := by
  have K := I.2.2.2.2.2.1.1
  have hR4 := I.1.2.2.2.2.1
  unfold w_L_addWork
  exact ⟨o10 R, s_addWork R C K (fun r V' S' p D => outJ D (fun S2 D2 e => hf 0 r V' S2 p (by decide) D2 (fun _ => e))) (fun p => Or.inl ⟨rfl, hf 1 0 V S p (by decide) (Dn.same R C K) (fun h => absurd h (by decide))⟩) (fun p => Or.inr (⟨rfl, hf 2 0 V S p (by decide) (Dn.same R C K) (fun h => absurd h (by decide))⟩))⟩
theorem e_separate (R : Rep S A V M) (C : CV V M) (I : Iv V) {x1 x2 x3 : Int32} {g : Int32 → St → Prop} (hf : ∀ (k : Nat) (r : Int32) (V' : VV) (S' : St), (spSep V x1 x2 x3 k r V') → k ≤ 4 → Dn A M V' S' → (k = 0 → sJ S' (A 29 0) 0 = Int32.toInt64 r) → g (z k) S') : w_L_separate S (A 10 0) x1 x2 x3 (A 29 0) g := by
  have K := I.2.2.2.2.2.1.1
  have hR4 := I.1.2.2.2.2.1
  unfold w_L_separate
  exact ⟨o10 R, s_separate R C K hR4 (fun r V' S' p D => outJ D (fun S2 D2 e => hf 0 r V' S2 p (by decide) D2 (fun _ => e))) (fun p => Or.inl ⟨rfl, hf 1 0 V S p (by decide) (Dn.same R C K) (fun h => absurd h (by decide))⟩) (fun p => Or.inr (Or.inl ⟨rfl, hf 2 0 V S p (by decide) (Dn.same R C K) (fun h => absurd h (by decide))⟩)) (fun p => Or.inr (Or.inr (⟨rfl, hf 3 0 V S p (by decide) (Dn.same R C K) (fun h => absurd h (by decide))⟩)))⟩
theorem e_separation (R : Rep S A V M) (C : CV V M) (I : Iv V) {x1 x2 : Int32} {g : Int32 → St → Prop} (hf : ∀ (k : Nat) (r : Int32) (V' : VV) (S' : St), (spSpn V x1 x2 k r ∧ V' = V) → k ≤ 4 → Dn A M V' S' → (k = 0 → sJ S' (A 29 0) 0 = Int32.toInt64 r) → g (z k) S') : w_L_separation S (A 10 0) x1 x2 (A 29 0) g := by
  have K := I.2.2.2.2.2.1.1
  have hR4 := I.1.2.2.2.2.1
  unfold w_L_separation
  exact ⟨o10 R, s_separation R C K (fun r p => outJ (Dn.same R C K) (fun S2 D2 e => hf 0 r V S2 ⟨p, rfl⟩ (by decide) D2 (fun _ => e))) (fun p => ⟨rfl, hf 1 0 V S ⟨p, rfl⟩ (by decide) (Dn.same R C K) (fun h => absurd h (by decide))⟩)⟩
theorem e_canHang (R : Rep S A V M) (C : CV V M) (I : Iv V) {x1 x2 : Int32} {g : Int32 → St → Prop} (hf : ∀ (k : Nat) (r : Int32) (V' : VV) (S' : St), (spCH V x1 x2 k r ∧ V' = V) → k ≤ 4 → Dn A M V' S' → (k = 0 → sJ S' (A 29 0) 0 = Int32.toInt64 r) → g (z k) S') : w_L_canHang S (A 10 0) x1 x2 (A 29 0) g := by
  have K := I.2.2.2.2.2.1.1
  have hR4 := I.1.2.2.2.2.1
  unfold w_L_canHang
  exact ⟨o10 R, s_canHang R C (fun r p => outB (CH01 p) (Dn.same R C K) (fun S2 D2 e => hf 0 r V S2 ⟨p, rfl⟩ (by decide) D2 (fun _ => e))) (fun p => ⟨rfl, hf 1 0 V S ⟨p, rfl⟩ (by decide) (Dn.same R C K) (fun h => absurd h (by decide))⟩)⟩
theorem e_addExhibition (R : Rep S A V M) (C : CV V M) (I : Iv V) {x1 x2 x3 : Int32} {g : Int32 → St → Prop} (hf : ∀ (k : Nat) (r : Int32) (V' : VV) (S' : St), (spE V x1 x2 x3 k r V') → k ≤ 4 → Dn A M V' S' → (k = 0 → sJ S' (A 29 0) 0 = Int32.toInt64 r) → g (z k) S') : w_L_addExhibition S (A 10 0) x1 x2 x3 (A 29 0) g := by
  have K := I.2.2.2.2.2.1.1
  have hR4 := I.1.2.2.2.2.1
  unfold w_L_addExhibition
  exact ⟨o10 R, s_addExhibition R C K (hzE I) (fun r V' S' p D => outJ D (fun S2 D2 e => hf 0 r V' S2 p (by decide) D2 (fun _ => e))) (fun p => Or.inl ⟨rfl, hf 1 0 V S p (by decide) (Dn.same R C K) (fun h => absurd h (by decide))⟩) (fun p => Or.inr (⟨rfl, hf 2 0 V S p (by decide) (Dn.same R C K) (fun h => absurd h (by decide))⟩))⟩
theorem e_include (R : Rep S A V M) (C : CV V M) (I : Iv V) {x1 x2 : Int32} {g : Int32 → St → Prop} (hf : ∀ (k : Nat) (r : Int32) (V' : VV) (S' : St), (spInc V x1 x2 k r V') → k ≤ 4 → Dn A M V' S' → (k = 0 → sJ S' (A 29 0) 0 = Int32.toInt64 r) → g (z k) S') : w_L_include S (A 10 0) x1 x2 (A 29 0) g := by
  have K := I.2.2.2.2.2.1.1
  have hR4 := I.1.2.2.2.2.1
  unfold w_L_include
  exact ⟨o10 R, s_include R C K (fun r V' S' p D => outJ D (fun S2 D2 e => hf 0 r V' S2 p (by decide) D2 (fun _ => e))) (fun p => Or.inl ⟨rfl, hf 1 0 V S p (by decide) (Dn.same R C K) (fun h => absurd h (by decide))⟩) (fun p => Or.inr (Or.inl ⟨rfl, hf 2 0 V S p (by decide) (Dn.same R C K) (fun h => absurd h (by decide))⟩)) (fun p => Or.inr (Or.inr (⟨rfl, hf 3 0 V S p (by decide) (Dn.same R C K) (fun h => absurd h (by decide))⟩)))⟩
theorem e_request (R : Rep S A V M) (C : CV V M) (I : Iv V) {x1 : Int32} {g : Int32 → St → Prop} (hf : ∀ (k : Nat) (r : Int32) (V' : VV) (S' : St), (spReq V x1 k r V') → k ≤ 4 → Dn A M V' S' → (k = 0 → sJ S' (A 29 0) 0 = Int32.toInt64 r) → g (z k) S') : w_L_request S (A 10 0) x1 (A 29 0) g := by
  have K := I.2.2.2.2.2.1.1
  have hR4 := I.1.2.2.2.2.1
  unfold w_L_request
  exact ⟨o10 R, s_request R C K hR4 (fun r V' S' p D => outJ D (fun S2 D2 e => hf 0 r V' S2 p (by decide) D2 (fun _ => e))) (fun p => Or.inl ⟨rfl, hf 1 0 V S p (by decide) (Dn.same R C K) (fun h => absurd h (by decide))⟩) (fun p => Or.inr (Or.inl ⟨rfl, hf 2 0 V S p (by decide) (Dn.same R C K) (fun h => absurd h (by decide))⟩)) (fun p => Or.inr (Or.inr (⟨rfl, hf 3 0 V S p (by decide) (Dn.same R C K) (fun h => absurd h (by decide))⟩)))⟩
theorem e_cancel (R : Rep S A V M) (C : CV V M) (I : Iv V) {x1 : Int32} {g : Int32 → St → Prop} (hf : ∀ (k : Nat) (r : Int32) (V' : VV) (S' : St), (spCan V x1 k r V') → k ≤ 4 → Dn A M V' S' → (k = 0 → sJ S' (A 29 0) 0 = Int32.toInt64 r) → g (z k) S') : w_L_cancel S (A 10 0) x1 (A 29 0) g := by
  have K := I.2.2.2.2.2.1.1
  have hR4 := I.1.2.2.2.2.1
  unfold w_L_cancel
  exact ⟨o10 R, s_cancel R C K hR4 (fun r V' S' p D => outJ D (fun S2 D2 e => hf 0 r V' S2 p (by decide) D2 (fun _ => e))) (fun p => Or.inl ⟨rfl, hf 1 0 V S p (by decide) (Dn.same R C K) (fun h => absurd h (by decide))⟩) (fun p => Or.inr (⟨rfl, hf 2 0 V S p (by decide) (Dn.same R C K) (fun h => absurd h (by decide))⟩))⟩
theorem e_stateOf (R : Rep S A V M) (C : CV V M) (I : Iv V) {x1 : Int32} {g : Int32 → St → Prop} (hf : ∀ (k : Nat) (r : Int32) (V' : VV) (S' : St), (spSt V x1 k r ∧ V' = V) → k ≤ 4 → Dn A M V' S' → (k = 0 → sJ S' (A 29 0) 0 = Int32.toInt64 r) → g (z k) S') : w_L_stateOf S (A 10 0) x1 (A 29 0) g := by
  have K := I.2.2.2.2.2.1.1
  have hR4 := I.1.2.2.2.2.1
  unfold w_L_stateOf
  exact ⟨o10 R, s_stateOf R C I.2.2.2.2.1.1 (fun r p => outJ (Dn.same R C K) (fun S2 D2 e => hf 0 r V S2 ⟨p, rfl⟩ (by decide) D2 (fun _ => e))) (fun p => ⟨rfl, hf 1 0 V S ⟨p, rfl⟩ (by decide) (Dn.same R C K) (fun h => absurd h (by decide))⟩)⟩
theorem e_worksOf (R : Rep S A V M) (C : CV V M) (I : Iv V) {x1 : Int32} {g : Int32 → St → Prop} (hf : ∀ (k : Nat) (r : Int32) (V' : VV) (S' : St), (spWs V x1 k r ∧ V' = V) → k ≤ 4 → Dn A M V' S' → (k = 0 → sJ S' (A 29 0) 0 = Int32.toInt64 r) → g (z k) S') : w_L_worksOf S (A 10 0) x1 (A 29 0) g := by
  have K := I.2.2.2.2.2.1.1
  have hR4 := I.1.2.2.2.2.1
  unfold w_L_worksOf
  exact ⟨o10 R, s_worksOf R (fun r p => outJ (Dn.same R C K) (fun S2 D2 e => hf 0 r V S2 ⟨p, rfl⟩ (by decide) D2 (fun _ => e))) (fun p => ⟨rfl, hf 1 0 V S ⟨p, rfl⟩ (by decide) (Dn.same R C K) (fun h => absurd h (by decide))⟩)⟩
theorem e_workOf (R : Rep S A V M) (C : CV V M) (I : Iv V) {x1 x2 : Int32} {g : Int32 → St → Prop} (hf : ∀ (k : Nat) (r : Int32) (V' : VV) (S' : St), (spWk V x1 x2 k r ∧ V' = V) → k ≤ 4 → Dn A M V' S' → (k = 0 → sJ S' (A 29 0) 0 = Int32.toInt64 r) → g (z k) S') : w_L_workOf S (A 10 0) x1 x2 (A 29 0) g := by
  have K := I.2.2.2.2.2.1.1
  have hR4 := I.1.2.2.2.2.1
  unfold w_L_workOf
  exact ⟨o10 R, s_workOf R C (fun r p => outJ (Dn.same R C K) (fun S2 D2 e => hf 0 r V S2 ⟨p, rfl⟩ (by decide) D2 (fun _ => e))) (fun p => Or.inl ⟨rfl, hf 1 0 V S ⟨p, rfl⟩ (by decide) (Dn.same R C K) (fun h => absurd h (by decide))⟩) (fun p => Or.inr (⟨rfl, hf 2 0 V S ⟨p, rfl⟩ (by decide) (Dn.same R C K) (fun h => absurd h (by decide))⟩))⟩
theorem e_wallOf (R : Rep S A V M) (C : CV V M) (I : Iv V) {x1 x2 : Int32} {g : Int32 → St → Prop} (hf : ∀ (k : Nat) (r : Int32) (V' : VV) (S' : St), (spWl V x1 x2 k r ∧ V' = V) → k ≤ 4 → Dn A M V' S' → (k = 0 → sJ S' (A 29 0) 0 = Int32.toInt64 r) → g (z k) S') : w_L_wallOf S (A 10 0) x1 x2 (A 29 0) g := by
  have K := I.2.2.2.2.2.1.1
  have hR4 := I.1.2.2.2.2.1
  unfold w_L_wallOf
  exact ⟨o10 R, s_wallOf R C (fun r p => outJ (Dn.same R C K) (fun S2 D2 e => hf 0 r V S2 ⟨p, rfl⟩ (by decide) D2 (fun _ => e))) (fun p => Or.inl ⟨rfl, hf 1 0 V S ⟨p, rfl⟩ (by decide) (Dn.same R C K) (fun h => absurd h (by decide))⟩) (fun p => Or.inr (Or.inl ⟨rfl, hf 2 0 V S ⟨p, rfl⟩ (by decide) (Dn.same R C K) (fun h => absurd h (by decide))⟩)) (fun p => Or.inr (Or.inr (⟨rfl, hf 3 0 V S ⟨p, rfl⟩ (by decide) (Dn.same R C K) (fun h => absurd h (by decide))⟩)))⟩
theorem e_canTake (R : Rep S A V M) (C : CV V M) (I : Iv V) {x1 x2 : Int32} {g : Int32 → St → Prop} (hf : ∀ (k : Nat) (r : Int32) (V' : VV) (S' : St), (spCT V x1 x2 k r ∧ V' = V) → k ≤ 4 → Dn A M V' S' → (k = 0 → sJ S' (A 29 0) 0 = Int32.toInt64 r) → g (z k) S') : w_L_canTake S (A 10 0) x1 x2 (A 29 0) g := by
  have K := I.2.2.2.2.2.1.1
  have hR4 := I.1.2.2.2.2.1
  unfold w_L_canTake
  exact ⟨o10 R, s_canTake R C (fun r p => outB (CT01 p) (Dn.same R C K) (fun S2 D2 e => hf 0 r V S2 ⟨p, rfl⟩ (by decide) D2 (fun _ => e))) (fun p => Or.inl ⟨rfl, hf 1 0 V S ⟨p, rfl⟩ (by decide) (Dn.same R C K) (fun h => absurd h (by decide))⟩) (fun p => Or.inr (Or.inl ⟨rfl, hf 2 0 V S ⟨p, rfl⟩ (by decide) (Dn.same R C K) (fun h => absurd h (by decide))⟩)) (fun p => Or.inr (Or.inr (⟨rfl, hf 3 0 V S ⟨p, rfl⟩ (by decide) (Dn.same R C K) (fun h => absurd h (by decide))⟩)))⟩
theorem e_wallFor (R : Rep S A V M) (C : CV V M) (I : Iv V) {x1 x2 : Int32} {g : Int32 → St → Prop} (hf : ∀ (k : Nat) (r : Int32) (V' : VV) (S' : St), (spWF V x1 x2 k r ∧ V' = V) → k ≤ 4 → Dn A M V' S' → (k = 0 → sJ S' (A 29 0) 0 = Int32.toInt64 r) → g (z k) S') : w_L_wallFor S (A 10 0) x1 x2 (A 29 0) g := by
  have K := I.2.2.2.2.2.1.1
  have hR4 := I.1.2.2.2.2.1
  unfold w_L_wallFor
  exact ⟨o10 R, s_wallFor R C K hR4 (fun r S' p D => outJ D (fun S2 D2 e => hf 0 r V S2 ⟨p, rfl⟩ (by decide) D2 (fun _ => e))) (fun p => Or.inl ⟨rfl, hf 1 0 V S ⟨p, rfl⟩ (by decide) (Dn.same R C K) (fun h => absurd h (by decide))⟩) (fun p => Or.inr (Or.inl ⟨rfl, hf 2 0 V S ⟨p, rfl⟩ (by decide) (Dn.same R C K) (fun h => absurd h (by decide))⟩)) (fun p => Or.inr (Or.inr (Or.inl ⟨rfl, hf 3 0 V S ⟨p, rfl⟩ (by decide) (Dn.same R C K) (fun h => absurd h (by decide))⟩))) (fun S' p D => Or.inr (Or.inr (Or.inr (⟨rfl, hf 4 0 V S' ⟨p, rfl⟩ (by decide) D (fun h => absurd h (by decide))⟩))))⟩
theorem e_wallForBySearch (R : Rep S A V M) (C : CV V M) (I : Iv V) {x1 x2 : Int32} {g : Int32 → St → Prop} (hf : ∀ (k : Nat) (r : Int32) (V' : VV) (S' : St), (spWF V x1 x2 k r ∧ V' = V) → k ≤ 4 → Dn A M V' S' → (k = 0 → sJ S' (A 29 0) 0 = Int32.toInt64 r) → g (z k) S') : w_L_wallForBySearch S (A 10 0) x1 x2 (A 29 0) g := by
  have K := I.2.2.2.2.2.1.1
  have hR4 := I.1.2.2.2.2.1
  unfold w_L_wallForBySearch
  exact ⟨o10 R, s_wallForS R C K hR4 (fun r S' p D => outJ D (fun S2 D2 e => hf 0 r V S2 ⟨p, rfl⟩ (by decide) D2 (fun _ => e))) (fun p => Or.inl ⟨rfl, hf 1 0 V S ⟨p, rfl⟩ (by decide) (Dn.same R C K) (fun h => absurd h (by decide))⟩) (fun p => Or.inr (Or.inl ⟨rfl, hf 2 0 V S ⟨p, rfl⟩ (by decide) (Dn.same R C K) (fun h => absurd h (by decide))⟩)) (fun p => Or.inr (Or.inr (Or.inl ⟨rfl, hf 3 0 V S ⟨p, rfl⟩ (by decide) (Dn.same R C K) (fun h => absurd h (by decide))⟩))) (fun S' p D => Or.inr (Or.inr (Or.inr (⟨rfl, hf 4 0 V S' ⟨p, rfl⟩ (by decide) D (fun h => absurd h (by decide))⟩))))⟩
theorem e_trips (R : Rep S A V M) (C : CV V M) (I : Iv V) {x1 x2 : Int32} {g : Int32 → St → Prop} (hf : ∀ (k : Nat) (r : Int32) (V' : VV) (S' : St), (spTr V x1 x2 k r ∧ V' = V) → k ≤ 4 → Dn A M V' S' → (k = 0 → sJ S' (A 29 0) 0 = Int32.toInt64 r) → g (z k) S') : w_L_trips S (A 10 0) x1 x2 (A 29 0) g := by
  have K := I.2.2.2.2.2.1.1
  have hR4 := I.1.2.2.2.2.1
  unfold w_L_trips
  exact ⟨o10 R, s_trips R C K (VRI I) (fun r S' p D => outJ D (fun S2 D2 e => hf 0 r V S2 ⟨p, rfl⟩ (by decide) D2 (fun _ => e))) (fun p => Or.inl ⟨rfl, hf 1 0 V S ⟨p, rfl⟩ (by decide) (Dn.same R C K) (fun h => absurd h (by decide))⟩) (fun p => Or.inr (Or.inl ⟨rfl, hf 2 0 V S ⟨p, rfl⟩ (by decide) (Dn.same R C K) (fun h => absurd h (by decide))⟩)) (fun S' p D => Or.inr (Or.inr (⟨rfl, hf 3 0 V S' ⟨p, rfl⟩ (by decide) D (fun h => absurd h (by decide))⟩)))⟩
theorem e_tripsByTrying (R : Rep S A V M) (C : CV V M) (I : Iv V) {x1 x2 : Int32} {g : Int32 → St → Prop} (hf : ∀ (k : Nat) (r : Int32) (V' : VV) (S' : St), (spTr V x1 x2 k r ∧ V' = V) → k ≤ 4 → Dn A M V' S' → (k = 0 → sJ S' (A 29 0) 0 = Int32.toInt64 r) → g (z k) S') : w_L_tripsByTrying S (A 10 0) x1 x2 (A 29 0) g := by
  have K := I.2.2.2.2.2.1.1
  have hR4 := I.1.2.2.2.2.1
  unfold w_L_tripsByTrying
  exact ⟨o10 R, s_tripsT R C K (VRI I) (fun r S' p D => outJ D (fun S2 D2 e => hf 0 r V S2 ⟨p, rfl⟩ (by decide) D2 (fun _ => e))) (fun p => Or.inl ⟨rfl, hf 1 0 V S ⟨p, rfl⟩ (by decide) (Dn.same R C K) (fun h => absurd h (by decide))⟩) (fun p => Or.inr (Or.inl ⟨rfl, hf 2 0 V S ⟨p, rfl⟩ (by decide) (Dn.same R C K) (fun h => absurd h (by decide))⟩)) (fun S' p D => Or.inr (Or.inr (⟨rfl, hf 3 0 V S' ⟨p, rfl⟩ (by decide) D (fun h => absurd h (by decide))⟩)))⟩
theorem e_taken (R : Rep S A V M) (C : CV V M) (I : Iv V) {x1 x2 : Int32} {g : Int32 → St → Prop} (hf : ∀ (k : Nat) (r : Int32) (V' : VV) (S' : St), (spTk V x1 x2 k r ∧ V' = V) → k ≤ 4 → Dn A M V' S' → (k = 0 → sJ S' (A 29 0) 0 = Int32.toInt64 r) → g (z k) S') : w_L_taken S (A 10 0) x1 x2 (A 29 0) g := by
  have K := I.2.2.2.2.2.1.1
  have hR4 := I.1.2.2.2.2.1
  unfold w_L_taken
  exact ⟨o10 R, s_taken R C (fun p => outJ (Dn.same R C K) (fun S2 D2 e => hf 0 _ V S2 ⟨⟨p, fun _ => rfl⟩, rfl⟩ (by decide) D2 (fun _ => e))) (fun p => Or.inl ⟨rfl, hf 1 0 V S ⟨⟨p, fun h => absurd h (by decide)⟩, rfl⟩ (by decide) (Dn.same R C K) (fun h => absurd h (by decide))⟩) (fun p => Or.inr (⟨rfl, hf 2 0 V S ⟨⟨p, fun h => absurd h (by decide)⟩, rfl⟩ (by decide) (Dn.same R C K) (fun h => absurd h (by decide))⟩))⟩
theorem e_hanging (R : Rep S A V M) (C : CV V M) (I : Iv V) {x1 x2 : Int32} {g : Int32 → St → Prop} (hf : ∀ (k : Nat) (r : Int32) (V' : VV) (S' : St), (spHg V x1 x2 k r ∧ V' = V) → k ≤ 4 → Dn A M V' S' → (k = 0 → sJ S' (A 29 0) 0 = Int32.toInt64 r) → g (z k) S') : w_L_hanging S (A 10 0) x1 x2 (A 29 0) g := by
  have K := I.2.2.2.2.2.1.1
  have hR4 := I.1.2.2.2.2.1
  unfold w_L_hanging
  exact ⟨o10 R, s_hanging R C (fun p => outJ (Dn.same R C K) (fun S2 D2 e => hf 0 _ V S2 ⟨⟨p, fun _ => rfl⟩, rfl⟩ (by decide) D2 (fun _ => e))) (fun p => Or.inl ⟨rfl, hf 1 0 V S ⟨⟨p, fun h => absurd h (by decide)⟩, rfl⟩ (by decide) (Dn.same R C K) (fun h => absurd h (by decide))⟩) (fun p => Or.inr (⟨rfl, hf 2 0 V S ⟨⟨p, fun h => absurd h (by decide)⟩, rfl⟩ (by decide) (Dn.same R C K) (fun h => absurd h (by decide))⟩))⟩
theorem e_awayFor (R : Rep S A V M) (C : CV V M) (I : Iv V) {x1 x2 : Int32} {g : Int32 → St → Prop} (hf : ∀ (k : Nat) (r : Int32) (V' : VV) (S' : St), (spAw V x1 x2 k r ∧ V' = V) → k ≤ 4 → Dn A M V' S' → (k = 0 → sJ S' (A 29 0) 0 = Int32.toInt64 r) → g (z k) S') : w_L_awayFor S (A 10 0) x1 x2 (A 29 0) g := by
  have K := I.2.2.2.2.2.1.1
  have hR4 := I.1.2.2.2.2.1
  unfold w_L_awayFor
  exact ⟨o10 R, s_awayFor R C (fun r p => outJ (Dn.same R C K) (fun S2 D2 e => hf 0 r V S2 ⟨p, rfl⟩ (by decide) D2 (fun _ => e))) (fun p => Or.inl ⟨rfl, hf 1 0 V S ⟨p, rfl⟩ (by decide) (Dn.same R C K) (fun h => absurd h (by decide))⟩) (fun p => Or.inr (Or.inl ⟨rfl, hf 2 0 V S ⟨p, rfl⟩ (by decide) (Dn.same R C K) (fun h => absurd h (by decide))⟩)) (fun p => Or.inr (Or.inr (⟨rfl, hf 3 0 V S ⟨p, rfl⟩ (by decide) (Dn.same R C K) (fun h => absurd h (by decide))⟩)))⟩
theorem e_meanWorks (R : Rep S A V M) (C : CV V M) (I : Iv V) {g : Int32 → St → Prop} (hf : ∀ (k : Nat) (r : UInt64) (V' : VV) (S' : St), (spMW V k r ∧ V' = V) → k ≤ 4 → Dn A M V' S' → (k = 0 → sE S' (A 30 0) 0 = r ∧ vf_n64 r) → g (z k) S') : w_L_meanWorks S (A 10 0) (A 30 0) g := by
  have K := I.2.2.2.2.2.1.1
  unfold w_L_meanWorks
  exact ⟨o10 R, s_meanWorks R C I.1 I.2.1 (fun r p hv => outE (Dn.same R C K) (fun S2 D2 e => hf 0 r V S2 ⟨p, rfl⟩ (by decide) D2 (fun _ => ⟨e, hv⟩))) (fun p => ⟨rfl, hf 1 0 V S ⟨p, rfl⟩ (by decide) (Dn.same R C K) (fun h => absurd h (by decide))⟩)⟩
theorem e_share (R : Rep S A V M) (C : CV V M) (I : Iv V) {x1 x2 : Int32} {g : Int32 → St → Prop} (hf : ∀ (k : Nat) (r : UInt32) (V' : VV) (S' : St), (spSh V x1 x2 k r ∧ V' = V) → k ≤ 4 → Dn A M V' S' → (k = 0 → sE S' (A 30 0) 0 = FP.f2d r ∧ vf_n64 (FP.f2d r)) → g (z k) S') : w_L_share S (A 10 0) x1 x2 (A 30 0) g := by
  have K := I.2.2.2.2.2.1.1
  unfold w_L_share
  exact ⟨o10 R, s_share R C I.1 I.2.1 I.2.2.2.1 (fun p hv => ⟨f2d_ok hv, outE (Dn.same R C K) (fun S2 D2 e => hf 0 _ V S2 ⟨⟨p, fun _ => rfl⟩, rfl⟩ (by decide) D2 (fun _ => ⟨e, f2d_ok hv⟩))⟩) (fun p => Or.inl ⟨rfl, hf 1 0 V S ⟨⟨p, fun h => absurd h (by decide)⟩, rfl⟩ (by decide) (Dn.same R C K) (fun h => absurd h (by decide))⟩) (fun p => Or.inr ⟨rfl, hf 2 0 V S ⟨⟨p, fun h => absurd h (by decide)⟩, rfl⟩ (by decide) (Dn.same R C K) (fun h => absurd h (by decide))⟩)⟩
end EL
