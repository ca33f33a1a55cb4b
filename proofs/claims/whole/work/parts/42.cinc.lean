/-! ===== a work more in an exhibition ===== -/
def A21 (A : Nat → Nat → Nat) (e d' : Nat) : Nat → Nat → Nat := fun t j => if t = 21 ∧ j = e then d' else A t j
def M21 (M : MM) (e n : Nat) (fd : Nat → Int32) (m : Int32) : MM := fun t j => if t = 21 ∧ j = e then fd else if t = 20 ∧ j = e then upd (upd (M 20 e) 0 m) 2 (z (n + 1)) else M t j
theorem incV_row {V : VV} {e w k : Nat} (h1 : k ≠ 17) (h2 : k ≠ 18) : incV V e w k = V k := by
  unfold incV
  rw [up2_n _ _ h1, up2_n _ _ h2]
theorem incV_cn {V : VV} {e w : Nat} (hc : cn V e < 5) (g : Nat) : cn (incV V e w) g = if g = e then cn V e + 1 else cn V g := by
  unfold cn incV
  rw [up2_s, upd_ap]
  by_cases h : g = e
  · rw [if_pos h, if_pos h]
    exact z_c (by omega)
  · rw [if_neg h, if_neg h, up2_n _ _ (by decide)]
theorem incV_ic {V : VV} {e w : Nat} (hc : cn V e < 5) (hw : w < 1000) {g k : Nat} (hk : k < 5) : ic (incV V e w) g k = if g = e ∧ k = cn V e then w else ic V g k := by
  unfold ic incV
  rw [up2_n _ _ (by decide), up2_s, upd_ap]
  by_cases h : g = e ∧ k = cn V e
  · rw [if_pos h, h.1, h.2, if_pos rfl]
    exact z_c (by omega)
  · rw [if_neg h, if_neg (by omega)]
section SI
variable {S : St} {A : Nat → Nat → Nat} {V : VV} {M : MM} {exc : String → St → Prop}
theorem Rep_inc {S' : St} {e w d' : Nat} {m : Int32} (R : Rep S A V M) (he : e < nE V) (hc : cn V e < 5) (hw : w < nW V) (hap : Ap S S' (A 20 e) d' (cn V e) (A 9 w) (pt (sT S) A V 21 e) m) (hd' : (us V 21 e ∧ d' = A 21 e) ∨ d' ∉ sL S) : Rep S' (A21 A e d') (incV V e w) (M21 M e (cn V e) (sI S' d') m) := by
  have hbW := bW R
  have hAo : ∀ t j, ¬ (t = 21 ∧ j = e) → A21 A e d' t j = A t j := fun t j h => by unfold A21; rw [if_neg h]
  have hcn := incV_cn (V := V) (e := e) (w := w) hc
  have hE : nE (incV V e w) = nE V := by unfold nE; rw [incV_row (by decide) (by decide)]
  have hR : nR (incV V e w) = nR V := by unfold nR; rw [incV_row (by decide) (by decide)]
  have hL : nL (incV V e w) = nL V := by unfold nL; rw [incV_row (by decide) (by decide)]
  have hWW : nW (incV V e w) = nW V := by unfold nW; rw [incV_row (by decide) (by decide)]
  have hsz : sz (incV V e w) = sz V := by funext i; unfold sz; rw [hE, hR, hL, hWW]
  have how : ow (incV V e w) = ow V := by funext i; unfold ow; rw [incV_row (by decide) (by decide)]
  refine Rep_app (lt := 20) (dt := 21) (i := e) (n := cn V e) (b := A 9 w) (d' := d') (m := m) (N := fun _ _ => False) R (hAo 40 0 (fun h => absurd h.1 (by decide))) (show us V 20 e from he) (Or.inr ⟨rfl, rfl⟩) hap hd' (fun h => h) (fun t j h => ?_) (fun t j _ hne => hAo t j hne) ?_ (fun t j h => h.elim) (fun t j h => h.elim) (fun t j t' j' h => h.elim) (fun t j h h1 h2 => ?_) ?_ ?_ (fun t j h h1 h2 => ?_) ?_ ?_ (fun t j h h1 => ?_) ?_ (fun j hj => ?_) (fun g hg => ?_) (fun w' l hw' hl => ?_)
  · by_cases c1 : t = 21 ∧ j = e
    · exact Or.inl c1
    · refine Or.inr (Or.inr ⟨?_, c1, fun h => h⟩)
      unfold us at h ⊢
      rw [hE, hR, hL, hWW, hsz, hcn j] at h
      by_cases x : t = 21
      · have hje : j ≠ e := fun y => c1 ⟨x, y⟩
        rw [if_neg hje] at h
        exact h
      · by_cases hje : j = e
        · rw [if_pos hje] at h
          simp only [if_neg x] at h ⊢
          exact h
        · rw [if_neg hje] at h
          exact h
  · unfold A21
    rw [if_pos ⟨rfl, rfl⟩]
  · unfold M21
    rw [if_neg h1, if_neg h2]
  · unfold M21
    rw [if_neg (fun h => absurd h.1 (by decide)), if_pos ⟨rfl, rfl⟩]
  · unfold M21
    rw [if_pos ⟨rfl, rfl⟩]
  · have hje : t = 20 ∨ t = 21 → j ≠ e := fun x y => by
      rcases x with x | x
      · exact h2 ⟨x, y⟩
      · exact h1 ⟨x, y⟩
    refine pt_ext (fun _ => by rw [hsz]) (fun x => by rw [hcn j, if_neg (hje x)]) (fun x k hk => ?_) (fun _ => by rw [how]) (fun _ _ => hAo _ _ (fun y => absurd y.1 (by decide))) (fun x _ => hAo _ _ (fun y => hje (Or.inl x) y.2)) (fun x k _ => hAo _ _ (fun y => ?_)) (fun _ k _ => hAo _ _ (fun y => absurd y.1 (by decide))) (fun _ l _ => hAo _ _ (fun y => absurd y.1 (by decide))) (fun _ => ⟨hAo _ _ (fun y => absurd y.1 (by decide)), hAo _ _ (fun y => absurd y.1 (by decide))⟩) (fun t' j' x => hAo _ _ (fun y => by omega))
    · rw [x] at h
      have hb := bC R (i := j) h.1
      rw [incV_ic hc (by omega) (by omega), if_neg (fun y => hje (Or.inr x) y.1)]
    · have := (el_ne (i := j)).2.2
      omega
  · funext k
    rw [up_ap]
    show (if k = 1 then some (if cn (incV V e w) e = 0 then sT S else A21 A e d' 21 e) else none) = _
    rw [hcn e, if_pos rfl, if_neg (show ¬ cn V e + 1 = 0 by omega)]
    by_cases x : k = 1
    · rw [if_pos x, if_pos x]
      unfold A21
      rw [if_pos ⟨rfl, rfl⟩]
    · rw [if_neg x, if_neg x]
      show none = if k = 1 then _ else none
      rw [if_neg x]
  · funext k
    show (if k < cn (incV V e w) e then some (A21 A e d' 9 (ic (incV V e w) e k)) else none) = if k < cn V e then (if k < cn V e then some (A 9 (ic V e k)) else none) else if k = cn V e then some (A 9 w) else none
    rw [hcn e, if_pos rfl]
    by_cases x : k < cn V e
    · rw [if_pos (by omega), if_pos x, if_pos x, hAo _ _ (fun y => absurd y.1 (by decide)), incV_ic hc (by omega) (by omega), if_neg (by omega)]
    · rw [if_neg x]
      by_cases y : k = cn V e
      · rw [if_pos (by omega), if_pos y, hAo _ _ (fun y => absurd y.1 (by decide)), incV_ic hc (by omega) (by omega), if_pos ⟨rfl, y⟩]
      · rw [if_neg (by omega), if_neg y]
  · unfold nn
    rw [hsz]
  · show 10 = cp (cn V e + 1)
    unfold cp
    rw [if_pos (by omega)]
  · rw [hsz]
    unfold M21
    rw [if_neg (fun h => absurd h.1 (by decide)), if_neg (fun h => absurd h.1 (by decide))]
    exact R.2.2.2.2.2.1 j hj
  · rw [hE] at hg
    obtain ⟨k1, k2, k3⟩ := R.2.2.2.2.2.2.1 g hg
    rw [hcn g, hWW]
    unfold M21
    rw [if_neg (fun h => absurd h.1 (by decide))]
    by_cases x : g = e
    · subst x
      rw [if_pos ⟨rfl, rfl⟩, if_pos rfl, upd_s]
      refine ⟨rfl, by omega, fun k hk => ?_⟩
      rw [incV_ic hc (by omega) (by omega)]
      split
      · exact hw
      · next hx => exact k3 k (by omega)
    · rw [if_neg (fun h => x h.2), if_neg x]
      refine ⟨k1, k2, fun k hk => ?_⟩
      rw [incV_ic hc (by omega) (by omega), if_neg (fun y => x y.1)]
      exact k3 k hk
  · rw [hWW] at hw'
    rw [how] at hl
    rw [hL]
    exact bO R hw' hl
def spInc (V : VV) (x y : Int32) (k : Nat) (r : Int32) (V' : VV) : Prop :=
  (¬ ix (nE V) x ∧ k = 1 ∧ V' = V) ∨ ∃ e, e < nE V ∧ x = z e ∧ ((¬ ix (nW V) y ∧ k = 2 ∧ V' = V) ∨ ∃ w, w < nW V ∧ y = z w ∧
    (((V 16 e ≠ 100 ∨ 5 ≤ cn V e ∨ has V e w) ∧ k = 3 ∧ V' = V) ∨ (V 16 e = 100 ∧ cn V e < 5 ∧ ¬ has V e w ∧ k = 0 ∧ r = z (cn V e + 1) ∧ V' = incV V e w)))
theorem M21_o {e n t : Nat} {fd : Nat → Int32} {m : Int32} (h1 : t ≠ 21) (h2 : t ≠ 20) : M21 M e n fd m t = M t := by
  funext j
  unfold M21
  rw [if_neg (fun h => h1 h.1), if_neg (fun h => h2 h.1)]
theorem s_include (R : Rep S A V M) (C : CV V M) (K : KO V) {x y : Int32} {g : Int32 → St → Prop}
    (hf : ∀ r V' S', spInc V x y 0 r V' → Dn A M V' S' → g r S') (h1 : spInc V x y 1 0 V → exc "java/util/NoSuchElementException" S) (h2 : spInc V x y 2 0 V → exc "java/lang/IndexOutOfBoundsException" S) (h3 : spInc V x y 3 0 V → exc "java/lang/IllegalStateException" S) : w_X9_include S (A 10 0) x y g exc := by
  unfold w_X9_include
  refine ⟨o10 R, s_exhibitionAt R (fun e he ex => ⟨o10 R, s_workAt R (fun w hw ey => ⟨o3 R he, ?_⟩) (fun h => h2 (Or.inr ⟨e, he, ex, Or.inl ⟨h, rfl, rfl⟩⟩))⟩) (fun h => h1 (Or.inl ⟨h, rfl, rfl⟩))⟩
  rw [f3_6 R C he]
  have hb := bC R he
  refine ⟨fun a => ⟨_, p3_4 R he, o20 R he, s_size20 R he ?_⟩, fun a => h3 (Or.inr ⟨e, he, ex, Or.inr ⟨w, hw, ey, Or.inl ⟨Or.inl a, rfl, rfl⟩⟩⟩)⟩
  rw [show (5 : Int32) = z 5 from rfl, z_lt (by omega) (by decide)]
  refine ⟨fun b => ⟨o3 R he, s_indexOf R C he hw (fun k hk => ?_) (fun hk => ?_)⟩, fun b => h3 (Or.inr ⟨e, he, ex, Or.inr ⟨w, hw, ey, Or.inl ⟨Or.inr (Or.inl (by omega)), rfl, rfl⟩⟩⟩)⟩
  · exact ⟨fun hc => absurd hc (z_nm (by have := hk.1; omega)), fun _ => h3 (Or.inr ⟨e, he, ex, Or.inr ⟨w, hw, ey, Or.inl ⟨Or.inr (Or.inr ⟨k, hk.1, hk.2.1⟩), rfl, rfl⟩⟩⟩)⟩
  · refine ⟨fun _ => ⟨o3 R he, _, p3_4 R he, o20 R he, ?_⟩, fun hc => absurd rfl hc⟩
    refine s_add (d := A 21 e) (n := cn V e) (D := pt (sT S) A V 21 e) (o20 R he) (l20 R he) (by omega) ?_ (fun h => ⟨o21 R ⟨he, h⟩, ?_, fun q => ?_, ?_, fun k yy c1 c2 => ?_⟩) ⟨9, _, kci9, o9 R hw⟩ (fun S' d' m hap hd => ?_)
    · rw [R.2.2.1 20 e he]
      rfl
    · rw [n21 R ⟨he, h⟩]
      unfold cp
      rw [if_pos (by omega)]
    · exact absurd (R.2.2.2.2.1 21 e 20 e ⟨he, h⟩ he q).1 (by decide)
    · rw [R.2.2.1 21 e ⟨he, h⟩]
      funext k
      show (if k < cn V e then some (A 9 (ic V e k)) else none) = if k < cn V e then (if k < cn V e then some (A 9 (ic V e k)) else none) else none
      by_cases q : k < cn V e
      · rw [if_pos q, if_pos q]
      · rw [if_neg q, if_neg q]
    · have c3 : (if k < cn V e then some (A 9 (ic V e k)) else none) = some yy := c2
      rw [if_pos c1] at c3
      cases c3
      exact ⟨9, _, kci9, o9 R (bI R he c1)⟩
    · have R2 := Rep_inc (m := m) R he b hw hap (by
        rcases hd with ⟨q1, q2⟩ | q2
        · exact Or.inl ⟨⟨he, q1⟩, q2⟩
        · exact Or.inr q2)
      have hE : nE (incV V e w) = nE V := by unfold nE; rw [incV_row (by decide) (by decide)]
      have he2 : e < nE (incV V e w) := by rw [hE]; exact he
      have hA3 : A21 A e d' 3 e = A 3 e := by unfold A21; rw [if_neg (fun h => absurd h.1 (by decide))]
      have r1 := o3 R2 he2
      have r2 := p3_4 R2 he2
      rw [hA3] at r1 r2
      refine ⟨r1, _, r2, o20 R2 he2, s_size20 R2 he2 ?_⟩
      rw [incV_cn b e, if_pos rfl]
      refine hf _ _ S' (Or.inr ⟨e, he, ex, Or.inr ⟨w, hw, ey, Or.inr ⟨a, b, hk, rfl, rfl, rfl⟩⟩⟩) ⟨_, _, R2, ?_, KO_row (incV_row (by decide) (by decide)) K, ⟨M21_o (by decide) (by decide), M21_o (by decide) (by decide), M21_o (by decide) (by decide)⟩, ?_⟩
      · unfold CV
        have hR : nR (incV V e w) = nR V := by unfold nR; rw [incV_row (by decide) (by decide)]
        have hL : nL (incV V e w) = nL V := by unfold nL; rw [incV_row (by decide) (by decide)]
        have hWW : nW (incV V e w) = nW V := by unfold nW; rw [incV_row (by decide) (by decide)]
        rw [hE, hR, hL, hWW, M21_o (t := 7) (by decide) (by decide), M21_o (t := 5) (by decide) (by decide), M21_o (t := 9) (by decide) (by decide), M21_o (t := 3) (by decide) (by decide), M21_o (t := 22) (by decide) (by decide), M21_o (t := 24) (by decide) (by decide), M21_o (t := 10) (by decide) (by decide), M21_o (t := 26) (by decide) (by decide)]
        simp (decide := true) only [incV_row]
        exact C
      · have h : ∀ t, t ≠ 21 → A21 A e d' t 0 = A t 0 := fun t h => by unfold A21; rw [if_neg (fun q => h q.1)]
        exact ⟨h 10 (by decide), h 11 (by decide), h 28 (by decide), h 29 (by decide), h 30 (by decide), h 40 (by decide)⟩
end SI
