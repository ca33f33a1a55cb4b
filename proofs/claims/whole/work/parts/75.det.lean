/-! ===== one call has one answer, and leaves one museum ===== -/
section DT
variable {V V1 V2 : VV}
theorem nb (x : Int32) : x.toNatClampNeg < 2147483648 := Int32.toNatClampNeg_lt x
theorem ex2 {n : Nat} {x : Int32} {A B : Prop} {P Q : Nat → Prop} (hn : n < 2147483648) (h : (¬ ix n x ∧ A) ∨ ∃ e, e < n ∧ x = z e ∧ P e) (h' : (¬ ix n x ∧ B) ∨ ∃ e, e < n ∧ x = z e ∧ Q e) : (A ∧ B) ∨ ∃ e, e < n ∧ x = z e ∧ P e ∧ Q e := by
  rcases h with ⟨a, b⟩ | ⟨e, he, ex, p⟩
  · rcases h' with ⟨c, d⟩ | ⟨e, he, ex, p⟩
    · exact Or.inl ⟨b, d⟩
    · exact absurd ⟨e, he, ex⟩ a
  · rcases h' with ⟨c, d⟩ | ⟨e', he', ex', q⟩
    · exact absurd ⟨e, he, ex⟩ c
    · have : e = e' := (z_eq (by omega) (by omega)).1 (ex.symm.trans ex')
      subst this
      exact Or.inr ⟨e, he, ex, p, q⟩
theorem ex22 {n n' : Nat} {x y : Int32} {A B : Prop} {P Q : Nat → Nat → Prop} (hn : n < 2147483648) (hn' : n' < 2147483648) (h : (¬ (ix n x ∧ ix n' y) ∧ A) ∨ ∃ i j, i < n ∧ j < n' ∧ x = z i ∧ y = z j ∧ P i j) (h' : (¬ (ix n x ∧ ix n' y) ∧ B) ∨ ∃ i j, i < n ∧ j < n' ∧ x = z i ∧ y = z j ∧ Q i j) : (A ∧ B) ∨ ∃ i j, i < n ∧ j < n' ∧ P i j ∧ Q i j := by
  rcases h with ⟨a, b⟩ | ⟨i, j, hi, hj, ex, ey, p⟩
  · rcases h' with ⟨c, d⟩ | ⟨i, j, hi, hj, ex, ey, p⟩
    · exact Or.inl ⟨b, d⟩
    · exact absurd ⟨⟨i, hi, ex⟩, ⟨j, hj, ey⟩⟩ a
  · rcases h' with ⟨c, d⟩ | ⟨i', j', hi', hj', ex', ey', q⟩
    · exact absurd ⟨⟨i, hi, ex⟩, ⟨j, hj, ey⟩⟩ c
    · have e1 : i = i' := (z_eq (by omega) (by omega)).1 (ex.symm.trans ex')
      have e2 : j = j' := (z_eq (by omega) (by omega)).1 (ey.symm.trans ey')
      subst e1 e2
      exact Or.inr ⟨i, j, hi, hj, p, q⟩
/-- three ways out: refused for the numbers, refused for the room, done -/
theorem ex3 {P L N D E : Prop} {k k' : Nat} {A B : Prop} (hx : L → N → False) (h : (¬ P ∧ k = 1 ∧ A) ∨ (P ∧ L ∧ k = 2 ∧ A) ∨ (P ∧ N ∧ k = 0 ∧ D)) (h' : (¬ P ∧ k' = 1 ∧ B) ∨ (P ∧ L ∧ k' = 2 ∧ B) ∨ (P ∧ N ∧ k' = 0 ∧ E)) : (k = k' ∧ k ≠ 0 ∧ A ∧ B) ∨ (k = 0 ∧ k' = 0 ∧ D ∧ E) := by
  rcases h with ⟨a, b, c⟩ | ⟨a, b, c, d⟩ | ⟨a, b, c, d⟩
  · rcases h' with ⟨a', b', c'⟩ | ⟨a', b', c', d'⟩ | ⟨a', b', c', d'⟩
    · exact Or.inl ⟨by omega, by omega, c, c'⟩
    · exact absurd a' a
    · exact absurd a' a
  · rcases h' with ⟨a', b', c'⟩ | ⟨a', b', c', d'⟩ | ⟨a', b', c', d'⟩
    · exact absurd a a'
    · exact Or.inl ⟨by omega, by omega, d, d'⟩
    · exact (hx b b').elim
  · rcases h' with ⟨a', b', c'⟩ | ⟨a', b', c', d'⟩ | ⟨a', b', c', d'⟩
    · exact absurd a a'
    · exact (hx b' b).elim
    · exact Or.inr ⟨c, c', d, d'⟩
theorem spR_det {a b c d : Int32} {k k' : Nat} {r r' : Int32} (h : spR V a b c d k r V1) (h' : spR V a b c d k' r' V2) : k = k' ∧ (k = 0 → r = r') ∧ V1 = V2 := by
  unfold spR at h h'
  rcases ex3 (fun a b => by omega) h h' with ⟨e, n0, a1, a2⟩ | ⟨e1, e2, ⟨r1, n, h1⟩, ⟨r2, n', h2⟩⟩
  · exact ⟨e, fun h => absurd h n0, a1.trans a2.symm⟩
  · exact ⟨e1.trans e2.symm, fun _ => r1.trans r2.symm, (it_det st1_det _ _ _ _ _ _ h1 h2).1⟩
theorem spL_det {a b c : Int32} {k k' : Nat} {r r' : Int32} (h : spL V a b c k r V1) (h' : spL V a b c k' r' V2) : k = k' ∧ (k = 0 → r = r') ∧ V1 = V2 := by
  unfold spL at h h'
  rcases ex3 (fun a b => by omega) h h' with ⟨e, n0, a1, a2⟩ | ⟨e1, e2, ⟨r1, h1⟩, ⟨r2, h2⟩⟩
  · exact ⟨e, fun h => absurd h n0, a1.trans a2.symm⟩
  · exact ⟨e1.trans e2.symm, fun _ => r1.trans r2.symm, h1.trans h2.symm⟩
theorem spW_det {a b c d e f : Int32} {k k' : Nat} {r r' : Int32} (h : spW V a b c d e f k r V1) (h' : spW V a b c d e f k' r' V2) : k = k' ∧ (k = 0 → r = r') ∧ V1 = V2 := by
  unfold spW at h h'
  rcases ex3 (fun a b => by omega) h h' with ⟨e, n0, a1, a2⟩ | ⟨e1, e2, ⟨r1, h1⟩, ⟨r2, h2⟩⟩
  · exact ⟨e, fun h => absurd h n0, a1.trans a2.symm⟩
  · exact ⟨e1.trans e2.symm, fun _ => r1.trans r2.symm, h1.trans h2.symm⟩
theorem spE_det {a b c : Int32} {k k' : Nat} {r r' : Int32} (h : spE V a b c k r V1) (h' : spE V a b c k' r' V2) : k = k' ∧ (k = 0 → r = r') ∧ V1 = V2 := by
  unfold spE at h h'
  rcases ex3 (fun a b => by omega) h h' with ⟨e, n0, a1, a2⟩ | ⟨e1, e2, ⟨r1, h1⟩, ⟨r2, h2⟩⟩
  · exact ⟨e, fun h => absurd h n0, a1.trans a2.symm⟩
  · exact ⟨e1.trans e2.symm, fun _ => r1.trans r2.symm, h1.trans h2.symm⟩
theorem spClim_det {x a b : Int32} {k k' : Nat} {r r' : Int32} (h : spClim V x a b k r V1) (h' : spClim V x a b k' r' V2) : k = k' ∧ (k = 0 → r = r') ∧ V1 = V2 := by
  unfold spClim at h h'
  rcases ex2 (nb _) h h' with ⟨⟨e1, e2⟩, ⟨f1, f2⟩⟩ | ⟨i, hi, ex, p, q⟩
  · exact ⟨by omega, fun h => by omega, e2.trans f2.symm⟩
  · rcases p with ⟨a1, a2, a3⟩ | ⟨a1, a2, W, n, n', a3, a4, a5⟩
    · rcases q with ⟨b1, b2, b3⟩ | ⟨b1, b2, _⟩
      · exact ⟨by omega, fun h => by omega, a3.trans b3.symm⟩
      · exact absurd b1 a1
    · rcases q with ⟨b1, b2, b3⟩ | ⟨b1, b2, W', m, m', b3, b4, b5⟩
      · exact absurd a1 b1
      · obtain ⟨c1, c2⟩ := it_det td1_det _ _ _ _ _ _ a4 b4
        subst c1 c2
        exact ⟨by omega, fun _ => a3.trans b3.symm, (it_det st1_det _ _ _ _ _ _ a5 b5).1⟩
theorem spReq_det {x : Int32} {k k' : Nat} {r r' : Int32} (h : spReq V x k r V1) (h' : spReq V x k' r' V2) : k = k' ∧ (k = 0 → r = r') ∧ V1 = V2 := by
  unfold spReq at h h'
  rcases ex2 (nb _) h h' with ⟨⟨e1, e2⟩, ⟨f1, f2⟩⟩ | ⟨i, hi, ex, p, q⟩
  · exact ⟨by omega, fun h => by omega, e2.trans f2.symm⟩
  · rcases p with ⟨a1, a2, a3⟩ | ⟨a1, a2, a3, a4⟩ | ⟨a1, a2, a3, b, a4, a5⟩
    · rcases q with ⟨b1, b2, b3⟩ | ⟨b1, b2, b3, b4⟩ | ⟨b1, b2, b3, _⟩
      · exact ⟨by omega, fun h => by omega, a3.trans b3.symm⟩
      · exact absurd b1 a1
      · exact absurd b1 a1
    · rcases q with ⟨b1, b2, b3⟩ | ⟨b1, b2, b3, b4⟩ | ⟨b1, b2, b3, _⟩
      · exact absurd a1 b1
      · exact ⟨by omega, fun h => by omega, a4.trans b4.symm⟩
      · omega
    · rcases q with ⟨b1, b2, b3⟩ | ⟨b1, b2, b3, b4⟩ | ⟨b1, b2, b3, b', b4, b5⟩
      · exact absurd a1 b1
      · omega
      · obtain ⟨c1, c2⟩ := st1_det _ _ _ _ _ _ a4 b4
        subst c1
        exact ⟨by omega, fun _ => a5.trans b5.symm, rfl⟩
theorem spCan_det {x : Int32} {k k' : Nat} {r r' : Int32} (h : spCan V x k r V1) (h' : spCan V x k' r' V2) : k = k' ∧ (k = 0 → r = r') ∧ V1 = V2 := by
  unfold spCan at h h'
  rcases ex2 (nb _) h h' with ⟨⟨e1, e2⟩, ⟨f1, f2⟩⟩ | ⟨i, hi, ex, p, q⟩
  · exact ⟨by omega, fun h => by omega, e2.trans f2.symm⟩
  · rcases p with ⟨a1, a2, a3⟩ | ⟨a1, a2, n, a3, a4⟩
    · rcases q with ⟨b1, b2, b3⟩ | ⟨b1, _⟩
      · exact ⟨by omega, fun h => by omega, a3.trans b3.symm⟩
      · exact absurd a1 b1
    · rcases q with ⟨b1, b2, b3⟩ | ⟨b1, b2, m, b3, b4⟩
      · exact absurd b1 a1
      · obtain ⟨c1, c2⟩ := it_det st1_det _ _ _ _ _ _ a3 b3
        subst c1 c2
        exact ⟨by omega, fun _ => a4.trans b4.symm, rfl⟩
theorem spInc_det {x y : Int32} {k k' : Nat} {r r' : Int32} (h : spInc V x y k r V1) (h' : spInc V x y k' r' V2) : k = k' ∧ (k = 0 → r = r') ∧ V1 = V2 := by
  unfold spInc at h h'
  rcases ex2 (nb _) h h' with ⟨⟨e1, e2⟩, ⟨f1, f2⟩⟩ | ⟨i, hi, ex, p, q⟩
  · exact ⟨by omega, fun h => by omega, e2.trans f2.symm⟩
  · rcases ex2 (nb _) p q with ⟨⟨e1, e2⟩, ⟨f1, f2⟩⟩ | ⟨w, hw, ew, p, q⟩
    · exact ⟨by omega, fun h => by omega, e2.trans f2.symm⟩
    · rcases p with ⟨a1, a2, a3⟩ | ⟨a1, a2, a3, a4, a5, a6⟩
      · rcases q with ⟨b1, b2, b3⟩ | ⟨b1, b2, b3, b4, b5, b6⟩
        · exact ⟨by omega, fun h => by omega, a3.trans b3.symm⟩
        · rcases a1 with c | c | c
          · exact absurd b1 c
          · omega
          · exact absurd c b3
      · rcases q with ⟨b1, b2, b3⟩ | ⟨b1, b2, b3, b4, b5, b6⟩
        · rcases b1 with c | c | c
          · exact absurd a1 c
          · omega
          · exact absurd c a3
        · exact ⟨by omega, fun _ => a5.trans b5.symm, a6.trans b6.symm⟩
theorem spSep_det {x y kd : Int32} {k k' : Nat} {r r' : Int32} (h : spSep V x y kd k r V1) (h' : spSep V x y kd k' r' V2) : k = k' ∧ (k = 0 → r = r') ∧ V1 = V2 := by
  unfold spSep at h h'
  rcases ex22 (nb _) (nb _) h h' with ⟨⟨e1, e2⟩, ⟨f1, f2⟩⟩ | ⟨i, j, hi, hj, p, q⟩
  · exact ⟨by omega, fun h => by omega, e2.trans f2.symm⟩
  · rcases p with ⟨a1, a2, a3⟩ | ⟨a1, a2, a3, a4⟩ | ⟨a1, a2, a3, a4, n, a5⟩
    · have na : ¬ (i ≠ j ∧ (kd = 114 ∨ kd = 119)) := fun x => a1.elim (fun e => x.1 e) (fun e => e x.2)
      rcases q with ⟨b1, b2, b3⟩ | ⟨b1, b2, b3, b4⟩ | ⟨b1, b2, b3, b4, m, b5⟩
      · exact ⟨by omega, fun h => by omega, a3.trans b3.symm⟩
      · exact absurd b1 na
      · exact absurd b1 na
    · have na : ¬ (i = j ∨ ¬ (kd = 114 ∨ kd = 119)) := fun x => x.elim (fun e => a1.1 e) (fun e => e a1.2)
      rcases q with ⟨b1, b2, b3⟩ | ⟨b1, b2, b3, b4⟩ | ⟨b1, b2, b3, b4, m, b5⟩
      · exact absurd b1 na
      · exact ⟨by omega, fun h => by omega, a4.trans b4.symm⟩
      · exact absurd a2 b2
    · have na : ¬ (i = j ∨ ¬ (kd = 114 ∨ kd = 119)) := fun x => x.elim (fun e => a1.1 e) (fun e => e a1.2)
      rcases q with ⟨b1, b2, b3⟩ | ⟨b1, b2, b3, b4⟩ | ⟨b1, b2, b3, b4, m, b5⟩
      · exact absurd b1 na
      · exact absurd b2 a2
      · exact ⟨by omega, fun _ => a4.trans b4.symm, (it_det st1_det _ _ _ _ _ _ a5 b5).1⟩
/-! those that only answer -/
theorem spSpn_det {x y : Int32} {k k' : Nat} {r r' : Int32} (h : spSpn V x y k r) (h' : spSpn V x y k' r') : k = k' ∧ (k = 0 → r = r') := by
  unfold spSpn at h h'
  rcases ex22 (nb _) (nb _) h h' with ⟨e1, e2⟩ | ⟨i, j, hi, hj, ⟨a1, a2⟩, ⟨b1, b2⟩⟩
  · exact ⟨by omega, fun h => by omega⟩
  · exact ⟨by omega, fun _ => a2.trans b2.symm⟩
theorem spCH_det {x y : Int32} {k k' : Nat} {r r' : Int32} (h : spCH V x y k r) (h' : spCH V x y k' r') : k = k' ∧ (k = 0 → r = r') := by
  unfold spCH at h h'
  rcases ex22 (nb _) (nb _) h h' with ⟨e1, e2⟩ | ⟨i, j, hi, hj, ⟨a1, a2⟩, ⟨b1, b2⟩⟩
  · exact ⟨by omega, fun h => by omega⟩
  · exact ⟨by omega, fun _ => a2.trans b2.symm⟩
theorem spSt_det {x : Int32} {k k' : Nat} {r r' : Int32} (h : spSt V x k r) (h' : spSt V x k' r') : k = k' ∧ (k = 0 → r = r') := by
  unfold spSt at h h'
  rcases ex2 (nb _) h h' with ⟨e1, e2⟩ | ⟨i, hi, ex, ⟨a1, a2⟩, ⟨b1, b2⟩⟩
  · exact ⟨by omega, fun h => by omega⟩
  · exact ⟨by omega, fun _ => a2.trans b2.symm⟩
theorem spWs_det {x : Int32} {k k' : Nat} {r r' : Int32} (h : spWs V x k r) (h' : spWs V x k' r') : k = k' ∧ (k = 0 → r = r') := by
  unfold spWs at h h'
  rcases ex2 (nb _) h h' with ⟨e1, e2⟩ | ⟨i, hi, ex, ⟨a1, a2⟩, ⟨b1, b2⟩⟩
  · exact ⟨by omega, fun h => by omega⟩
  · exact ⟨by omega, fun _ => a2.trans b2.symm⟩
theorem spWk_det {x y : Int32} {k k' : Nat} {r r' : Int32} (h : spWk V x y k r) (h' : spWk V x y k' r') : k = k' ∧ (k = 0 → r = r') := by
  unfold spWk at h h'
  rcases ex2 (nb _) h h' with ⟨e1, e2⟩ | ⟨i, hi, ex, p, q⟩
  · exact ⟨by omega, fun h => by omega⟩
  · rcases ex2 (nb _) p q with ⟨e1, e2⟩ | ⟨j, hj, ey, ⟨a1, a2⟩, ⟨b1, b2⟩⟩
    · exact ⟨by omega, fun h => by omega⟩
    · exact ⟨by omega, fun _ => a2.trans b2.symm⟩
theorem spWl_det {x y : Int32} {k k' : Nat} {r r' : Int32} (h : spWl V x y k r) (h' : spWl V x y k' r') : k = k' ∧ (k = 0 → r = r') := by
  unfold spWl at h h'
  rcases ex2 (nb _) h h' with ⟨e1, e2⟩ | ⟨i, hi, ex, p, q⟩
  · exact ⟨by omega, fun h => by omega⟩
  · rcases ex2 (nb _) p q with ⟨e1, e2⟩ | ⟨j, hj, ey, p, q⟩
    · exact ⟨by omega, fun h => by omega⟩
    · rcases p with ⟨a1, a2⟩ | ⟨a1, a2, a3⟩
      · rcases q with ⟨b1, b2⟩ | ⟨b1, b2, b3⟩
        · exact ⟨by omega, fun h => by omega⟩
        · exact absurd b1 a1
      · rcases q with ⟨b1, b2⟩ | ⟨b1, b2, b3⟩
        · exact absurd a1 b1
        · exact ⟨by omega, fun _ => a3.trans b3.symm⟩
theorem spCT_det {x y : Int32} {k k' : Nat} {r r' : Int32} (h : spCT V x y k r) (h' : spCT V x y k' r') : k = k' ∧ (k = 0 → r = r') := by
  unfold spCT at h h'
  rcases ex2 (nb _) h h' with ⟨e1, e2⟩ | ⟨i, hi, ex, p, q⟩
  · exact ⟨by omega, fun h => by omega⟩
  · rcases ex2 (nb _) p q with ⟨e1, e2⟩ | ⟨j, hj, ey, p, q⟩
    · exact ⟨by omega, fun h => by omega⟩
    · rcases p with ⟨a1, a2⟩ | ⟨a1, a2, a3⟩
      · rcases q with ⟨b1, b2⟩ | ⟨b1, b2, b3⟩
        · exact ⟨by omega, fun h => by omega⟩
        · exact absurd a1 b1
      · rcases q with ⟨b1, b2⟩ | ⟨b1, b2, b3⟩
        · exact absurd b1 a1
        · refine ⟨by omega, fun _ => ?_⟩
          rcases a3 with ⟨x1, x2⟩ | ⟨x1, x2⟩ <;> rcases b3 with ⟨y1, y2⟩ | ⟨y1, y2⟩
          · exact x2.trans y2.symm
          · exact absurd x1 y1
          · exact absurd y1 x1
          · exact x2.trans y2.symm
theorem spWF_det {x y : Int32} {k k' : Nat} {r r' : Int32} (h : spWF V x y k r) (h' : spWF V x y k' r') : k = k' ∧ (k = 0 → r = r') := by
  unfold spWF at h h'
  rcases ex2 (nb _) h h' with ⟨e1, e2⟩ | ⟨i, hi, ex, p, q⟩
  · exact ⟨by omega, fun h => by omega⟩
  · rcases ex2 (nb _) p q with ⟨e1, e2⟩ | ⟨j, hj, ey, p, q⟩
    · exact ⟨by omega, fun h => by omega⟩
    · rcases p with ⟨a1, a2⟩ | ⟨a1, a3⟩
      · rcases q with ⟨b1, b2⟩ | ⟨b1, b3⟩
        · exact ⟨by omega, fun h => by omega⟩
        · exact absurd a1 b1
      · rcases q with ⟨b1, b2⟩ | ⟨b1, b3⟩
        · exact absurd b1 a1
        · rcases a3 with ⟨x1, x2⟩ | ⟨x1, p, hp, x2⟩ <;> rcases b3 with ⟨y1, y2⟩ | ⟨y1, p', hp', y2⟩
          · exact ⟨by omega, fun h => by omega⟩
          · exact absurd ⟨p', hp'⟩ (nopl_pln x1)
          · exact absurd ⟨p, hp⟩ (nopl_pln y1)
          · refine ⟨by omega, fun _ => ?_⟩
            rw [x2, y2, Fi_uniq hp.2 hp'.2 j hj]
theorem spTr_det {x y : Int32} {k k' : Nat} {r r' : Int32} (h : spTr V x y k r) (h' : spTr V x y k' r') : k = k' ∧ (k = 0 → r = r') := by
  unfold spTr at h h'
  rcases ex2 (nb _) h h' with ⟨e1, e2⟩ | ⟨i, hi, ex, p, q⟩
  · exact ⟨by omega, fun h => by omega⟩
  · rcases ex2 (nb _) p q with ⟨e1, e2⟩ | ⟨j, hj, ey, p, q⟩
    · exact ⟨by omega, fun h => by omega⟩
    · rcases p with ⟨a1, a2⟩ | ⟨a1, a2, n, a3, a4, a5⟩
      · rcases q with ⟨b1, b2⟩ | ⟨b1, _⟩
        · exact ⟨by omega, fun h => by omega⟩
        · exact absurd b1 a1
      · rcases q with ⟨b1, b2⟩ | ⟨b1, b2, m, b3, b4, b5⟩
        · exact absurd a1 b1
        · refine ⟨by omega, fun _ => ?_⟩
          rw [a5, b5, mn_uniq a4 b4]
theorem spU_det {x y : Int32} {k k' : Nat} (h : spU V x y k) (h' : spU V x y k') : k = k' := by
  unfold spU at h h'
  rcases h with ⟨a1, a2⟩ | ⟨a1, a2, a3⟩ | ⟨a1, a2, a3⟩ <;> rcases h' with ⟨b1, b2⟩ | ⟨b1, b2, b3⟩ | ⟨b1, b2, b3⟩ <;> first | omega | exact absurd a1 b1 | exact absurd b1 a1 | exact absurd a2 b2 | exact absurd b2 a2
theorem spAw_det {x y : Int32} {k k' : Nat} {r r' : Int32} (h : spAw V x y k r) (h' : spAw V x y k' r') : k = k' ∧ (k = 0 → r = r') := by
  unfold spAw at h h'
  rcases ex2 (nb _) h h' with ⟨e1, e2⟩ | ⟨w, hw, ex, p, q⟩
  · exact ⟨by omega, fun h => by omega⟩
  · rcases p with ⟨a1, a2⟩ | ⟨a1, a3⟩
    · rcases q with ⟨b1, b2⟩ | ⟨b1, _⟩
      · exact ⟨by omega, fun h => by omega⟩
      · exact absurd b1 a1
    · rcases q with ⟨b1, b2⟩ | ⟨b1, b3⟩
      · exact absurd a1 b1
      · rcases a3 with ⟨x1, x2⟩ | ⟨g, hg, ha, hn, x1, x2⟩ <;> rcases b3 with ⟨y1, y2⟩ | ⟨g', hg', ha', hn', y1, y2⟩
        · exact ⟨by omega, fun h => by omega⟩
        · exact absurd ha' (x1 g' hg')
        · exact absurd ha (y1 g hg)
        · refine ⟨by omega, fun _ => ?_⟩
          have : g = g' := by
            rcases Nat.lt_trichotomy g g' with c | c | c
            · exact absurd ha (hn' g c)
            · exact c
            · exact absurd ha' (hn g' c)
          rw [x2, y2, this]
theorem spMW_det {k k' : Nat} {r r' : UInt64} (h : spMW V k r) (h' : spMW V k' r') : k = k' ∧ (k = 0 → r = r') := by
  unfold spMW at h h'
  rcases h with ⟨a1, a2⟩ | ⟨a1, a2, a3⟩ <;> rcases h' with ⟨b1, b2⟩ | ⟨b1, b2, b3⟩
  · exact ⟨by omega, fun h => by omega⟩
  · exact absurd a1 b1
  · exact absurd b1 a1
  · exact ⟨by omega, fun _ => a3.trans b3.symm⟩
end DT
