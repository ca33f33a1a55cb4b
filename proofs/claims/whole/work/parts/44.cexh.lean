/-! ===== addExhibition ===== -/
section SX2
variable {S : St} {A : Nat → Nat → Nat} {V : VV} {M : MM} {exc : String → St → Prop}
theorem ME_o {n t : Nat} {fq fq1 fq2 fd : Nat → Int32} {m : Int32} (h1 : t ≠ 3) (h2 : t ≠ 20) (h3 : t ≠ 22) (h4 : t ≠ 23) (h5 : t ≠ 0) : ME M n fq fq1 fq2 fd m t = M t := by
  funext j
  unfold ME
  rw [if_neg (fun h => h1 h.1), if_neg (fun h => h2 h.1), if_neg (fun h => h3 h.1), if_neg (fun h => h4 h.1), if_neg (fun h => h5 h.1)]
theorem addE_CV {f l g m : Int32} {fq fq1 fq2 fd : Nat → Int32} (C : CV V M) (hb : nE V < 100) (q0 : fq 0 = z (nE V)) (q1 : fq 1 = f) (q2 : fq 2 = l) (q3 : fq 3 = g) (q6 : fq 6 = 100) (hz : ∀ k, k < 5 → fq2 k = V 19 (5 * nE V + k)) : CV (addE V f l g) (ME M (nE V) fq fq1 fq2 fd m) := by
  obtain ⟨c1, c2, c3, c4, c5, c6, c7⟩ := C
  obtain ⟨s1, s2, s3, s4⟩ := addE_s (V := V) (f := f) (l := l) (g := g) hb
  have o : ∀ k, k ≠ 13 → k ≠ 14 → k ≠ 15 → k ≠ 16 → k ≠ 27 → addE V f l g k = V k := fun k a b c d e => addE_row a b c d e
  unfold CV
  rw [s1, s2, s3, s4, ME_o (t := 7) (by decide) (by decide) (by decide) (by decide) (by decide), ME_o (t := 5) (by decide) (by decide) (by decide) (by decide) (by decide), ME_o (t := 9) (by decide) (by decide) (by decide) (by decide) (by decide), ME_o (t := 24) (by decide) (by decide) (by decide) (by decide) (by decide), ME_o (t := 10) (by decide) (by decide) (by decide) (by decide) (by decide), ME_o (t := 26) (by decide) (by decide) (by decide) (by decide) (by decide)]
  rw [o 0 (by decide) (by decide) (by decide) (by decide) (by decide), o 1 (by decide) (by decide) (by decide) (by decide) (by decide), o 2 (by decide) (by decide) (by decide) (by decide) (by decide), o 3 (by decide) (by decide) (by decide) (by decide) (by decide), o 4 (by decide) (by decide) (by decide) (by decide) (by decide), o 5 (by decide) (by decide) (by decide) (by decide) (by decide), o 6 (by decide) (by decide) (by decide) (by decide) (by decide), o 7 (by decide) (by decide) (by decide) (by decide) (by decide), o 8 (by decide) (by decide) (by decide) (by decide) (by decide), o 9 (by decide) (by decide) (by decide) (by decide) (by decide), o 10 (by decide) (by decide) (by decide) (by decide) (by decide), o 12 (by decide) (by decide) (by decide) (by decide) (by decide), o 28 (by decide) (by decide) (by decide) (by decide) (by decide)]
  refine ⟨c1, c2, c3, fun i hi => ?_, c5, c6, c7⟩
  rw [o 19 (by decide) (by decide) (by decide) (by decide) (by decide)]
  simp (decide := true) only [addE, up2_s, up2_n]
  by_cases e : i = nE V
  · have m3 : ME M (nE V) fq fq1 fq2 fd m 3 (nE V) = fq := by unfold ME; rw [if_pos ⟨rfl, rfl⟩]
    have m22 : ME M (nE V) fq fq1 fq2 fd m 22 (nE V) = fq2 := by unfold ME; rw [if_neg (fun h => absurd h.1 (by decide)), if_neg (fun h => absurd h.1 (by decide)), if_pos ⟨rfl, rfl⟩]
    rw [e, m3, m22, upd_s, upd_s, upd_s, upd_s]
    exact ⟨q0, q1, q2, q3, q6, hz⟩
  · have m3 : ME M (nE V) fq fq1 fq2 fd m 3 i = M 3 i := by unfold ME; rw [if_neg (fun h => e h.2), if_neg (fun h => e h.2), if_neg (fun h => e h.2), if_neg (fun h => absurd h.1 (by decide)), if_neg (fun h => absurd h.1 (by decide))]
    have m22 : ME M (nE V) fq fq1 fq2 fd m 22 i = M 22 i := by unfold ME; rw [if_neg (fun h => e h.2), if_neg (fun h => e h.2), if_neg (fun h => e h.2), if_neg (fun h => absurd h.1 (by decide)), if_neg (fun h => absurd h.1 (by decide))]
    rw [m3, m22, upd_n _ _ e, upd_n _ _ e, upd_n _ _ e, upd_n _ _ e]
    exact c4 i (by omega)
def spE (V : VV) (f l g : Int32) (k : Nat) (r : Int32) (V' : VV) : Prop :=
  (¬ (inr f 0 99 ∧ inr l f 99 ∧ inr g 0 50) ∧ k = 1 ∧ V' = V) ∨ ((inr f 0 99 ∧ inr l f 99 ∧ inr g 0 50) ∧ 8 ≤ nE V ∧ k = 2 ∧ V' = V) ∨ ((inr f 0 99 ∧ inr l f 99 ∧ inr g 0 50) ∧ nE V < 8 ∧ k = 0 ∧ r = z (nE V) ∧ V' = addE V f l g)
theorem s_addExhibition (R : Rep S A V M) (C : CV V M) (K : KO V) (hz : nE V < 8 → cn V (nE V) = 0 ∧ ∀ k, k < 5 → V 19 (5 * nE V + k) = 0) {f l gp : Int32} {g : Int32 → St → Prop}
    (hf : ∀ r V' S', spE V f l gp 0 r V' → Dn A M V' S' → g r S') (h1 : spE V f l gp 1 0 V → exc "java/lang/IllegalArgumentException" S) (h2 : spE V f l gp 2 0 V → exc "java/lang/IllegalStateException" S) : w_X9_addExhibition S (A 10 0) f l gp g exc := by
  have hb := bE R
  unfold w_X9_addExhibition
  refine s_isWithin (fun a1 a2 => ?_) (fun a1 => ⟨fun _ => h1 (Or.inl ⟨fun h => a1 h.1, rfl, rfl⟩), fun hc => absurd rfl hc⟩)
  refine ⟨fun hc => absurd hc (by decide), fun _ => s_isWithin (fun b1 b2 => ?_) (fun b1 => ⟨fun _ => h1 (Or.inl ⟨fun h => b1 h.2.1, rfl, rfl⟩), fun hc => absurd rfl hc⟩)⟩
  refine ⟨fun hc => absurd hc (by decide), fun _ => s_isWithin (fun c1 c2 => ?_) (fun c1 => ⟨fun hc => absurd rfl hc, fun _ => h1 (Or.inl ⟨fun h => c1 h.2.2, rfl, rfl⟩)⟩)⟩
  have hin : inr f 0 99 ∧ inr l f 99 ∧ inr gp 0 50 := ⟨⟨a1, a2⟩, ⟨b1, b2⟩, ⟨c1, c2⟩⟩
  refine ⟨fun _ => ⟨o10 R, _, p10_4 R, o2 R, _, p2_0 R, o0 R (by decide), s_size0 R (by decide) ?_⟩, fun hc => absurd hc (by decide)⟩
  show (z (nE V) < 8 → _) ∧ (¬ z (nE V) < 8 → _)
  rw [show (8 : Int32) = z 8 from rfl, z_lt (by omega) (by decide)]
  refine ⟨fun d q hq => ?_, fun d => h2 (Or.inr (Or.inl ⟨hin, by omega, rfl, rfl⟩))⟩
  obtain ⟨hc0, hw0⟩ := hz d
  have R0 : Rep (newO S q 3) A V M := Rep_newO R hq
  have u0 := unused R hq
  refine ⟨o10 R0, _, p10_4 R0, o2 R0, _, p2_0 R0, o0 R0 (by decide), s_size0 R0 (by decide) ?_⟩
  unfold w_X2_init
  intro q1 hq1
  have u1 := unused R0 hq1
  have Ra : Rep (newO (newO S q 3) q1 0) A V M := Rep_newO R0 hq1
  have n01 : q ≠ q1 := fun e => hq1 (e ▸ List.mem_append_right _ List.mem_cons_self)
  unfold w_Jx4a65c_init_da8c8 w_Jxc12de_init_da8c8 w_Jxa1e45_init_da8c8
  have k1a : ok (newO (newO S q 3) q1 0) q1 0 := ok_newS (S := newO S q 3)
  have k0a : ok (newO (newO S q 3) q1 0) q 3 := ok_new (c := 0) hq1 (ok_newS (S := S))
  have Rb : Rep (setP (setP (setI (newO (newO S q 3) q1 0) q1 0 0) q1 1 (some (sT S))) q 4 (some q1)) A V M := Rep_offP (Rep_offP (Rep_offI Ra u1) u1) u0
  refine ⟨k1a, k1a, k0a, ?_⟩
  intro S8 q2 hq2'
  have hq2 : q2 ∉ sL (setP (setP (setI (newO (newO S q 3) q1 0) q1 0 0) q1 1 (some (sT S))) q 4 (some q1)) := hq2'
  have u2 := unused Rb hq2
  have n02 : q ≠ q2 := fun e => hq2 (e ▸ k0a.1)
  have n12 : q1 ≠ q2 := fun e => hq2 (e ▸ k1a.1)
  have Rc : Rep (setI (setI (setI (setI (setI (setP (newA (setP (setP (setI (newO (newO S q 3) q1 0) q1 0 0) q1 1 (some (sT S))) q 4 (some q1)) q2 101 5) q 5 (some q2)) q 6 100) q 0 (z (nE V))) q 1 f) q 2 l) q 3 gp) A V M := Rep_offI (Rep_offI (Rep_offI (Rep_offI (Rep_offI (Rep_offP (Rep_newA Rb hq2) u0) u0) u0) u0) u0) u0
  have k0b : ok (newA (setP (setP (setI (newO (newO S q 3) q1 0) q1 0 0) q1 1 (some (sT S))) q 4 (some q1)) q2 101 5) q 3 := ok_newa hq2 k0a
  have k1b : ok (newA (setP (setP (setI (newO (newO S q 3) q1 0) q1 0 0) q1 1 (some (sT S))) q 4 (some q1)) q2 101 5) q1 0 := ok_newa hq2 k1a
  have k2b : ok (newA (setP (setP (setI (newO (newO S q 3) q1 0) q1 0 0) q1 1 (some (sT S))) q 4 (some q1)) q2 101 5) q2 101 := ok_newaS
  generalize hS1 : setI (setI (setI (setI (setI (setP (newA (setP (setP (setI (newO (newO S q 3) q1 0) q1 0 0) q1 1 (some (sT S))) q 4 (some q1)) q2 101 5) q 5 (some q2)) q 6 100) q 0 (z (nE V))) q 1 f) q 2 l) q 3 gp = S1 at Rc
  have k0 : ok S1 q 3 := by rw [← hS1]; exact k0b
  have k1 : ok S1 q1 0 := by rw [← hS1]; exact k1b
  have k2 : ok S1 q2 101 := by rw [← hS1]; exact k2b
  have tT : sT S1 = sT S := by rw [← hS1]; rfl
  have hp0 : sP S1 q = fun k => if k = 4 then some q1 else if k = 5 then some q2 else none := by
    rw [← hS1, sP_setI, sP_setI, sP_setI, sP_setI, sP_setI, sP_setP, if_pos rfl, sP_newA, if_neg n02, sP_setP, if_pos rfl, sP_setP, if_neg n01, sP_setI, sP_newO, if_neg n01, sP_newO, if_pos rfl]
    funext k
    rw [up_ap, up_ap]
    by_cases a : k = 5
    · rw [if_pos a, if_neg (by omega), if_pos a]
    · rw [if_neg a, if_neg a]
  have hp1 : sP S1 q1 = fun k => if k = 1 then some (sT S1) else none := by
    rw [tT, ← hS1, sP_setI, sP_setI, sP_setI, sP_setI, sP_setI, sP_setP, if_neg (Ne.symm n01), sP_newA, if_neg n12, sP_setP, if_neg (Ne.symm n01), sP_setP, if_pos rfl, sP_setI, sP_newO, if_pos rfl]
    rfl
  have hp2 : sP S1 q2 = fun _ => none := by
    rw [← hS1, sP_setI, sP_setI, sP_setI, sP_setI, sP_setI, sP_setP, if_neg (Ne.symm n02), sP_newA, if_pos rfl]
  have hn2 : sN S1 q2 = 5 := by
    rw [← hS1, sN_setI, sN_setI, sN_setI, sN_setI, sN_setI, sN_setP, sN_newA, if_pos rfl]
  have hi0 : sI S1 q = upd (upd (upd (upd (upd (fun _ => 0) 6 100) 0 (z (nE V))) 1 f) 2 l) 3 gp := by
    rw [← hS1, sI_setI, if_pos rfl, sI_setI, if_pos rfl, sI_setI, if_pos rfl, sI_setI, if_pos rfl, sI_setI, if_pos rfl, sI_setP, sI_newA, if_neg n02, sI_setP, sI_setP, sI_setI, if_neg n01, sI_newO, if_neg n01, sI_newO, if_pos rfl]
  have hi1 : sI S1 q1 2 = 0 := by
    rw [← hS1, sI_setI, if_neg (Ne.symm n01), sI_setI, if_neg (Ne.symm n01), sI_setI, if_neg (Ne.symm n01), sI_setI, if_neg (Ne.symm n01), sI_setI, if_neg (Ne.symm n01), sI_setP, sI_newA, if_neg n12, sI_setP, sI_setP, sI_setI, if_pos rfl, sI_newO, if_pos rfl]
    rfl
  have hi2 : sI S1 q2 = fun _ => 0 := by
    rw [← hS1, sI_setI, if_neg (Ne.symm n02), sI_setI, if_neg (Ne.symm n02), sI_setI, if_neg (Ne.symm n02), sI_setI, if_neg (Ne.symm n02), sI_setI, if_neg (Ne.symm n02), sI_setP, sI_newA, if_pos rfl]
  have goal : ok S1 (A 10 0) 10 ∧ ∃ b37 : Nat, sP S1 (A 10 0) 4 = some b37 ∧ ok S1 b37 2 ∧ ∃ b40 : Nat, sP S1 b37 0 = some b40 ∧ ok S1 b40 0 ∧ w_Jx4a65c_add_9ea2d S1 b40 q (fun (r43 : Int32) (S44 : St) => ok S44 q 3 ∧ g (sI S44 q 0) S44) := by
    refine ⟨o10 Rc, _, p10_4 Rc, o2 Rc, _, p2_0 Rc, o0 Rc (by decide), ?_⟩
    refine s_add (d := A 23 3) (n := nE V) (D := pt (sT S1) A V 23 3) (o0 Rc (by decide)) (l0 Rc (i := 3) (by decide)) (by omega) ?_ (fun h => ⟨o23 Rc ⟨by decide, h⟩, n23 Rc (i := 3) (by decide) h, fun x => ?_, ?_, fun k y c3 c4 => ?_⟩) ⟨3, _, kci3, k0⟩ (fun S' d' m hap hd => ?_)
    · rw [Rc.2.2.1 0 3 (show us V 0 3 from (by decide : 3 < 4))]
      rfl
    · exact absurd (Rc.2.2.2.2.1 23 3 0 3 ⟨by decide, h⟩ (show us V 0 3 from (by decide : 3 < 4)) x).1 (by decide)
    · rw [Rc.2.2.1 23 3 ⟨by decide, h⟩]
      funext k
      show (if k < nE V then some (A 3 k) else none) = if k < nE V then (if k < nE V then some (A 3 k) else none) else none
      by_cases x : k < nE V
      · rw [if_pos x, if_pos x]
      · rw [if_neg x, if_neg x]
    · have c5 : (if k < nE V then some (A 3 k) else none) = some y := c4
      rw [if_pos c3] at c5
      cases c5
      exact ⟨3, _, kci3, o3 Rc c3⟩
    · have R2 := Rep_addE (f := f) (l := l) (g := gp) (m := m) Rc d hc0 k0 k1 k2 u0 u1 u2 hp0 hp1 hp2 hn2 hi1 hap (by
        rcases hd with ⟨x1, x2⟩ | x2
        · exact Or.inl ⟨⟨by decide, x1⟩, x2⟩
        · exact Or.inr x2)
      have hne : q ≠ d' := fun e => by
        rcases hd with ⟨x1, x2⟩ | x2
        · exact u0 23 3 ⟨by decide, x1⟩ (by rw [e, x2])
        · exact x2 (e ▸ k0.1)
      have e0 : sI S' q 0 = z (nE V) := by
        rw [hap.2.2.2.2.1 q k0.1 hne, if_neg (fun e => u0 0 3 (show us V 0 3 from (by decide : 3 < 4)) e.symm), hi0]
        rfl
      refine ⟨hap.1 _ _ k0, ?_⟩
      show g (sI S' q 0) S'
      rw [e0]
      have r12 : addE V f l gp 12 = V 12 := addE_row (by decide) (by decide) (by decide) (by decide) (by decide)
      refine hf _ _ S' (Or.inr (Or.inr ⟨hin, d, rfl, rfl, rfl⟩)) ⟨_, _, R2, addE_CV C (by omega) (by rw [hi0]; rfl) (by rw [hi0]; rfl) (by rw [hi0]; rfl) (by rw [hi0]; rfl) (by rw [hi0]; rfl) (fun k hk => by rw [hi2, hw0 k hk]), KO_row r12 K, ⟨ME_o (by decide) (by decide) (by decide) (by decide) (by decide), ME_o (by decide) (by decide) (by decide) (by decide) (by decide), ME_o (by decide) (by decide) (by decide) (by decide) (by decide)⟩, ?_⟩
      have h : ∀ t, t ≠ 3 → t ≠ 20 → t ≠ 22 → t ≠ 23 → AE A (nE V) q q1 q2 d' t 0 = A t 0 := fun t a b c e => by
        unfold AE
        rw [if_neg (fun h => a h.1), if_neg (fun h => b h.1), if_neg (fun h => c h.1), if_neg (fun h => e h.1)]
      exact ⟨h 10 (by decide) (by decide) (by decide) (by decide), h 11 (by decide) (by decide) (by decide) (by decide), h 28 (by decide) (by decide) (by decide) (by decide), h 29 (by decide) (by decide) (by decide) (by decide), h 30 (by decide) (by decide) (by decide) (by decide), h 40 (by decide) (by decide) (by decide) (by decide)⟩
  rw [← hS1] at goal
  exact goal
end SX2
