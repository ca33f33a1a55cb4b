/-! ===== addWork ===== -/
section SW
variable {S : St} {A : Nat → Nat → Nat} {V : VV} {M : MM} {exc : String → St → Prop}
def okW (V : VV) (w lo hi li va o : Int32) : Prop := inr w 1 200 ∧ inr lo 0 100 ∧ inr hi lo 100 ∧ inr li 0 100 ∧ inr va 1 999 ∧ inr o (-1) (z (nL V) - 1)
def spW (V : VV) (w lo hi li va o : Int32) (k : Nat) (r : Int32) (V' : VV) : Prop :=
  (¬ okW V w lo hi li va o ∧ k = 1 ∧ V' = V) ∨ (okW V w lo hi li va o ∧ 12 ≤ nW V ∧ k = 2 ∧ V' = V) ∨ (okW V w lo hi li va o ∧ nW V < 12 ∧ k = 0 ∧ r = z (nW V) ∧ V' = addW V w lo hi li va o)
theorem addW_ow {w lo hi li va o : Int32} {j : Nat} (h : j < nW V) : ow (addW V w lo hi li va o) j = ow V j := by
  unfold ow
  simp (decide := true) only [addW, up2_s, up2_n]
  rw [upd_n _ _ (by omega)]
theorem addW_own {w lo hi li va o : Int32} : ow (addW V w lo hi li va o) (nW V) = if o < 0 then none else some o.toNatClampNeg := by
  unfold ow
  simp (decide := true) only [addW, up2_s, up2_n]
  rw [upd_s]
theorem addW_tail {w lo hi li va o : Int32} {g : Int32 → St → Prop} {S1 : St} {q : Nat} {b : Option Nat} (R : Rep S1 A V M) (C : CV V M) (K : KO V) (hW : nW V < 12) (hk : ok S1 q 9) (hun : ∀ t j, us V t j → A t j ≠ q)
    (hi' : sI S1 q = upd (upd (upd (upd (upd (upd (fun _ => 0) 0 (z (nW V))) 1 w) 2 lo) 3 hi) 4 li) 5 va) (hp : sP S1 q = va_up (fun _ => none) 6 b) (hb : ow (addW V w lo hi li va o) (nW V) = none ∧ b = none ∨ ∃ l, l < nL V ∧ ow (addW V w lo hi li va o) (nW V) = some l ∧ b = some (A 5 l))
    (hf : ∀ S', Dn A M (addW V w lo hi li va o) S' → g (z (nW V)) S') : w_Jx4a65c_add_9ea2d S1 (A 0 2) q (fun (r60 : Int32) (S61 : St) => ok S61 q 9 ∧ g (sI S61 q 0) S61) := by
  obtain ⟨s1, s2, s3, s4⟩ := addW_s (V := V) (w := w) (lo := lo) (hi := hi) (li := li) (va := va) (o := o) (by omega)
  have r17 : addW V w lo hi li va o 17 = V 17 := by simp (decide := true) only [addW, up2_n]
  have r18 : addW V w lo hi li va o 18 = V 18 := by simp (decide := true) only [addW, up2_n]
  have r12 : addW V w lo hi li va o 12 = V 12 := by simp (decide := true) only [addW, up2_n]
  refine s_app3 (i := 2) (V' := addW V w lo hi li va o) (by decide) R hk hun hW (fun j => ?_) r17 r18 (fun w hw => addW_ow hw) (fun l _ hl => ?_) (fun d' => ?_) (fun S' d' m R2 ok2 hi2 => ?_)
  · by_cases e : j = 2
    · rw [if_pos e, e]; exact s3
    · rw [if_neg e]; unfold sz; rw [if_neg e, if_neg e, s1, s2, s4]
  · rcases hb with ⟨h1, _⟩ | ⟨l', h1, h2, _⟩
    · rw [h1] at hl
      cases hl
    · rw [h2] at hl
      cases hl
      exact h1
  · rw [hp]
    funext k
    rw [up_ap]
    show _ = if k = 6 then (ow (addW V w lo hi li va o) (nW V)).map (A3 A 2 (nW V) q d' 5) else none
    by_cases e : k = 6
    · rw [if_pos e, if_pos e]
      rcases hb with ⟨h1, h2⟩ | ⟨l', h1, h2, h3⟩
      · rw [h1, h2]
        rfl
      · rw [h2, h3]
        show some (A 5 l') = some (A3 A 2 (nW V) q d' 5 l')
        unfold A3
        rw [if_neg (fun h => absurd h.1 (by decide)), if_neg (fun h => absurd h.1 (by decide))]
    · rw [if_neg e, if_neg e]
  · have C2 : CV (addW V w lo hi li va o) (M3 M 2 (nW V) (sI S1 q) (sI S' d') m) := addW_CV C (by omega) (by rw [hi']; rfl) (by rw [hi']; rfl) (by rw [hi']; rfl) (by rw [hi']; rfl) (by rw [hi']; rfl) (by rw [hi']; rfl)
    have e0 : sI S' q 0 = z (nW V) := by
      rw [hi2, hi']
      rfl
    refine ⟨ok2, ?_⟩
    rw [e0]
    exact hf S' ⟨_, _, R2, C2, KO_row r12 K, M3_Fr, A3_Ak⟩
theorem s_addWork (R : Rep S A V M) (C : CV V M) (K : KO V) {w lo hi li va o : Int32} {g : Int32 → St → Prop}
    (hf : ∀ r V' S', spW V w lo hi li va o 0 r V' → Dn A M V' S' → g r S') (h1 : spW V w lo hi li va o 1 0 V → exc "java/lang/IllegalArgumentException" S) (h2 : spW V w lo hi li va o 2 0 V → exc "java/lang/IllegalStateException" S) : w_X9_addWork S (A 10 0) w lo hi li va o g exc := by
  have hbW := bW R
  have hbL := bL R
  unfold w_X9_addWork
  refine s_isWithin (fun a1 a2 => ?_) (fun a1 => ⟨fun _ => h1 (Or.inl ⟨fun h => a1 h.1, rfl, rfl⟩), fun hc => absurd rfl hc⟩)
  refine ⟨fun hc => absurd hc (by decide), fun _ => s_isWithin (fun b1 b2 => ?_) (fun b1 => ⟨fun _ => h1 (Or.inl ⟨fun h => b1 h.2.1, rfl, rfl⟩), fun hc => absurd rfl hc⟩)⟩
  refine ⟨fun hc => absurd hc (by decide), fun _ => s_isWithin (fun c1 c2 => ?_) (fun c1 => ⟨fun _ => h1 (Or.inl ⟨fun h => c1 h.2.2.1, rfl, rfl⟩), fun hc => absurd rfl hc⟩)⟩
  refine ⟨fun hc => absurd hc (by decide), fun _ => s_isWithin (fun d1 d2 => ?_) (fun d1 => ⟨fun _ => h1 (Or.inl ⟨fun h => d1 h.2.2.2.1, rfl, rfl⟩), fun hc => absurd rfl hc⟩)⟩
  refine ⟨fun hc => absurd hc (by decide), fun _ => s_isWithin (fun e1 e2 => ?_) (fun e1 => ⟨fun hc => absurd rfl hc, fun _ => h1 (Or.inl ⟨fun h => e1 h.2.2.2.2.1, rfl, rfl⟩)⟩)⟩
  refine ⟨fun _ => ⟨o10 R, _, p10_1 R, o0 R (by decide), s_size0 R (by decide) ?_⟩, fun hc => absurd hc (by decide)⟩
  refine s_isWithin (fun l1 l2 => ?_) (fun l1 => ⟨fun hc => absurd rfl hc, fun _ => h1 (Or.inl ⟨fun h => l1 h.2.2.2.2.2, rfl, rfl⟩)⟩)
  have hin : okW V w lo hi li va o := ⟨⟨a1, a2⟩, ⟨b1, b2⟩, ⟨c1, c2⟩, ⟨d1, d2⟩, ⟨e1, e2⟩, ⟨l1, l2⟩⟩
  refine ⟨fun _ => ⟨o10 R, _, p10_2 R, o0 R (by decide), s_size0 R (by decide) ?_⟩, fun hc => absurd hc (by decide)⟩
  show (z (nW V) < 12 → _) ∧ (¬ z (nW V) < 12 → _)
  rw [show (12 : Int32) = z 12 from rfl, z_lt (by omega) (by decide)]
  refine ⟨fun hW => ⟨o10 R, _, p10_1 R, o0 R (by decide), s_size0 R (by decide) ?_⟩, fun hW => h2 (Or.inr (Or.inl ⟨hin, by omega, rfl, rfl⟩))⟩
  have fin : ∀ S', Dn A M (addW V w lo hi li va o) S' → g (z (nW V)) S' := fun S' D => hf _ _ S' (Or.inr (Or.inr ⟨hin, hW, rfl, rfl, rfl⟩)) D
  refine s_isWithin (fun m1 m2 => ?_) (fun m1 => ?_)
  · refine ⟨fun hc => absurd hc (by decide), fun _ => ⟨o10 R, _, p10_1 R, o0 R (by decide), ?_⟩⟩
    obtain ⟨l, hl, rfl⟩ := ix_in (show nL V < 2147483648 by omega) m1 m2
    refine s_get0 R (by decide) (show l < sz V 1 from hl) ⟨o5 R hl, fun q hq => ?_⟩
    have hun := unused R hq
    have R0 : Rep (newO S q 9) A V M := Rep_newO R hq
    refine ⟨o10 R0, _, p10_2 R0, o0 R0 (by decide), s_size0 R0 (by decide) ?_⟩
    unfold w_X8_init
    have R1 : Rep (setP (setI (setI (setI (setI (setI (setI (newO S q 9) q 0 (z (nW V))) q 1 w) q 2 lo) q 3 hi) q 4 li) q 5 va) q 6 (some (A 5 l))) A V M := Rep_offP (Rep_offI (Rep_offI (Rep_offI (Rep_offI (Rep_offI (Rep_offI R0 hun) hun) hun) hun) hun) hun) hun
    refine ⟨ok_newS (S := S), o10 R1, _, p10_2 R1, o0 R1 (by decide), addW_tail (b := some (A 5 l)) R1 C K hW (ok_newS (S := S)) hun ?_ ?_ (Or.inr ⟨l, hl, ?_, rfl⟩) fin⟩
    · rw [sI_setP, sI_setI, if_pos rfl, sI_setI, if_pos rfl, sI_setI, if_pos rfl, sI_setI, if_pos rfl, sI_setI, if_pos rfl, sI_setI, if_pos rfl, sI_newO, if_pos rfl]
      rfl
    · rw [sP_setP, if_pos rfl, sP_setI, sP_setI, sP_setI, sP_setI, sP_setI, sP_setI, sP_newO, if_pos rfl]
      rfl
    · rw [addW_own, if_neg (z_neg (by omega)), z_c (by omega)]
  · refine ⟨fun _ q hq => ?_, fun hc => absurd rfl hc⟩
    have hun := unused R hq
    have R0 : Rep (newO S q 9) A V M := Rep_newO R hq
    refine ⟨o10 R0, _, p10_2 R0, o0 R0 (by decide), s_size0 R0 (by decide) ?_⟩
    unfold w_X8_initN6
    have R1 : Rep (setP (setI (setI (setI (setI (setI (setI (newO S q 9) q 0 (z (nW V))) q 1 w) q 2 lo) q 3 hi) q 4 li) q 5 va) q 6 none) A V M := Rep_offP (Rep_offI (Rep_offI (Rep_offI (Rep_offI (Rep_offI (Rep_offI R0 hun) hun) hun) hun) hun) hun) hun
    refine ⟨ok_newS (S := S), o10 R1, _, p10_2 R1, o0 R1 (by decide), addW_tail (b := none) R1 C K hW (ok_newS (S := S)) hun ?_ ?_ (Or.inl ⟨?_, rfl⟩) fin⟩
    · rw [sI_setP, sI_setI, if_pos rfl, sI_setI, if_pos rfl, sI_setI, if_pos rfl, sI_setI, if_pos rfl, sI_setI, if_pos rfl, sI_setI, if_pos rfl, sI_newO, if_pos rfl]
      rfl
    · rw [sP_setP, if_pos rfl, sP_setI, sP_setI, sP_setI, sP_setI, sP_setI, sP_setI, sP_newO, if_pos rfl]
    · have h0 : o < 0 := by
        refine Int32.not_le.1 (fun h => m1 ⟨h, l2⟩)
      rw [addW_own, if_pos h0]
end SW
