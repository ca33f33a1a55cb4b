/-! ===== what each call answers and leaves ===== -/
theorem st1_row {V V' : VV} {e b k : Nat} (h : st1 V e V' b) (h1 : k ≠ 16) (h2 : k ≠ 19) (h3 : k ≠ 28) : V' k = V k := by
  rcases h with ⟨_, p, _, h, _⟩ | ⟨_, h, _⟩
  · rw [h, setl_o h1 h2 h3]
  · rw [h]
theorem it_st1_row {k : Nat} (h1 : k ≠ 16) (h2 : k ≠ 19) (h3 : k ≠ 28) : ∀ n V V' r, it st1 n V V' r → V' k = V k := by
  intro n
  induction n with
  | zero => intro V V' r h; rw [h.1]
  | succ n ih =>
    intro V V' r h
    obtain ⟨V1, r1, b, a1, a2, _⟩ := h
    rw [st1_row a2 h1 h2 h3, ih _ _ _ a1]
theorem td1_row {V V' : VV} {e b k : Nat} (h : td1 V e V' b) (h1 : k ≠ 16) : V' k = V k := by
  rcases h with ⟨_, _, h, _⟩ | ⟨_, h, _⟩
  · rw [h, up2_n _ _ h1]
  · rw [h]
theorem it_td1_row {k : Nat} (h1 : k ≠ 16) : ∀ n V V' r, it td1 n V V' r → V' k = V k := by
  intro n
  induction n with
  | zero => intro V V' r h; rw [h.1]
  | succ n ih =>
    intro V V' r h
    obtain ⟨V1, r1, b, a1, a2, _⟩ := h
    rw [td1_row a2 h1, ih _ _ _ a1]
def Ak (A A' : Nat → Nat → Nat) : Prop := A' 10 0 = A 10 0 ∧ A' 11 0 = A 11 0 ∧ A' 28 0 = A 28 0 ∧ A' 29 0 = A 29 0 ∧ A' 30 0 = A 30 0 ∧ A' 40 0 = A 40 0
theorem Ak.refl (A : Nat → Nat → Nat) : Ak A A := ⟨rfl, rfl, rfl, rfl, rfl, rfl⟩
theorem A3_Ak {A : Nat → Nat → Nat} {i n q d' : Nat} : Ak A (A3 A i n q d') := by
  obtain ⟨l1, l2, l3⟩ := el_ne (i := i)
  have h : ∀ t, t ≠ 7 → t ≠ 5 → t ≠ 9 → t ≠ 3 → t ≠ 23 → A3 A i n q d' t 0 = A t 0 := fun t a b c e g => by
    unfold A3
    rw [if_neg (fun x => by rcases l3 with y | y | y | y <;> omega), if_neg (fun x => g x.1)]
  exact ⟨h 10 (by decide) (by decide) (by decide) (by decide) (by decide), h 11 (by decide) (by decide) (by decide) (by decide) (by decide), h 28 (by decide) (by decide) (by decide) (by decide) (by decide), h 29 (by decide) (by decide) (by decide) (by decide) (by decide), h 30 (by decide) (by decide) (by decide) (by decide) (by decide), h 40 (by decide) (by decide) (by decide) (by decide) (by decide)⟩
theorem M3_Fr {M : MM} {i n : Nat} {fq fd : Nat → Int32} {m : Int32} : Fr M (M3 M i n fq fd m) := by
  obtain ⟨l1, l2, l3⟩ := el_ne (i := i)
  have h : ∀ t, t ≠ 7 → t ≠ 5 → t ≠ 9 → t ≠ 3 → t ≠ 23 → t ≠ 0 → M3 M i n fq fd m t = M t := fun t a b c e g k => M3_o (fun x => by rcases l3 with y | y | y | y <;> omega) g k
  exact ⟨h 11 (by decide) (by decide) (by decide) (by decide) (by decide) (by decide), h 27 (by decide) (by decide) (by decide) (by decide) (by decide) (by decide), h 28 (by decide) (by decide) (by decide) (by decide) (by decide) (by decide)⟩
/-- a call of the class is done: the store holds the museum V' -/
def Dn (A : Nat → Nat → Nat) (M : MM) (V' : VV) (S' : St) : Prop := ∃ A' M', Rep S' A' V' M' ∧ CV V' M' ∧ KO V' ∧ Fr M M' ∧ Ak A A'
def inr (x a b : Int32) : Prop := a ≤ x ∧ x ≤ b
def spR (V : VV) (h l f s : Int32) (k : Nat) (r : Int32) (V' : VV) : Prop :=
  (¬ (inr h 0 100 ∧ inr l 0 100 ∧ inr f 1 400 ∧ inr s 1 400) ∧ k = 1 ∧ V' = V) ∨ ((inr h 0 100 ∧ inr l 0 100 ∧ inr f 1 400 ∧ inr s 1 400) ∧ 4 ≤ nR V ∧ k = 2 ∧ V' = V) ∨
  ((inr h 0 100 ∧ inr l 0 100 ∧ inr f 1 400 ∧ inr s 1 400) ∧ nR V < 4 ∧ k = 0 ∧ r = z (nR V) ∧ ∃ n, it st1 (nE V) (addR V h l f s) V' n)
section SP
variable {S : St} {A : Nat → Nat → Nat} {V : VV} {M : MM}
theorem Dn.same (R : Rep S A V M) (C : CV V M) (K : KO V) : Dn A M V S := ⟨A, M, R, C, K, Fr.refl M, Ak.refl A⟩
theorem KO_row {V V' : VV} (h : V' 12 = V 12) (K : KO V) : KO V' := by unfold KO; rw [h]; exact K
theorem s_addRoom (R : Rep S A V M) (C : CV V M) (K : KO V) {h l f s : Int32} {g : Int32 → St → Prop} {exc : String → St → Prop}
    (hf : ∀ r V' S', spR V h l f s 0 r V' → Dn A M V' S' → g r S') (h1 : spR V h l f s 1 0 V → exc "java/lang/IllegalArgumentException" S) (h2 : spR V h l f s 2 0 V → exc "java/lang/IllegalStateException" S) : w_X9_addRoom S (A 10 0) h l f s g exc := by
  have hb := bR R
  unfold w_X9_addRoom
  refine s_isClimate (fun a => ?_) (fun a => ?_)
  · refine ⟨fun hc => absurd hc (by decide), fun _ => s_isWithin (fun b b' => ?_) (fun b => ?_)⟩
    · refine ⟨fun hc => absurd hc (by decide), fun _ => s_isWithin (fun c c' => ?_) (fun c => ?_)⟩
      · refine ⟨fun _ => ⟨o10 R, _, p10_0 R, o4 R, _, p4_0 R, o0 R (by decide), s_size0 R (by decide) ?_⟩, fun hc => absurd hc (by decide)⟩
        have hin : inr h 0 100 ∧ inr l 0 100 ∧ inr f 1 400 ∧ inr s 1 400 := ⟨⟨a.1, a.2.1⟩, ⟨a.2.2.1, a.2.2.2⟩, ⟨b, b'⟩, ⟨c, c'⟩⟩
        show (z (nR V) < 4 → _) ∧ (¬ z (nR V) < 4 → _)
        rw [show (4 : Int32) = z 4 from rfl, z_lt (by omega) (by decide)]
        refine ⟨fun d => ⟨o10 R, _, p10_0 R, o4 R, _, p4_0 R, fun q hq => ?_⟩, fun d => h2 (Or.inr (Or.inl ⟨hin, by omega, rfl, rfl⟩))⟩
        have hun := unused R hq
        have R1 : Rep (setI (setI (setI (setI (newO S q 7) q 0 h) q 1 l) q 2 f) q 3 s) A V M := Rep_offI (Rep_offI (Rep_offI (Rep_offI (Rep_newO R hq) hun) hun) hun) hun
        have hk : ok (setI (setI (setI (setI (newO S q 7) q 0 h) q 1 l) q 2 f) q 3 s) q 7 := ok_newS (S := S)
        have hi : sI (setI (setI (setI (setI (newO S q 7) q 0 h) q 1 l) q 2 f) q 3 s) q = upd (upd (upd (upd (fun _ => 0) 0 h) 1 l) 2 f) 3 s := by
          rw [sI_setI, if_pos rfl, sI_setI, if_pos rfl, sI_setI, if_pos rfl, sI_setI, if_pos rfl, sI_newO, if_pos rfl]
        obtain ⟨s1, s2, s3, s4⟩ := addR_s (V := V) (h := h) (l := l) (f := f) (s := s) (by omega)
        have r17 : addR V h l f s 17 = V 17 := by simp (decide := true) only [addR, up2_n]
        have r18 : addR V h l f s 18 = V 18 := by simp (decide := true) only [addR, up2_n]
        have r11 : addR V h l f s 11 = V 11 := by simp (decide := true) only [addR, up2_n]
        have r12 : addR V h l f s 12 = V 12 := by simp (decide := true) only [addR, up2_n]
        unfold w_X6_init
        refine ⟨ok_newS (S := S), o0 R1 (by decide), ?_⟩
        refine s_app3 (i := 0) (V' := addR V h l f s) (by decide) R1 hk hun (show nR V < 12 by omega) (fun j => ?_) r17 r18 (fun w _ => by unfold ow; rw [r11]) (fun l h => absurd h (by decide)) (fun d' => ?_) (fun S' d' m R2 _ _ => ?_)
        · by_cases e : j = 0
          · rw [if_pos e, e]; exact s1
          · rw [if_neg e]; unfold sz; rw [if_neg e, if_neg e, s2, s3, s4]
        · funext k
          rw [sP_setI, sP_setI, sP_setI, sP_setI, sP_newO, if_pos rfl]
          rfl
        · have C2 : CV (addR V h l f s) (M3 M 0 (nR V) (sI (setI (setI (setI (setI (newO S q 7) q 0 h) q 1 l) q 2 f) q 3 s) q) (sI S' d') m) := addR_CV C (by omega) (by rw [hi]; rfl) (by rw [hi]; rfl) (by rw [hi]; rfl) (by rw [hi]; rfl)
          have hA : A3 A 0 (nR V) q d' 10 0 = A 10 0 := A3_Ak.1
          have o10' := o10 R2
          change ok S' (A3 A 0 (nR V) q d' 10 0) 10 at o10'
          rw [hA] at o10'
          refine ⟨o10', ?_⟩
          have hw : w_X9_planThoseThatWait S' (A3 A 0 (nR V) q d' 10 0) (fun r37 S38 => ok S38 (A 10 0) 10 ∧ ∃ b41 : Nat, sP S38 (A 10 0) 0 = some b41 ∧ ok S38 b41 4 ∧ ∃ b44 : Nat, sP S38 b41 0 = some b44 ∧ ok S38 b44 0 ∧ w_Jx4a65c_size_8abf5 S38 b44 (fun r47 S48 => g (r47 - 1) S48)) := by
            refine s_planWait R2 C2 (KO_row r12 K) (by rw [s1]; omega) (fun S3 M3' V' r R3 C3 K3 F3 hit => ?_)
            rw [← hA]
            refine ⟨o10 R3, _, p10_0 R3, o4 R3, _, p4_0 R3, o0 R3 (by decide), s_size0 R3 (by decide) ?_⟩
            have e5 : sz V' 0 = nR V + 1 := by
              show nR V' = _
              rw [← s1]
              unfold nR
              rw [it_st1_row (by decide) (by decide) (by decide) _ _ _ _ hit]
            rw [e5, z_pred]
            rw [s4] at hit
            exact hf _ V' S3 (Or.inr (Or.inr ⟨hin, d, rfl, rfl, r, hit⟩)) ⟨_, M3', R3, C3, K3, M3_Fr.trans F3, A3_Ak⟩
          rw [hA] at hw
          exact hw
      · exact ⟨fun hc => absurd rfl hc, fun _ => h1 (Or.inl ⟨fun h => c h.2.2.2, rfl, rfl⟩)⟩
    · exact ⟨fun _ => h1 (Or.inl ⟨fun h => b h.2.2.1, rfl, rfl⟩), fun hc => absurd rfl hc⟩
  · exact ⟨fun _ => h1 (Or.inl ⟨fun h => a ⟨h.1.1, h.1.2, h.2.1.1, h.2.1.2⟩, rfl, rfl⟩), fun hc => absurd rfl hc⟩
def spL (V : VV) (a b c : Int32) (k : Nat) (r : Int32) (V' : VV) : Prop :=
  (¬ (inr a 1 9999 ∧ inr b 0 9 ∧ inr c 1 100) ∧ k = 1 ∧ V' = V) ∨ ((inr a 1 9999 ∧ inr b 0 9 ∧ inr c 1 100) ∧ 4 ≤ nL V ∧ k = 2 ∧ V' = V) ∨
  ((inr a 1 9999 ∧ inr b 0 9 ∧ inr c 1 100) ∧ nL V < 4 ∧ k = 0 ∧ r = z (nL V) ∧ V' = addL V a b c)
theorem s_addLender (R : Rep S A V M) (C : CV V M) (K : KO V) {a b c : Int32} {g : Int32 → St → Prop} {exc : String → St → Prop}
    (hf : ∀ r V' S', spL V a b c 0 r V' → Dn A M V' S' → g r S') (h1 : spL V a b c 1 0 V → exc "java/lang/IllegalArgumentException" S) (h2 : spL V a b c 2 0 V → exc "java/lang/IllegalStateException" S) : w_X9_addLender S (A 10 0) a b c g exc := by
  have hb := bL R
  unfold w_X9_addLender
  refine s_isWithin (fun a1 a2 => ?_) (fun a1 => ?_)
  · refine ⟨fun hc => absurd hc (by decide), fun _ => s_isWithin (fun b1 b2 => ?_) (fun b1 => ?_)⟩
    · refine ⟨fun hc => absurd hc (by decide), fun _ => s_isWithin (fun c1 c2 => ?_) (fun c1 => ?_)⟩
      · refine ⟨fun _ => ⟨o10 R, _, p10_1 R, o0 R (by decide), s_size0 R (by decide) ?_⟩, fun hc => absurd hc (by decide)⟩
        have hin : inr a 1 9999 ∧ inr b 0 9 ∧ inr c 1 100 := ⟨⟨a1, a2⟩, ⟨b1, b2⟩, ⟨c1, c2⟩⟩
        show (z (nL V) < 4 → _) ∧ (¬ z (nL V) < 4 → _)
        rw [show (4 : Int32) = z 4 from rfl, z_lt (by omega) (by decide)]
        refine ⟨fun d q hq => ?_, fun d => h2 (Or.inr (Or.inl ⟨hin, by omega, rfl, rfl⟩))⟩
        have hun := unused R hq
        have R0 : Rep (newO S q 5) A V M := Rep_newO R hq
        refine ⟨o10 R0, _, p10_1 R0, o0 R0 (by decide), s_size0 R0 (by decide) ?_⟩
        have R1 : Rep (setI (setI (setI (setI (newO S q 5) q 0 (z (nL V))) q 1 a) q 2 b) q 3 c) A V M := Rep_offI (Rep_offI (Rep_offI (Rep_offI R0 hun) hun) hun) hun
        have hk : ok (setI (setI (setI (setI (newO S q 5) q 0 (z (nL V))) q 1 a) q 2 b) q 3 c) q 5 := ok_newS (S := S)
        have hi : sI (setI (setI (setI (setI (newO S q 5) q 0 (z (nL V))) q 1 a) q 2 b) q 3 c) q = upd (upd (upd (upd (fun _ => 0) 0 (z (nL V))) 1 a) 2 b) 3 c := by
          rw [sI_setI, if_pos rfl, sI_setI, if_pos rfl, sI_setI, if_pos rfl, sI_setI, if_pos rfl, sI_newO, if_pos rfl]
        obtain ⟨s1, s2, s3, s4⟩ := addL_s (V := V) (a := a) (b := b) (c := c) (by omega)
        have r17 : addL V a b c 17 = V 17 := by simp (decide := true) only [addL, up2_n]
        have r18 : addL V a b c 18 = V 18 := by simp (decide := true) only [addL, up2_n]
        have r11 : addL V a b c 11 = V 11 := by simp (decide := true) only [addL, up2_n]
        have r12 : addL V a b c 12 = V 12 := by simp (decide := true) only [addL, up2_n]
        unfold w_X4_init
        refine ⟨ok_newS (S := S), o10 R1, _, p10_1 R1, o0 R1 (by decide), ?_⟩
        refine s_app3 (i := 1) (V' := addL V a b c) (by decide) R1 hk hun (show nL V < 12 by omega) (fun j => ?_) r17 r18 (fun w _ => by unfold ow; rw [r11]) (fun l h => absurd h (by decide)) (fun d' => ?_) (fun S' d' m R2 ok2 hi2 => ?_)
        · by_cases e : j = 1
          · rw [if_pos e, e]; exact s2
          · rw [if_neg e]; unfold sz; rw [if_neg e, if_neg e, s1, s3, s4]
        · funext k
          rw [sP_setI, sP_setI, sP_setI, sP_setI, sP_newO, if_pos rfl]
          rfl
        · have C2 : CV (addL V a b c) (M3 M 1 (nL V) (sI (setI (setI (setI (setI (newO S q 5) q 0 (z (nL V))) q 1 a) q 2 b) q 3 c) q) (sI S' d') m) := addL_CV C (by omega) (by rw [hi]; rfl) (by rw [hi]; rfl) (by rw [hi]; rfl) (by rw [hi]; rfl)
          refine ⟨ok2, ?_⟩
          have e0 : sI S' q 0 = z (nL V) := by
            rw [hi2]
            exact (congrFun hi 0).trans rfl
          show g (sI S' q 0) S'
          rw [e0]
          exact hf _ _ S' (Or.inr (Or.inr ⟨hin, d, rfl, rfl, rfl⟩)) ⟨_, _, R2, C2, KO_row r12 K, M3_Fr, A3_Ak⟩
      · exact ⟨fun hc => absurd rfl hc, fun _ => h1 (Or.inl ⟨fun h => c1 h.2.2, rfl, rfl⟩)⟩
    · exact ⟨fun _ => h1 (Or.inl ⟨fun h => b1 h.2.1, rfl, rfl⟩), fun hc => absurd rfl hc⟩
  · exact ⟨fun _ => h1 (Or.inl ⟨fun h => a1 h.1, rfl, rfl⟩), fun hc => absurd rfl hc⟩
end SP
