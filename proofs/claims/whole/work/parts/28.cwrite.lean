/-! ===== plans that are laid ===== -/
def pln (V : VV) (e : Nat) (p : Nat → Nat) : Prop := (∀ j, j < cn V e → takes V e (ic V e j)) ∧ Fi (okp V e) (cn V e) (2 * nR V) p
def nopl (V : VV) (e : Nat) : Prop := ¬ ∃ p, (∀ j, j < cn V e → takes V e (ic V e j)) ∧ Va (okp V e) (cn V e) (2 * nR V) p
def hgV (V : VV) (e : Nat) (p : Nat → Nat) : VV := fun k i => if k = 19 ∧ 5 * e ≤ i ∧ i < 5 * e + cn V e then z (p (i - 5 * e)) else if k = 16 ∧ i = e then 112 else V k i
def setl (V : VV) (e : Nat) (p : Nat → Nat) : VV := up2 (hgV V e p) 28 0 (V 28 0 + 1)
def st1 (V : VV) (e : Nat) (V' : VV) (b : Nat) : Prop := (V 16 e = 119 ∧ ∃ p, pln V e p ∧ V' = setl V e p ∧ b = 1) ∨ (¬ (V 16 e = 119 ∧ ∃ p, pln V e p) ∧ V' = V ∧ b = 0)
def td1 (V : VV) (e : Nat) (V' : VV) (b : Nat) : Prop := (V 16 e = 112 ∧ ¬ swh V e ∧ V' = up2 V 16 e 119 ∧ b = 1) ∨ (¬ (V 16 e = 112 ∧ ¬ swh V e) ∧ V' = V ∧ b = 0)
def it (st : VV → Nat → VV → Nat → Prop) : Nat → VV → VV → Nat → Prop
  | 0, V, V', r => V' = V ∧ r = 0
  | k + 1, V, V', r => ∃ V1 r1 b, it st k V V1 r1 ∧ st V1 k V' b ∧ r = r1 + b
theorem it_det {st : VV → Nat → VV → Nat → Prop} (hd : ∀ V e V' b V'' b', st V e V' b → st V e V'' b' → V' = V'' ∧ b = b') : ∀ k V V' r V'' r', it st k V V' r → it st k V V'' r' → V' = V'' ∧ r = r' := by
  intro k
  induction k with
  | zero =>
    intro V V' r V'' r' h1 h2
    exact ⟨h1.1.trans h2.1.symm, h1.2.trans h2.2.symm⟩
  | succ k ih =>
    intro V V' r V'' r' h1 h2
    obtain ⟨V1, r1, b1, a1, a2, a3⟩ := h1
    obtain ⟨V2, r2, b2, c1, c2, c3⟩ := h2
    obtain ⟨e1, e2⟩ := ih _ _ _ _ _ a1 c1
    subst e1 e2
    obtain ⟨e3, e4⟩ := hd _ _ _ _ _ _ a2 c2
    exact ⟨e3, by omega⟩
theorem it_le {st : VV → Nat → VV → Nat → Prop} (hd : ∀ V e V' b, st V e V' b → b ≤ 1) : ∀ k V V' r, it st k V V' r → r ≤ k := by
  intro k
  induction k with
  | zero => intro V V' r h; exact Nat.le_of_eq h.2
  | succ k ih =>
    intro V V' r h
    obtain ⟨V1, r1, b1, a1, a2, a3⟩ := h
    have := ih _ _ _ a1
    have := hd _ _ _ _ a2
    omega
theorem hgV_c {V : VV} {e : Nat} {p q : Nat → Nat} (h : ∀ i, i < cn V e → p i = q i) : hgV V e p = hgV V e q := by
  funext k i
  unfold hgV
  split
  · next hc => rw [h _ (by omega)]
  · rfl
theorem st1_det (V : VV) (e : Nat) (V' : VV) (b : Nat) (V'' : VV) (b' : Nat) (h : st1 V e V' b) (k : st1 V e V'' b') : V' = V'' ∧ b = b' := by
  rcases h with ⟨h1, p, h2, h3, h4⟩ | ⟨h1, h3, h4⟩
  · rcases k with ⟨k1, q, k2, k3, k4⟩ | ⟨k1, k3, k4⟩
    · have e1 := hgV_c (Fi_uniq h2.2 k2.2)
      rw [h3, k3, h4, k4]
      unfold setl
      rw [e1]
      exact ⟨rfl, rfl⟩
    · exact absurd ⟨h1, p, h2⟩ k1
  · rcases k with ⟨k1, q, k2, k3, k4⟩ | ⟨k1, k3, k4⟩
    · exact absurd ⟨k1, q, k2⟩ h1
    · rw [h3, k3, h4, k4]
      exact ⟨rfl, rfl⟩
theorem td1_det (V : VV) (e : Nat) (V' : VV) (b : Nat) (V'' : VV) (b' : Nat) (h : td1 V e V' b) (k : td1 V e V'' b') : V' = V'' ∧ b = b' := by
  rcases h with ⟨h1, h2, h3, h4⟩ | ⟨h1, h3, h4⟩
  · rcases k with ⟨k1, k2, k3, k4⟩ | ⟨k1, k3, k4⟩
    · rw [h3, k3, h4, k4]
      exact ⟨rfl, rfl⟩
    · exact absurd ⟨h1, h2⟩ k1
  · rcases k with ⟨k1, k2, k3, k4⟩ | ⟨k1, k3, k4⟩
    · exact absurd ⟨k1, k2⟩ h1
    · rw [h3, k3, h4, k4]
      exact ⟨rfl, rfl⟩
theorem nopl_pln {V : VV} {e : Nat} (h : nopl V e) : ¬ ∃ p, pln V e p := fun ⟨p, h1, h2⟩ => h ⟨p, h1, h2.1⟩
theorem nopl_prp {V : VV} {e : Nat} (h : ¬ prp V e) : nopl V e := fun ⟨p, h1, h2⟩ => h (fun j hj => ⟨h1 j hj, p j, (h2 j hj).1, (h2 j hj).2.1⟩)
section CW2
variable {A : Nat → Nat → Nat} {V : VV}
theorem s_finds {S : St} {M : MM} {e : Nat} {f : Int32 → St → Prop} (R : Rep S A V M) (C : CV V M) (he : e < nE V) (K : KO V) (hR4 : nR V ≤ 4)
    (h1 : ∀ S' M' p, Rep S' A V M' → Sx M M' → pln V e p → (∀ j, j < cn V e → M' 25 2 j = z (p j)) → f 1 S')
    (h0 : ∀ S' M', Rep S' A V M' → Sx M M' → nopl V e → f 0 S') : w_X9_findsWorkByWork S (A 10 0) (A 3 e) f := by
  unfold w_X9_findsWorkByWork
  refine ⟨o10 R, _, p10_5 R, _, p10_0 R, _, p10_4 R, _, p10_3 R, o1 R, ?_⟩
  refine s_prepare R C he K hR4 (fun a S' M' R' sx bA bw => ?_) (fun a S' M' R' sx => ?_)
  · refine ⟨fun hc => absurd hc (by decide), fun _ => ⟨o10 R', _, p10_5 R', o1 R', ?_⟩⟩
    refine s_hangWork he K hR4 R' bA bw (fun S2 M2 p R2 sz fi hc => ?_) (fun S2 M2 R2 sz hn => ?_)
    · exact ⟨fun hc => absurd hc (by decide), fun _ => h1 S2 M2 p R2 (sx.trans sz.sx) ⟨fun j hj => (a j hj).1, fi⟩ hc⟩
    · exact ⟨fun _ => h0 S2 M2 R2 (sx.trans sz.sx) (fun ⟨p, _, hv⟩ => hn p hv), fun hc => absurd rfl hc⟩
  · exact ⟨fun _ => h0 S' M' R' sx (nopl_prp a), fun hc => absurd rfl hc⟩
theorem s_findsS {S : St} {M : MM} {e : Nat} {f : Int32 → St → Prop} (R : Rep S A V M) (C : CV V M) (he : e < nE V) (K : KO V) (hR4 : nR V ≤ 4) (hc0 : 0 < cn V e)
    (h1 : ∀ S' M' p, Rep S' A V M' → Sx M M' → pln V e p → (∀ j, j < cn V e → M' 25 2 j = z (p j)) → f 1 S')
    (h0 : ∀ S' M', Rep S' A V M' → Sx M M' → nopl V e → f 0 S') : w_X9_findsBySearch S (A 10 0) (A 3 e) f := by
  unfold w_X9_findsBySearch
  refine ⟨o10 R, _, p10_5 R, _, p10_0 R, _, p10_4 R, _, p10_3 R, o1 R, ?_⟩
  refine s_prepare R C he K hR4 (fun a S' M' R' sx bA bw => ?_) (fun a S' M' R' sx => ?_)
  · refine ⟨fun hc => absurd hc (by decide), fun _ => ⟨o10 R', _, p10_5 R', o1 R', ?_⟩⟩
    refine s_searchAll R' he K hR4 bA bw hc0 (fun S2 M2 p R2 sz fi hc => ?_) (fun S2 M2 R2 sz hn => ?_)
    · exact ⟨fun hc => absurd hc (by decide), fun _ => h1 S2 M2 p R2 (sx.trans sz.sx) ⟨fun j hj => (a j hj).1, fi⟩ hc⟩
    · exact ⟨fun _ => h0 S2 M2 R2 (sx.trans sz.sx) (fun ⟨p, _, hv⟩ => hn p hv), fun hc => absurd rfl hc⟩
  · exact ⟨fun _ => h0 S' M' R' sx (nopl_prp a), fun hc => absurd rfl hc⟩
/-- an exhibition's walls as they are written, k of them -/
def Sh (e k : Nat) (p : Nat → Nat) (M M' : MM) : Prop := (∀ t, t ≠ 22 → M' t = M t) ∧ (∀ g, g ≠ e → M' 22 g = M 22 g) ∧ ∀ j, M' 22 e j = if j < k then z (p j) else M 22 e j
theorem l_hangAs {e : Nat} {M0 : MM} {p : Nat → Nat} {f : St → Prop} (he : e < nE V) (hp : ∀ j, j < cn V e → M0 25 2 j = z (p j))
    (hf : ∀ S' M', Rep S' A V M' → Sh e (cn V e) p M0 M' → f (setI S' (A 3 e) 6 112)) : ∀ n k S M, k ≤ cn V e → cn V e < k + n → Rep S A V M → Sh e k p M0 M → wl_X2_hangAs_2 f n S (A 3 e) (A 25 2) (z k) := by
  intro n
  induction n with
  | zero => intro k S M k1 k2; omega
  | succ n ih =>
    intro k S M k1 k2 R sh
    have hc5 := bC R he
    unfold wl_X2_hangAs_2
    refine ⟨o3 R he, _, p3_4 R he, o20 R he, s_size20 R he ⟨fun hc => ?_, fun hc => ?_⟩⟩
    · have h3 := z_ex k1 (by omega) hc
      subst h3
      exact ⟨o3 R he, hf S M R sh⟩
    · have h3 := z_go k1 (by omega) hc
      refine ⟨o3 R he, _, p3_5 R he, s_numberAt (o25 R (by decide)) (n25_2 R) (by omega) (by decide) ?_⟩
      rw [i25 R (by decide), sh.1 25 (by decide), hp k h3]
      refine s_putAt (o22 R he) (n22 R he) (by omega) (by decide) ?_
      rw [z_s]
      refine ih (k + 1) _ _ (by omega) (by omega) (Rep_set R (show us V 22 e from he) (fun h => by omega)) ⟨fun t ht => ?_, fun g hg => ?_, fun j => ?_⟩
      · rw [up3_t M _ ht]
        exact sh.1 t ht
      · rw [up3_i M _ hg]
        exact sh.2.1 g hg
      · rw [up3_s, upd_ap, sh.2.2 j]
        by_cases e1 : j = k
        · rw [if_pos e1, if_pos (by omega), e1]
        · rw [if_neg e1]
          by_cases e2 : j < k
          · rw [if_pos e2, if_pos (by omega)]
          · rw [if_neg e2, if_neg (by omega)]
theorem hgV_o {e k : Nat} {p : Nat → Nat} (h1 : k ≠ 16) (h2 : k ≠ 19) : hgV V e p k = V k := by
  funext i
  unfold hgV
  rw [if_neg (fun h => h2 h.1), if_neg (fun h => h1 h.1)]
theorem setl_o {e k : Nat} {p : Nat → Nat} (h1 : k ≠ 16) (h2 : k ≠ 19) (h3 : k ≠ 28) : setl V e p k = V k := by
  unfold setl
  rw [up2_n _ _ h3, hgV_o h1 h2]
theorem setl_16 {e g : Nat} {p : Nat → Nat} : setl V e p 16 g = if g = e then 112 else V 16 g := by
  unfold setl hgV
  rw [up2_n _ _ (by decide), if_neg (fun h => absurd h.1 (by decide))]
  by_cases h : g = e
  · rw [if_pos ⟨rfl, h⟩, if_pos h]
  · rw [if_neg (fun h2 => h h2.2), if_neg h]
theorem setl_19 {e g k : Nat} {p : Nat → Nat} (hc : cn V e ≤ 5) (hk : k < 5) : setl V e p 19 (5 * g + k) = if g = e ∧ k < cn V e then z (p k) else V 19 (5 * g + k) := by
  unfold setl hgV
  rw [up2_n _ _ (by decide)]
  by_cases h : g = e ∧ k < cn V e
  · rw [if_pos ⟨rfl, by omega, by omega⟩, if_pos h]
    congr 2
    omega
  · rw [if_neg (fun h2 => h ⟨by omega, by omega⟩), if_neg (fun h2 => absurd h2.1 (by decide)), if_neg h]
theorem setl_28 {e : Nat} {p : Nat → Nat} : setl V e p 28 0 = V 28 0 + 1 := by
  unfold setl
  rw [up2_s, upd_s]
theorem s_hangAsFound {S : St} {M : MM} {e : Nat} {p : Nat → Nat} {f : St → Prop} (R : Rep S A V M) (C : CV V M) (he : e < nE V) (hp : ∀ j, j < cn V e → M 25 2 j = z (p j))
    (hf : ∀ S' M', Rep S' A (setl V e p) M' → CV (setl V e p) M' → Fr M M' → f S') : w_X9_hangAsFound S (A 10 0) (A 3 e) f := by
  have hc5 := bC R he
  unfold w_X9_hangAsFound
  refine ⟨o10 R, _, p10_5 R, o1 R, _, p1_4 R, o3 R he, ?_⟩
  unfold w_X2_hangAs
  refine ⟨cn V e + 1, l_hangAs (M0 := M) (p := p) he hp (fun S' M' R' sh => ?_) _ 0 S M (Nat.zero_le _) (by omega) R ⟨fun _ _ => rfl, fun _ _ => rfl, fun j => by rw [if_neg (by omega)]⟩⟩
  have R2 : Rep (setI S' (A 3 e) 6 112) A V (up3 M' 3 e 6 112) := Rep_set R' (show us V 3 e from he) (fun h => by omega)
  refine ⟨o10 R2, ?_⟩
  have e10 : sI (setI S' (A 3 e) 6 112) (A 10 0) 7 = V 28 0 := by
    rw [i10 R2, up3_t M' _ (by decide), sh.1 10 (by decide)]
    exact C.2.2.2.2.2.1
  rw [e10]
  have R3 : Rep (setI (setI S' (A 3 e) 6 112) (A 10 0) 7 (V 28 0 + 1)) A V (up3 (up3 M' 3 e 6 112) 10 0 7 (V 28 0 + 1)) := Rep_set R2 (show us V 10 0 from rfl) (fun h => by omega)
  have R4 : Rep (setI (setI S' (A 3 e) 6 112) (A 10 0) 7 (V 28 0 + 1)) A (setl V e p) (up3 (up3 M' 3 e 6 112) 10 0 7 (V 28 0 + 1)) := Rep_V R3 (setl_o (by decide) (by decide) (by decide)) (setl_o (by decide) (by decide) (by decide)) (setl_o (by decide) (by decide) (by decide)) (setl_o (by decide) (by decide) (by decide)) (setl_o (by decide) (by decide) (by decide)) (setl_o (by decide) (by decide) (by decide)) (setl_o (by decide) (by decide) (by decide))
  refine hf _ _ R4 ?_ ⟨?_, ?_, ?_⟩
  · have f1 : nR (setl V e p) = nR V := by unfold nR; rw [setl_o (by decide) (by decide) (by decide)]
    have f2 : nL (setl V e p) = nL V := by unfold nL; rw [setl_o (by decide) (by decide) (by decide)]
    have f3 : nW (setl V e p) = nW V := by unfold nW; rw [setl_o (by decide) (by decide) (by decide)]
    have f4 : nE (setl V e p) = nE V := by unfold nE; rw [setl_o (by decide) (by decide) (by decide)]
    have g : ∀ t, t ≠ 22 → t ≠ 3 → t ≠ 10 → up3 (up3 M' 3 e 6 112) 10 0 7 (V 28 0 + 1) t = M t := fun t a b c => by
      rw [up3_t _ _ c, up3_t _ _ b, sh.1 t a]
    obtain ⟨c1, c2, c3, c4, c5, c6, c7⟩ := C
    unfold CV
    rw [f1, f2, f3, f4, g 7 (by decide) (by decide) (by decide), g 5 (by decide) (by decide) (by decide), g 9 (by decide) (by decide) (by decide), g 24 (by decide) (by decide) (by decide), g 26 (by decide) (by decide) (by decide)]
    refine ⟨?_, ?_, ?_, fun i hi => ?_, ?_, ?_, c7⟩
    · simp only [setl_o (V := V) (e := e) (p := p) (k := 0) (by decide) (by decide) (by decide), setl_o (V := V) (e := e) (p := p) (k := 1) (by decide) (by decide) (by decide), setl_o (V := V) (e := e) (p := p) (k := 2) (by decide) (by decide) (by decide)]
      exact c1
    · simp only [setl_o (V := V) (e := e) (p := p) (k := 3) (by decide) (by decide) (by decide), setl_o (V := V) (e := e) (p := p) (k := 4) (by decide) (by decide) (by decide), setl_o (V := V) (e := e) (p := p) (k := 5) (by decide) (by decide) (by decide)]
      exact c2
    · simp only [setl_o (V := V) (e := e) (p := p) (k := 6) (by decide) (by decide) (by decide), setl_o (V := V) (e := e) (p := p) (k := 7) (by decide) (by decide) (by decide), setl_o (V := V) (e := e) (p := p) (k := 8) (by decide) (by decide) (by decide), setl_o (V := V) (e := e) (p := p) (k := 9) (by decide) (by decide) (by decide), setl_o (V := V) (e := e) (p := p) (k := 10) (by decide) (by decide) (by decide)]
      exact c3
    · rw [setl_o (k := 13) (by decide) (by decide) (by decide), setl_o (k := 14) (by decide) (by decide) (by decide), setl_o (k := 15) (by decide) (by decide) (by decide), setl_16]
      obtain ⟨d0, d1, d2, d3, d4, d5⟩ := c4 i hi
      rw [up3_t _ _ (show 3 ≠ 10 by decide), up3_t _ _ (show 22 ≠ 10 by decide), up3_t _ _ (show 22 ≠ 3 by decide)]
      have w : ∀ k, k < 5 → M' 22 i k = setl V e p 19 (5 * i + k) := fun k hk => by
        rw [setl_19 hc5 hk]
        by_cases e1 : i = e
        · subst e1
          rw [sh.2.2 k]
          by_cases e2 : k < cn V i
          · rw [if_pos e2, if_pos ⟨rfl, e2⟩]
          · rw [if_neg e2, if_neg (fun h => e2 h.2)]
            exact d5 k hk
        · rw [if_neg (fun h => e1 h.1), sh.2.1 i e1]
          exact d5 k hk
      by_cases e1 : i = e
      · subst e1
        rw [if_pos rfl, up3_s, upd_n _ _ (by decide), upd_n _ _ (by decide), upd_n _ _ (by decide), upd_n _ _ (by decide), upd_s, sh.1 3 (by decide)]
        exact ⟨d0, d1, d2, d3, rfl, w⟩
      · rw [if_neg e1, up3_i _ _ e1, sh.1 3 (by decide)]
        exact ⟨d0, d1, d2, d3, d4, w⟩
    · rw [setl_o (k := 12) (by decide) (by decide) (by decide)]
      exact c5
    · rw [up3_s, upd_s, setl_28]
  · rw [up3_t _ _ (by decide), up3_t _ _ (by decide), sh.1 11 (by decide)]
  · rw [up3_t _ _ (by decide), up3_t _ _ (by decide), sh.1 27 (by decide)]
  · rw [up3_t _ _ (by decide), up3_t _ _ (by decide), sh.1 28 (by decide)]
theorem setl_nE {e : Nat} {p : Nat → Nat} : nE (setl V e p) = nE V := by unfold nE; rw [setl_o (by decide) (by decide) (by decide)]
theorem setl_nR {e : Nat} {p : Nat → Nat} : nR (setl V e p) = nR V := by unfold nR; rw [setl_o (by decide) (by decide) (by decide)]
theorem setl_KO {e : Nat} {p : Nat → Nat} (K : KO V) : KO (setl V e p) := by unfold KO; rw [setl_o (by decide) (by decide) (by decide)]; exact K
/-- one look at each that waits -/
theorem l_planWait {A : Nat → Nat → Nat} {V0 : VV} {M0 : MM} {f : Int32 → St → Prop} (hf : ∀ S' M' V' r, Rep S' A V' M' → CV V' M' → KO V' → Fr M0 M' → it st1 (nE V0) V0 V' r → f (z r) S') : ∀ n k S M V r, k ≤ nE V0 → nE V0 < k + n → Rep S A V M → CV V M → KO V → nR V ≤ 4 → nE V = nE V0 → Fr M0 M → it st1 k V0 V r → wl_X9_planThoseThatWait_4 f n S (A 10 0) (z r) (z k) := by
  intro n
  induction n with
  | zero => intro k S M V r k1 k2; omega
  | succ n ih =>
    intro k S M V r k1 k2 R C K hR4 hE fr hr
    have hb := bE R
    unfold wl_X9_planThoseThatWait_4
    refine ⟨o10 R, _, p10_4 R, o2 R, _, p2_0 R, o0 R (by decide), s_size0 R (by decide) ?_⟩
    show (z (nE V) ≤ z k → _) ∧ (¬ z (nE V) ≤ z k → _)
    rw [hE]
    refine ⟨fun hc => ?_, fun hc => ?_⟩
    · have h3 := z_ex k1 (by omega) hc
      subst h3
      exact hf S M V r R C K fr hr
    · have h3 := z_go k1 (by omega) hc
      have h3' : k < nE V := by omega
      refine ⟨o10 R, _, p10_4 R, o2 R, _, p2_0 R, o0 R (by decide), s_get0 R (by decide) (show k < sz V 3 from h3') ?_⟩
      refine ⟨o3 R h3', ?_⟩
      show (¬ sI S (A 3 k) 6 = 119 → _) ∧ (sI S (A 3 k) 6 = 119 → _)
      rw [f3_6 R C h3']
      refine ⟨fun a => ?_, fun a => ⟨o10 R, s_finds R C h3' K hR4 (fun S' M' p R' sx hp hc => ?_) (fun S' M' R' sx hn => ?_)⟩⟩
      · rw [z_s]
        exact ih (k + 1) S M V r (by omega) (by omega) R C K hR4 hE fr ⟨V, r, 0, hr, Or.inr ⟨fun h => a h.1, rfl, rfl⟩, rfl⟩
      · refine ⟨fun hc => absurd hc (by decide), fun _ => ⟨o10 R', s_hangAsFound R' (sx.cv C) h3' hc (fun S2 M2 R2 C2 fr2 => ?_)⟩⟩
        rw [z_s, z_s]
        exact ih (k + 1) S2 M2 _ (r + 1) (by omega) (by omega) R2 C2 (setl_KO K) (by rw [setl_nR]; exact hR4) (by rw [setl_nE]; exact hE) (fr.trans (sx.fr.trans fr2)) ⟨V, r, 1, hr, Or.inl ⟨a, p, hp, rfl, rfl⟩, rfl⟩
      · refine ⟨fun _ => ?_, fun hc => absurd rfl hc⟩
        rw [z_s]
        exact ih (k + 1) S' M' V r (by omega) (by omega) R' (sx.cv C) K hR4 hE (fr.trans sx.fr) ⟨V, r, 0, hr, Or.inr ⟨fun h => nopl_pln hn h.2, rfl, rfl⟩, rfl⟩
theorem s_planWait {S : St} {M : MM} {f : Int32 → St → Prop} (R : Rep S A V M) (C : CV V M) (K : KO V) (hR4 : nR V ≤ 4) (hf : ∀ S' M' V' r, Rep S' A V' M' → CV V' M' → KO V' → Fr M M' → it st1 (nE V) V V' r → f (z r) S') : w_X9_planThoseThatWait S (A 10 0) f := by
  unfold w_X9_planThoseThatWait
  exact ⟨nE V + 1, l_planWait (V0 := V) (M0 := M) hf _ 0 S M V 0 (Nat.zero_le _) (by omega) R C K hR4 rfl (Fr.refl M) ⟨rfl, rfl⟩⟩
/-- taken down where the climate is wrong -/
theorem up2_CV16 {e : Nat} {v : Int32} {M : MM} (C : CV V M) (he : e < nE V) : CV (up2 V 16 e v) (up3 M 3 e 6 v) := by
  obtain ⟨c1, c2, c3, c4, c5, c6, c7⟩ := C
  have f1 : nR (up2 V 16 e v) = nR V := by unfold nR; rw [up2_n _ _ (by decide)]
  have f2 : nL (up2 V 16 e v) = nL V := by unfold nL; rw [up2_n _ _ (by decide)]
  have f3 : nW (up2 V 16 e v) = nW V := by unfold nW; rw [up2_n _ _ (by decide)]
  have f4 : nE (up2 V 16 e v) = nE V := by unfold nE; rw [up2_n _ _ (by decide)]
  unfold CV
  rw [f1, f2, f3, f4, up3_t M _ (show 7 ≠ 3 by decide), up3_t M _ (show 5 ≠ 3 by decide), up3_t M _ (show 9 ≠ 3 by decide), up3_t M _ (show 22 ≠ 3 by decide), up3_t M _ (show 24 ≠ 3 by decide), up3_t M _ (show 10 ≠ 3 by decide), up3_t M _ (show 26 ≠ 3 by decide)]
  have g : ∀ k, k ≠ 16 → up2 V 16 e v k = V k := fun k hk => up2_n V v hk
  rw [g 0 (by decide), g 1 (by decide), g 2 (by decide), g 3 (by decide), g 4 (by decide), g 5 (by decide), g 6 (by decide), g 7 (by decide), g 8 (by decide), g 9 (by decide), g 10 (by decide), g 12 (by decide), g 28 (by decide)]
  refine ⟨c1, c2, c3, fun i hi => ?_, c5, c6, c7⟩
  rw [g 13 (by decide), g 14 (by decide), g 15 (by decide), g 19 (by decide), up2_s]
  obtain ⟨d0, d1, d2, d3, d4, d5⟩ := c4 i hi
  by_cases e1 : i = e
  · subst e1
    rw [up3_s, upd_n _ _ (by decide), upd_n _ _ (by decide), upd_n _ _ (by decide), upd_n _ _ (by decide), upd_s, upd_s]
    exact ⟨d0, d1, d2, d3, rfl, d5⟩
  · rw [up3_i _ _ e1, upd_n _ _ e1]
    exact ⟨d0, d1, d2, d3, d4, d5⟩
theorem Rep16 {S : St} {M : MM} {e : Nat} {v : Int32} (R : Rep S A V M) (he : e < nE V) : Rep (setI S (A 3 e) 6 v) A (up2 V 16 e v) (up3 M 3 e 6 v) :=
  Rep_V (Rep_set R (show us V 3 e from he) (fun h => by omega)) (up2_n _ _ (by decide)) (up2_n _ _ (by decide)) (up2_n _ _ (by decide)) (up2_n _ _ (by decide)) (up2_n _ _ (by decide)) (up2_n _ _ (by decide)) (up2_n _ _ (by decide))
theorem l_takeDown {A : Nat → Nat → Nat} {V0 : VV} {M0 : MM} {f : Int32 → St → Prop} (hf : ∀ S' M' V' r, Rep S' A V' M' → CV V' M' → KO V' → nR V' = nR V0 → Fr M0 M' → it td1 (nE V0) V0 V' r → f (z r) S') : ∀ n k S M V r, k ≤ nE V0 → nE V0 < k + n → Rep S A V M → CV V M → KO V → nR V = nR V0 → nE V = nE V0 → Fr M0 M → it td1 k V0 V r → wl_X1_takeDownMisplaced_4 f n S (A 2 0) (A 4 0) (z r) (z k) := by
  intro n
  induction n with
  | zero => intro k S M V r k1 k2; omega
  | succ n ih =>
    intro k S M V r k1 k2 R C K hR hE fr hr
    have hb := bE R
    unfold wl_X1_takeDownMisplaced_4
    refine ⟨o2 R, _, p2_0 R, o0 R (by decide), s_size0 R (by decide) ?_⟩
    show (z (nE V) ≤ z k → _) ∧ (¬ z (nE V) ≤ z k → _)
    rw [hE]
    refine ⟨fun hc => ?_, fun hc => ?_⟩
    · have h3 := z_ex k1 (by omega) hc
      subst h3
      exact hf S M V r R C K hR fr hr
    · have h3 := z_go k1 (by omega) hc
      have h3' : k < nE V := by omega
      refine ⟨o2 R, _, p2_0 R, o0 R (by decide), s_get0 R (by decide) (show k < sz V 3 from h3') ?_⟩
      refine ⟨o3 R h3', ?_⟩
      show (¬ sI S (A 3 k) 6 = 112 → _) ∧ (sI S (A 3 k) 6 = 112 → _)
      rw [f3_6 R C h3']
      refine ⟨fun a => ?_, fun a => ⟨o2 R, s_swh R C h3' (fun b => ?_) (fun b => ?_)⟩⟩
      · rw [z_s]
        exact ih (k + 1) S M V r (by omega) (by omega) R C K hR hE fr ⟨V, r, 0, hr, Or.inr ⟨fun h => a h.1, rfl, rfl⟩, rfl⟩
      · refine ⟨fun _ => ?_, fun hc => absurd hc (by decide)⟩
        rw [z_s]
        exact ih (k + 1) S M V r (by omega) (by omega) R C K hR hE fr ⟨V, r, 0, hr, Or.inr ⟨fun h => h.2 b, rfl, rfl⟩, rfl⟩
      · refine ⟨fun hc => absurd rfl hc, fun _ => ⟨o3 R h3', ?_⟩⟩
        rw [z_s, z_s]
        refine ih (k + 1) _ _ (up2 V 16 k 119) (r + 1) (by omega) (by omega) (Rep16 R h3') (up2_CV16 C h3') ?_ ?_ ?_ (fr.trans (Fr.up (by decide) (by decide) (by decide))) ⟨V, r, 1, hr, Or.inl ⟨a, b, rfl, rfl⟩, rfl⟩
        · unfold KO
          rw [up2_n _ _ (by decide)]
          exact K
        · unfold nR at hR ⊢
          rw [up2_n _ _ (by decide)]
          exact hR
        · unfold nE at hE ⊢
          rw [up2_n _ _ (by decide)]
          exact hE
theorem s_takeDown {S : St} {M : MM} {f : Int32 → St → Prop} (R : Rep S A V M) (C : CV V M) (K : KO V) (hf : ∀ S' M' V' r, Rep S' A V' M' → CV V' M' → KO V' → nR V' = nR V → Fr M M' → it td1 (nE V) V V' r → f (z r) S') : w_X1_takeDownMisplaced S (A 2 0) (A 4 0) f := by
  unfold w_X1_takeDownMisplaced
  exact ⟨nE V + 1, l_takeDown (V0 := V) (M0 := M) hf _ 0 S M V 0 (Nat.zero_le _) (by omega) R C K rfl rfl (Fr.refl M) ⟨rfl, rfl⟩⟩
end CW2
