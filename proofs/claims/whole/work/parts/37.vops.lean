/-! ===== what the calls make of the museum ===== -/
theorem up2_ap (V : VV) (k i : Nat) (v : Int32) (k' i' : Nat) : up2 V k i v k' i' = if k' = k ∧ i' = i then v else V k' i' := by
  unfold up2
  by_cases h : k' = k
  · rw [if_pos h, upd_ap]
    by_cases h2 : i' = i
    · rw [if_pos h2, if_pos ⟨h, h2⟩]
    · rw [if_neg h2, if_neg (fun x => h2 x.2), h]
  · rw [if_neg h, if_neg (fun x => h x.1)]
def addR (V : VV) (h l f s : Int32) : VV := up2 (up2 (up2 (up2 (up2 V 0 (nR V) h) 1 (nR V) l) 2 (2 * nR V) f) 2 (2 * nR V + 1) s) 24 0 (z (nR V + 1))
def addL (V : VV) (a b c : Int32) : VV := up2 (up2 (up2 (up2 V 3 (nL V) a) 4 (nL V) b) 5 (nL V) c) 25 0 (z (nL V + 1))
def addW (V : VV) (w lo hi li va ow : Int32) : VV := up2 (up2 (up2 (up2 (up2 (up2 (up2 V 6 (nW V) w) 7 (nW V) lo) 8 (nW V) hi) 9 (nW V) li) 10 (nW V) va) 11 (nW V) ow) 26 0 (z (nW V + 1))
def addE (V : VV) (f l g : Int32) : VV := up2 (up2 (up2 (up2 (up2 V 13 (nE V) f) 14 (nE V) l) 15 (nE V) g) 16 (nE V) 100) 27 0 (z (nE V + 1))
def incV (V : VV) (e w : Nat) : VV := up2 (up2 V 18 (5 * e + cn V e) (z w)) 17 e (z (cn V e + 1))
def sepV (V : VV) (i j : Nat) (k : Int32) : VV := up2 (up2 V 12 (i * 12 + j) k) 12 (j * 12 + i) k
def climV (V : VV) (r : Nat) (h l : Int32) : VV := up2 (up2 V 0 r h) 1 r l
section VO
variable {V : VV} {M : MM}
theorem M3_o {i n t : Nat} {fq fd : Nat → Int32} {m : Int32} (h1 : t ≠ el i) (h2 : t ≠ 23) (h3 : t ≠ 0) : M3 M i n fq fd m t = M t := by
  funext j
  unfold M3
  rw [if_neg (fun h => h1 h.1), if_neg (fun h => h2 h.1), if_neg (fun h => h3 h.1)]
theorem M3_n {i n : Nat} {fq fd : Nat → Int32} {m : Int32} : M3 M i n fq fd m (el i) n = fq := by
  unfold M3
  rw [if_pos ⟨rfl, rfl⟩]
theorem M3_e {i n j : Nat} {fq fd : Nat → Int32} {m : Int32} (h : j ≠ n) : M3 M i n fq fd m (el i) j = M (el i) j := by
  obtain ⟨l1, l2, l3⟩ := el_ne (i := i)
  unfold M3
  rw [if_neg (fun x => h x.2), if_neg (fun x => l1 x.1), if_neg (fun x => l2 x.1)]
theorem addR_s {h l f s : Int32} (hb : nR V < 100) : nR (addR V h l f s) = nR V + 1 ∧ nL (addR V h l f s) = nL V ∧ nW (addR V h l f s) = nW V ∧ nE (addR V h l f s) = nE V := by
  refine ⟨?_, ?_, ?_, ?_⟩
  · unfold nR
    simp (decide := true) only [addR, up2_s, upd_s]
    exact z_c (show nR V + 1 < 2147483648 by omega)
  · unfold nL; simp (decide := true) only [addR, up2_n]
  · unfold nW; simp (decide := true) only [addR, up2_n]
  · unfold nE; simp (decide := true) only [addR, up2_n]
theorem addL_s {a b c : Int32} (hb : nL V < 100) : nR (addL V a b c) = nR V ∧ nL (addL V a b c) = nL V + 1 ∧ nW (addL V a b c) = nW V ∧ nE (addL V a b c) = nE V := by
  refine ⟨?_, ?_, ?_, ?_⟩
  · unfold nR; simp (decide := true) only [addL, up2_n]
  · unfold nL
    simp (decide := true) only [addL, up2_s, upd_s]
    exact z_c (show nL V + 1 < 2147483648 by omega)
  · unfold nW; simp (decide := true) only [addL, up2_n]
  · unfold nE; simp (decide := true) only [addL, up2_n]
theorem addW_s {w lo hi li va o : Int32} (hb : nW V < 100) : nR (addW V w lo hi li va o) = nR V ∧ nL (addW V w lo hi li va o) = nL V ∧ nW (addW V w lo hi li va o) = nW V + 1 ∧ nE (addW V w lo hi li va o) = nE V := by
  refine ⟨?_, ?_, ?_, ?_⟩
  · unfold nR; simp (decide := true) only [addW, up2_n]
  · unfold nL; simp (decide := true) only [addW, up2_n]
  · unfold nW
    simp (decide := true) only [addW, up2_s, upd_s]
    exact z_c (show nW V + 1 < 2147483648 by omega)
  · unfold nE; simp (decide := true) only [addW, up2_n]
theorem addE_s {f l g : Int32} (hb : nE V < 100) : nR (addE V f l g) = nR V ∧ nL (addE V f l g) = nL V ∧ nW (addE V f l g) = nW V ∧ nE (addE V f l g) = nE V + 1 := by
  refine ⟨?_, ?_, ?_, ?_⟩
  · unfold nR; simp (decide := true) only [addE, up2_n]
  · unfold nL; simp (decide := true) only [addE, up2_n]
  · unfold nW; simp (decide := true) only [addE, up2_n]
  · unfold nE
    simp (decide := true) only [addE, up2_s, upd_s]
    exact z_c (show nE V + 1 < 2147483648 by omega)
theorem addR_CV {h l f s m : Int32} {fd : Nat → Int32} {fq : Nat → Int32} (C : CV V M) (hb : nR V < 100) (q0 : fq 0 = h) (q1 : fq 1 = l) (q2 : fq 2 = f) (q3 : fq 3 = s) : CV (addR V h l f s) (M3 M 0 (nR V) fq fd m) := by
  obtain ⟨c1, c2, c3, c4, c5, c6, c7⟩ := C
  obtain ⟨s1, s2, s3, s4⟩ := addR_s (V := V) (h := h) (l := l) (f := f) (s := s) hb
  unfold CV
  rw [s1, s2, s3, s4, M3_o (t := 5) (by decide) (by decide) (by decide), M3_o (t := 9) (by decide) (by decide) (by decide), M3_o (t := 3) (by decide) (by decide) (by decide), M3_o (t := 22) (by decide) (by decide) (by decide), M3_o (t := 24) (by decide) (by decide) (by decide), M3_o (t := 10) (by decide) (by decide) (by decide), M3_o (t := 26) (by decide) (by decide) (by decide)]
  refine ⟨fun i hi => ?_, ?_, ?_, ?_, ?_, ?_, c7⟩
  · simp (decide := true) only [addR, up2_s, up2_n]
    by_cases e : i = nR V
    · rw [e, show M3 M 0 (nR V) fq fd m 7 (nR V) = fq from M3_n, upd_s, upd_s, upd_n _ _ (show 2 * nR V ≠ 2 * nR V + 1 by omega), upd_s, upd_s]
      exact ⟨q0, q1, q2, q3⟩
    · rw [show M3 M 0 (nR V) fq fd m 7 i = M 7 i from M3_e e, upd_n _ _ e, upd_n _ _ e, upd_n _ _ (show 2 * i ≠ 2 * nR V + 1 by omega), upd_n _ _ (show 2 * i ≠ 2 * nR V by omega), upd_n _ _ (show 2 * i + 1 ≠ 2 * nR V + 1 by omega), upd_n _ _ (show 2 * i + 1 ≠ 2 * nR V by omega)]
      exact c1 i (by omega)
  · simp (decide := true) only [addR, up2_n]; exact c2
  · simp (decide := true) only [addR, up2_n]; exact c3
  · simp (decide := true) only [addR, up2_n]; exact c4
  · simp (decide := true) only [addR, up2_n]; exact c5
  · simp (decide := true) only [addR, up2_n]; exact c6
theorem addL_CV {a b c m : Int32} {fd : Nat → Int32} {fq : Nat → Int32} (C : CV V M) (hb : nL V < 100) (q0 : fq 0 = z (nL V)) (q1 : fq 1 = a) (q2 : fq 2 = b) (q3 : fq 3 = c) : CV (addL V a b c) (M3 M 1 (nL V) fq fd m) := by
  obtain ⟨c1, c2, c3, c4, c5, c6, c7⟩ := C
  obtain ⟨s1, s2, s3, s4⟩ := addL_s (V := V) (a := a) (b := b) (c := c) hb
  unfold CV
  rw [s1, s2, s3, s4, M3_o (t := 7) (by decide) (by decide) (by decide), M3_o (t := 9) (by decide) (by decide) (by decide), M3_o (t := 3) (by decide) (by decide) (by decide), M3_o (t := 22) (by decide) (by decide) (by decide), M3_o (t := 24) (by decide) (by decide) (by decide), M3_o (t := 10) (by decide) (by decide) (by decide), M3_o (t := 26) (by decide) (by decide) (by decide)]
  refine ⟨?_, fun i hi => ?_, ?_, ?_, ?_, ?_, c7⟩
  · simp (decide := true) only [addL, up2_n]; exact c1
  · simp (decide := true) only [addL, up2_s, up2_n]
    by_cases e : i = nL V
    · rw [e, show M3 M 1 (nL V) fq fd m 5 (nL V) = fq from M3_n, upd_s, upd_s, upd_s]
      exact ⟨q0, q1, q2, q3⟩
    · rw [show M3 M 1 (nL V) fq fd m 5 i = M 5 i from M3_e e, upd_n _ _ e, upd_n _ _ e, upd_n _ _ e]
      exact c2 i (by omega)
  · simp (decide := true) only [addL, up2_n]; exact c3
  · simp (decide := true) only [addL, up2_n]; exact c4
  · simp (decide := true) only [addL, up2_n]; exact c5
  · simp (decide := true) only [addL, up2_n]; exact c6
theorem addW_CV {w lo hi li va o m : Int32} {fd : Nat → Int32} {fq : Nat → Int32} (C : CV V M) (hb : nW V < 100) (q0 : fq 0 = z (nW V)) (q1 : fq 1 = w) (q2 : fq 2 = lo) (q3 : fq 3 = hi) (q4 : fq 4 = li) (q5 : fq 5 = va) : CV (addW V w lo hi li va o) (M3 M 2 (nW V) fq fd m) := by
  obtain ⟨c1, c2, c3, c4, c5, c6, c7⟩ := C
  obtain ⟨s1, s2, s3, s4⟩ := addW_s (V := V) (w := w) (lo := lo) (hi := hi) (li := li) (va := va) (o := o) hb
  unfold CV
  rw [s1, s2, s3, s4, M3_o (t := 7) (by decide) (by decide) (by decide), M3_o (t := 5) (by decide) (by decide) (by decide), M3_o (t := 3) (by decide) (by decide) (by decide), M3_o (t := 22) (by decide) (by decide) (by decide), M3_o (t := 24) (by decide) (by decide) (by decide), M3_o (t := 10) (by decide) (by decide) (by decide), M3_o (t := 26) (by decide) (by decide) (by decide)]
  refine ⟨?_, ?_, fun i hi => ?_, ?_, ?_, ?_, c7⟩
  · simp (decide := true) only [addW, up2_n]; exact c1
  · simp (decide := true) only [addW, up2_n]; exact c2
  · simp (decide := true) only [addW, up2_s, up2_n]
    by_cases e : i = nW V
    · rw [e, show M3 M 2 (nW V) fq fd m 9 (nW V) = fq from M3_n, upd_s, upd_s, upd_s, upd_s, upd_s]
      exact ⟨q0, q1, q2, q3, q4, q5⟩
    · rw [show M3 M 2 (nW V) fq fd m 9 i = M 9 i from M3_e e, upd_n _ _ e, upd_n _ _ e, upd_n _ _ e, upd_n _ _ e, upd_n _ _ e]
      exact c3 i (by omega)
  · simp (decide := true) only [addW, up2_n]; exact c4
  · simp (decide := true) only [addW, up2_n]; exact c5
  · simp (decide := true) only [addW, up2_n]; exact c6
/-! the class's calls that add -/
variable {S : St} {A : Nat → Nat → Nat}
theorem unused (R : Rep S A V M) {q : Nat} (hq : q ∉ sL S) : ∀ t j, us V t j → A t j ≠ q := fun t j h e => hq (e ▸ (R.1 t j h).1)
/-- a new object of a list, made and appended -/
theorem s_app3 {S1 : St} {i q : Nat} {V' : VV} {f : Int32 → St → Prop} (hi : i < 3) (R : Rep S1 A V M) (hk : ok S1 q (el i)) (hun : ∀ t j, us V t j → A t j ≠ q)
    (hs : sz V i < 12) (hsz : ∀ j, sz V' j = if j = i then sz V i + 1 else sz V j) (h17 : V' 17 = V 17) (h18 : V' 18 = V 18) (how : ∀ w, w < nW V → ow V' w = ow V w) (hnew : ∀ l, i = 2 → ow V' (nW V) = some l → l < nL V)
    (hqp : ∀ d', sP S1 q = pt (sT S1) (A3 A i (sz V i) q d') V' (el i) (sz V i))
    (hf : ∀ S' d' m, Rep S' (A3 A i (sz V i) q d') V' (M3 M i (sz V i) (sI S1 q) (sI S' d') m) → ok S' q (el i) → sI S' q = sI S1 q → f 1 S') : w_Jx4a65c_add_9ea2d S1 (A 0 i) q f := by
  have hO : isO S1 q := by
    rcases i with _ | _ | _ | i
    · exact ⟨7, _, kci7, hk⟩
    · exact ⟨5, _, kci5, hk⟩
    · exact ⟨9, _, kci9, hk⟩
    · omega
  have hel : ∀ k, k < sz V i → isO S1 (A (el i) k) := fun k hk' => by
    rcases i with _ | _ | _ | i
    · exact ⟨7, _, kci7, o7 R hk'⟩
    · exact ⟨5, _, kci5, o5 R hk'⟩
    · exact ⟨9, _, kci9, o9 R hk'⟩
    · omega
  refine s_add (d := A 23 i) (n := sz V i) (D := pt (sT S1) A V 23 i) (o0 R (by omega)) (l0 R (by omega)) (by omega) ?_ (fun h => ⟨o23 R ⟨by omega, h⟩, n23 R (by omega) h, fun e => ?_, ?_, fun k y h1 h2 => ?_⟩) hO (fun S' d' m hap hd => ?_)
  · rw [R.2.2.1 0 i (show us V 0 i from (by omega : i < 4))]
    rfl
  · exact absurd (R.2.2.2.2.1 23 i 0 i ⟨by omega, h⟩ (show us V 0 i from (by omega : i < 4)) e).1 (by decide)
  · rw [R.2.2.1 23 i ⟨by omega, h⟩]
    funext k
    show (if k < sz V i then some (A (el i) k) else none) = if k < sz V i then (if k < sz V i then some (A (el i) k) else none) else none
    by_cases e : k < sz V i
    · rw [if_pos e, if_pos e]
    · rw [if_neg e, if_neg e]
  · have h3 : (if k < sz V i then some (A (el i) k) else none) = some y := h2
    rw [if_pos h1] at h3
    cases h3
    exact hel k h1
  · have hne : q ≠ d' := fun e => by
      rcases hd with ⟨h1, h2⟩ | h2
      · exact hun 23 i ⟨by omega, h1⟩ (by rw [e, h2])
      · exact h2 (e ▸ hk.1)
    refine hf S' d' m (Rep_add3 hi R hk hun hap ?_ hs hsz h17 h18 how hnew (hqp d')) (hap.1 _ _ hk) ?_
    · rcases hd with ⟨h1, h2⟩ | h2
      · exact Or.inl ⟨⟨by omega, h1⟩, h2⟩
      · exact Or.inr h2
    · rw [hap.2.2.2.2.1 q hk.1 hne, if_neg (fun e => hun 0 i (show us V 0 i from (by omega : i < 4)) e.symm)]
end VO
