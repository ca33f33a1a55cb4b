section JW
variable {X : XE} {own nm : String} {cc : ByteArray} {nL : Nat} {ret : Option FieldType} {rm : Room} {tab : List (Nat × Nat × Nat × Nat)} {mc ms : Nat} {post : Option Value → St → Prop} {exc : String → St → Prop} {cells slots : Nat} {S : St} {pc : Nat} {vs : List (Nat × Value)} {st : List Value}
/-- the length of an array of references that may be the static empty one -/
def alen (S : St) (a n : Nat) : Prop := (a = sT S ∧ n = 0) ∨ (ok S a 102 ∧ sN S a = n)
theorem r_alenT (h : cy X own nm cc nL ret rm tab) {a n : Nat} (ha : alen S a n) (hd : decode cc pc = .ok (.arraylength, 1)) (kk : pw X cells slots S (pc + 1) vs (.int (Int32.ofNat n) :: st)) : pw X cells slots S pc vs (.ref a :: st) := by
  rcases ha with ⟨rfl, rfl⟩ | ⟨ha, rfl⟩
  · obtain ⟨p, l, e, R, s, m, args, below, meth, c, A, G, Q⟩ := X
    obtain ⟨hx, hb, hr, hml, hown, hts, hlk, hR, htab, hK, hA, hsx, htx, hstk, hnm⟩ := h
    intro H locs ls hl hP hD hS
    have ht := hsx.2.1
    rw [← hP.2.1] at ht
    exact va_tlen hx hb ht hS rfl hd (kk H locs ls hl hP hD hS)
  · exact r_alen h ha (Or.inr (Or.inr rfl)) hd kk
theorem r_getT (h : cy X own nm cc nL ret rm tab) {index : Nat} (hlink : Cond.fieldLink own index "java/util/ArrayList" "DEFAULTCAPACITY_EMPTY_ELEMENTDATA" "[Ljava/lang/Object;" ∈ TB) (hd : decode cc pc = .ok (.getstatic index, 3)) (kk : pw X cells slots S (pc + 3) vs (.ref (sT S) :: st)) : pw X cells slots S pc vs st := by
  obtain ⟨p, l, e, R, s, m, args, below, meth, c, A, G, Q⟩ := X
  obtain ⟨hx, hb, hr, hml, hown, hts, hlk, hR, htab, hK, hA, hsx, htx, hstk, hnm⟩ := h
  intro H locs ls hl hP hD hS
  have ht := hsx.1
  rw [← hP.2.1] at ht
  exact va_gets hx hb ht hS hown (hts _ hlink) (fun _ h9 => h9) hd (kk H locs ls hl hP hD hS)
theorem r_acmp_eq (h : cy X own nm cc nL ret rm tab) {x y : Nat} {off : Int} (tgt : Nat) (hd : decode cc pc = .ok (.if_acmp .eq off, 3)) (ht : (pc : Int) + off = (tgt : Int)) (kt : x = y → pw X cells slots S tgt vs st) (kf : ¬ x = y → pw X cells slots S (pc + 3) vs st) : pw X cells slots S pc vs (.ref y :: .ref x :: st) := by
  obtain ⟨p, l, e, R, s, m, args, below, meth, c, A, G, Q⟩ := X
  obtain ⟨hx, hb, hr, hml, hown, hts, hlk, hR, htab, hK, hA, hsx, htx, hstk, hnm⟩ := h
  intro H locs ls hl hP hD hS
  exact lv_acmp_eq (rx := some x) (ry := some y) hx hb hd ht (fun hc => kt (Option.some.inj hc) H locs ls hl hP hD hS) (fun hc => kf (fun h => hc (congrArg some h)) H locs ls hl hP hD hS)
theorem r_acmp_ne (h : cy X own nm cc nL ret rm tab) {x y : Nat} {off : Int} (tgt : Nat) (hd : decode cc pc = .ok (.if_acmp .ne off, 3)) (ht : (pc : Int) + off = (tgt : Int)) (kt : ¬ x = y → pw X cells slots S tgt vs st) (kf : x = y → pw X cells slots S (pc + 3) vs st) : pw X cells slots S pc vs (.ref y :: .ref x :: st) := by
  obtain ⟨p, l, e, R, s, m, args, below, meth, c, A, G, Q⟩ := X
  obtain ⟨hx, hb, hr, hml, hown, hts, hlk, hR, htab, hK, hA, hsx, htx, hstk, hnm⟩ := h
  intro H locs ls hl hP hD hS
  exact lv_acmp_ne (rx := some x) (ry := some y) hx hb hd ht (fun hc => kt (fun h => hc (congrArg some h)) H locs ls hl hP hD hS) (fun hc => kf (Option.some.inj hc) H locs ls hl hP hD hS)
theorem r_ldc (h : cy X own nm cc nL ret rm tab) {index : Nat} {v : Int32} (hconst : Cond.constant own index v ∈ TB) (hd : decode cc pc = .ok (.ldc index, 2)) (kk : pw X cells slots S (pc + 2) vs (.int v :: st)) : pw X cells slots S pc vs st := by
  obtain ⟨p, l, e, R, s, m, args, below, meth, c, A, G, Q⟩ := X
  obtain ⟨hx, hb, hr, hml, hown, hts, hlk, hR, htab, hK, hA, hsx, htx, hstk, hnm⟩ := h
  intro H locs ls hl hP hD hS
  exact lv_ldc hx hb hown (hts _ hconst) hd (kk H locs ls hl hP hD hS)
theorem r_ldcM (h : cy X own nm cc nL ret rm tab) {index : Nat} (hlink : Cond.classLink own index "[Ljava/lang/Object;" ∈ TB) (hd : decode cc pc = .ok (.ldc index, 2)) (kk : pw X cells slots S (pc + 2) vs (.ref (sM S) :: st)) : pw X cells slots S pc vs st := by
  obtain ⟨p, l, e, R, s, m, args, below, meth, c, A, G, Q⟩ := X
  obtain ⟨hx, hb, hr, hml, hown, hts, hlk, hR, htab, hK, hA, hsx, htx, hstk, hnm⟩ := h
  intro H locs ls hl hP hD hS
  have ht := htx.2.2.2.2
  rw [← hP.2.2] at ht
  exact va_ldcM hx hb hown (hts _ hlink) ht hd (kk H locs ls hl hP hD hS)
theorem pl_recvA {y : YE} {D : va_G} {s : State} {H : Heap} {a : Nat} (hK : va_K D kC (tys y) s) (hP : va_P D kC (pl y S) H) (ha : ok S a 102) : ∃ cell : Cell, H[a]? = some cell ∧ cell.vm.isStatics = false ∧ s.vm.findClass "[Ljava/lang/Object;" = some cell.cls := by
  obtain ⟨q0, hq⟩ := pl_get (y := y) ha.1 (pE_q y ha.2)
  exact ⟨_, hP q0 _ hq, rfl, va_nmO (hK.2 2 _ rfl).2 (by decide)⟩
theorem r_getClass (h : cy X own nm cc nL ret rm tab) {a index : Nat} (q1 : Cond.methodLink own index ⟨"java/lang/Object", "getClass", "()Ljava/lang/Class;"⟩ ∈ TB) (q2 : Cond.declares ⟨"java/lang/Object", "getClass", "()Ljava/lang/Class;"⟩ ∈ NW) (q3 : Cond.selects "[Ljava/lang/Object;" ⟨"java/lang/Object", "getClass", "()Ljava/lang/Class;"⟩ ⟨"java/lang/Object", "getClass", "()Ljava/lang/Class;"⟩ ∈ TB) (q4 : Cond.instanceMethod ⟨"java/lang/Object", "getClass", "()Ljava/lang/Class;"⟩ ∈ TB) (q5 : Cond.native ⟨"java/lang/Object", "getClass", "()Ljava/lang/Class;"⟩ ∈ TB) (ha : ok S a 102) (hf : 1 ≤ rm.frames) (hlo : (st.map fun v => v.category).sum + 14 ≤ rm.locals) (hd : decode cc pc = .ok (.invokevirtual index, 3)) (kk : pw X cells slots S (pc + 3) vs (.ref (sM S) :: st)) : pw X cells slots S pc vs (.ref a :: st) := by
  obtain ⟨p, l, e, R, s, m, args, below, meth, c, A, G, Q⟩ := X
  obtain ⟨hx, hb, hr, hml, hown, hts, hlk, hR, htab, hK, hA, hsx, htx, hstk, hnm⟩ := h
  intro H locs ls hl hP hD hS
  subst hR
  have ht := htx.2.2.2.2
  rw [← hP.2.2] at ht
  exact va_getC hx hb hl.1.symm hown (hts _ q1) (va_Nw.use rfl (htx.1 _ q2)) (hts _ q3) (hts _ q4) (hts _ q5) ht (pl_recvA hK hP.1 ha) hf hlo hd (kk H locs ls hl hP hD hS)
theorem r_newQ (h : cy X own nm cc nL ret rm tab) {index : Nat} {n : Int32} (hlink : Cond.classLink own index "java/lang/Object" ∈ TB) (hn : ¬ n < 0) (hN : n.toNatClampNeg ≤ 20) (hc : cells + 1 ≤ rm.cells) (hs : slots + 20 ≤ rm.slots) (hd : decode cc pc = .ok (.anewarray index, 3)) (kk : ∀ q : Nat, q ∉ sL S → pw X (cells + 1) (slots + 20) (newA S q 102 n.toNatClampNeg) (pc + 3) vs (.ref q :: st)) : pw X cells slots S pc vs (.int n :: st) := by
  obtain ⟨p, l, e, R, s, m, args, below, meth, c, A, G, Q⟩ := X
  obtain ⟨hx, hb, hr, hml, hown, hts, hlk, hR, htab, hK, hA, hsx, htx, hstk, hnm⟩ := h
  intro H locs ls hl hP hD hS
  subst hR
  refine va_newq (C := "java/lang/Object") (N' := n.toNatClampNeg) hx hb hown (hts _ hlink) htx.2.2.2.1 hK hP.1 hD hS hA hn rfl (by omega) hc (by omega) hd (fun q cA H1 hK1 hP1 hD1 hS1 => ?_)
  have hcA : cA = G.2.1.2.2.1 := nameI (va_nmO (hK1.2 5 _ rfl).2 rfl) (va_nmO (hK.2 2 _ ty_q).2 rfl)
  subst hcA
  have hq : q ∉ sL S := va_pl_fresh2 (X := []) hD1
  have he := pl_push (y := G.2.1) (S' := newA S q 102 n.toNatClampNeg) (e := .inl (G.2.1.2.2.1, n.toNatClampNeg, .inr (.inr (.inr (.inr (fun _ => none)))))) hq rfl (by rw [pE_q G.2.1 (show sK (newA S q 102 n.toNatClampNeg) q = 102 by simp [newA, sK, va_up])]; simp [newA, sP, sN, va_up]) (fun b hb => pE_eq (va_up_ne _ _ hb) (va_up_ne _ _ hb) (va_up_ne _ _ hb) (va_up_ne _ _ hb) (va_up_ne _ _ hb) (va_up_ne _ _ hb))
  exact W.widen (Nat.le_refl _) (by omega) (kk q hq H1 locs ls hl ⟨he ▸ hP1, hP.2⟩ (he ▸ hD1) hS1)
theorem castO : ∀ (ci : Nat) (r : vw_C), kC[ci]? = some r → Cond.castable r.1 "java/lang/Object" ∈ NW := by
  intro ci r hr
  have h : ∀ q ∈ kC, Cond.castable q.1 "java/lang/Object" ∈ NW := fun q hq => by
    simp only [kC, List.mem_cons, List.not_mem_nil, or_false] at hq
    rcases hq with rfl | rfl | rfl | rfl | rfl | rfl | rfl | rfl | rfl | rfl | rfl | rfl
    · exact nw 1506 (by decide +kernel) rfl
    · exact nw 1509 (by decide +kernel) rfl
    · exact nw 1508 (by decide +kernel) rfl
    · exact nw 1519 (by decide +kernel) rfl
    · exact nw 1505 (by decide +kernel) rfl
    · exact nw 1517 (by decide +kernel) rfl
    · exact nw 1510 (by decide +kernel) rfl
    · exact nw 1514 (by decide +kernel) rfl
    · exact nw 1507 (by decide +kernel) rfl
    · exact nw 1518 (by decide +kernel) rfl
    · exact nw 1504 (by decide +kernel) rfl
    · exact nw 1511 (by decide +kernel) rfl
  exact h r (List.mem_of_getElem? hr)
def isO (S : St) (b : Nat) : Prop := ∃ (ci : Nat) (r : vw_C), kC[ci]? = some r ∧ ok S b ci
theorem r_aastO (h : cy X own nm cc nL ret rm tab) {a b : Nat} {i : Int32} (ha : ok S a 102) (hi : vp_in i (sN S a)) (hb' : isO S b) (hd : decode cc pc = .ok (.aastore, 1)) (kk : pw X cells slots (setP S a i.toNatClampNeg (some b)) (pc + 1) vs st) : pw X cells slots S pc vs (.ref b :: .int i :: .ref a :: st) := by
  obtain ⟨ci, r, h1, h2⟩ := hb'
  exact r_aast h h1 (castO ci r h1) ha hi h2 hd kk
/-- System.arraycopy of references, from 0 to 0, into another array -/
theorem r_copy0 (h : cy X own nm cc nL ret rm tab) {a0 a index : Nat} {n : Int32} (q1 : Cond.methodLink own index arraycopyName ∈ TB) (q2 : Cond.native arraycopyName ∈ TB) (q3 : Cond.static arraycopyName ∈ TB) (q4 : Cond.initialized "java/lang/System" ∈ TB) (h0 : ok S a0 102) (h1 : ok S a 102) (hn : ¬ n < 0) (hn0 : n.toNatClampNeg ≤ sN S a0) (hn1 : n.toNatClampNeg ≤ sN S a) (hel : ∀ i, i < n.toNatClampNeg → ∀ y, sP S a0 i = some y → isO S y) (hf : 1 ≤ rm.frames) (hlo : (st.map fun v => v.category).sum + (nativeFrameWords "java/lang/System" "arraycopy" 5 + 11) ≤ rm.locals) (hd : decode cc pc = .ok (.invokestatic index, 3)) (kk : pw X cells slots (setPs S a (va_cpy (sP S a0) (sP S a) 0 0 n.toNatClampNeg)) (pc + 3) vs st) : pw X cells slots S pc vs (.int n :: .int 0 :: .ref a :: .int 0 :: .ref a0 :: st) := by
  obtain ⟨p, l, e, R, s, m, args, below, meth, c, A, G, Q⟩ := X
  obtain ⟨hx, hb, hr, hml, hown, hts, hlk, hR, htab, hK, hA, hsx, htx, hstk, hnm⟩ := h
  intro H locs ls hl hP hD hS
  subst hR
  obtain ⟨k0, hk0⟩ := pl_get (y := G.2.1) h0.1 (pE_q G.2.1 h0.2)
  obtain ⟨k1, hk1⟩ := pl_get (y := G.2.1) h1.1 (pE_q G.2.1 h1.2)
  refine va_copyM hx hb hl.1.symm hown (hts _ q1) (hts _ q2) (hts _ q3) (hts _ q4) hK hP.1 hD hS k0 k1 2 2 hk0 hk1 ty_q ty_q (by decide) (by decide) hn (by rw [sb_cl0]; omega) (by rw [sb_cl0]; omega) (fun i hi y hy => ?_) hf hlo hd (fun H1 locs1 hP1 hD1 hS1 => ?_)
  · rw [sb_cl0, Nat.zero_add] at hy
    obtain ⟨ci, r, g1, g2⟩ := hel i hi y hy
    obtain ⟨k2, hk2⟩ := pl_get (y := G.2.1) g2.1 (pE_o G.2.1 g2.2 (kC_lt g1))
    exact va_rAny hK hP.1 hk2 g1 (fun comp c0 e1 e2 => vb_asgC (htx.1 _ (castO ci r g1)) comp c0 e1 e2)
  · rw [sb_cl0] at hP1 hD1
    have he := pl_set (S' := setPs S a (va_cpy (sP S a0) (sP S a) 0 0 n.toNatClampNeg)) (e := .inl (G.2.1.2.2.1, sN S a, .inr (.inr (.inr (.inr (va_cpy (sP S a0) (sP S a) 0 0 n.toNatClampNeg)))))) hD h1.1 hk1 (pE_q G.2.1 h1.2) rfl (by rw [pE_q G.2.1 (S := setPs S a _) h1.2, show sP (setPs S a (va_cpy (sP S a0) (sP S a) 0 0 n.toNatClampNeg)) a = _ from va_up_self _ _ _]; rfl) (fun b hb => pE_eq rfl rfl rfl (va_up_ne _ _ hb) rfl rfl)
    exact kk H1 locs1 ls hl ⟨he ▸ hP1, hP.2⟩ (he ▸ hD1) hS1
/-- ArrayList.modCount, which AbstractList has -/
theorem r_getiM (h : cy X RJx4a65c nm cc nL ret rm tab) {a : Nat} (hin : ∀ w ∈ u_ws RJx4a65c TJx4a65c 3, w ∈ TB) (hlink : Cond.fieldLink RJx4a65c 63 "java/util/ArrayList" "modCount" "I" ∈ TB) (hsf : Cond.sameField "java/util/ArrayList" "java/util/AbstractList" "modCount" "I" ∈ TB) (ha : ok S a 0) (hd : decode cc pc = .ok (.getfield 63, 3)) (kk : pw X cells slots S (pc + 3) vs (.int (sI S a 0) :: st)) : pw X cells slots S pc vs (.ref a :: st) := by
  obtain ⟨p, l, e, R, s, m, args, below, meth, c, A, G, Q⟩ := X
  obtain ⟨hx, hb, hr, hml, hown, hts, hlk, hR, htab, hK, hA, hsx, htx, hstk, hnm⟩ := h
  intro H locs ls hl hP hD hS
  obtain ⟨q0, hq⟩ := pl_get (y := G.2.1) ha.1 (pE_o G.2.1 ha.2 (by decide))
  exact va_get (ci := 0) (C := RJx4a65c) (T := TJx4a65c) (N := 3) hx hb hts hin hown hK hP.1 q0 hq rfl 0 (by decide) (hts _ hlink) (u_same (hts _ hsf)) (flds_i (by decide) rfl) hd (kk H locs ls hl hP hD hS)
theorem r_putiM (h : cy X RJx4a65c nm cc nL ret rm tab) {a : Nat} {v : Int32} (hin : ∀ w ∈ u_ws RJx4a65c TJx4a65c 3, w ∈ TB) (hlink : Cond.fieldLink RJx4a65c 63 "java/util/ArrayList" "modCount" "I" ∈ TB) (hsf : Cond.sameField "java/util/ArrayList" "java/util/AbstractList" "modCount" "I" ∈ TB) (ha : ok S a 0) (hd : decode cc pc = .ok (.putfield 63, 3)) (kk : pw X cells slots (setI S a 0 v) (pc + 3) vs st) : pw X cells slots S pc vs (.int v :: .ref a :: st) := by
  obtain ⟨p, l, e, R, s, m, args, below, meth, c, A, G, Q⟩ := X
  obtain ⟨hx, hb, hr, hml, hown, hts, hlk, hR, htab, hK, hA, hsx, htx, hstk, hnm⟩ := h
  intro H locs ls hl hP hD hS
  obtain ⟨q0, hq⟩ := pl_get (y := G.2.1) ha.1 (pE_o G.2.1 ha.2 (by decide))
  refine va_put (ci := 0) (C := RJx4a65c) (T := TJx4a65c) (N := 3) hx hb hts hin tyJx4a65c tyJx4a65c_ok nmJx4a65c hown hK hP.1 hD hS q0 hq rfl 0 (by decide) (hts _ hlink) (u_same (hts _ hsf)) rfl (ty := .int) rfl rfl rfl (by rw [flds_len]; decide) hd (fun H1 locs1 hP1 hD1 hS1 => ?_)
  have he := pl_set (S' := setI S a 0 v) (e := .inr (0, (flds 0 (sI S a) (sP S a)).set 0 (.int v))) hD ha.1 hq (pE_o G.2.1 ha.2 (by decide)) rfl (by rw [pE_setI_o G.2.1 ha.2 (by decide), flds_setI (by decide) rfl]) (fun b hb => pE_setI_ne G.2.1 hb)
  exact kk H1 locs1 ls hl ⟨he ▸ hP1, hP.2⟩ (he ▸ hD1) hS1
/-- an exception that is caught here -/
theorem r_catch (h : cy X own nm cc nL ret rm tab) {E name : String} {pre suf : List ExceptionTableEntry} {x : ExceptionTableEntry} (hsplit : tableOf tab = pre ++ x :: suf) (hpass : ∀ z ∈ pre, z.catchType ≠ 0 ∧ ∃ nm' : String, Cond.classLink own z.catchType nm' ∈ TB ∧ (E, nm') ∈ txN) (hx0 : covers x pc = true) (h0 : x.catchType ≠ 0) (hlink : Cond.classLink own x.catchType name ∈ TB) (hcast : Cond.castable E name ∈ NW) (kk : ∀ q : Nat, pw X cells slots S x.handlerPc vs [.ref q]) : px X cells slots S pc vs st E := by
  obtain ⟨p, l, e, R, s, m, args, below, meth, c, A, G, Q⟩ := X
  obtain ⟨hx, hb, hr, hml, hown, hts, hlk, hR, htab, hK, hA, hsx, htx, hstk, hnm⟩ := h
  intro H locs ls q ce hl hP hD hS h4 h5 h6
  refine vx_catch hown pre x suf (htab.trans hsplit) (fun z hz => ?_) hx0 h0 (hts _ hlink) (va_Nw.use rfl (htx.1 _ hcast)) h4 h5 h6 (kk q H locs ls hl hP hD hS)
  obtain ⟨h7, nm', h8, h9⟩ := hpass z hz
  exact Or.inr ⟨h7, nm', hts _ h8, htx.2.2.1 _ h9⟩
end JW
/-- the low sixteen bits -/
abbrev cof (x : Int32) : Int32 := (x.toUInt32 % 65536).toInt32
