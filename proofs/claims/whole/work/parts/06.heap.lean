section HW
variable {X : XE} {own nm : String} {cc : ByteArray} {nL : Nat} {ret : Option FieldType} {rm : Room} {tab : List (Nat × Nat × Nat × Nat)} {mc ms : Nat} {post : Option Value → St → Prop} {exc : String → St → Prop} {cells slots : Nat} {S : St} {pc : Nat} {vs : List (Nat × Value)} {st : List Value}
theorem kC_lt {ci : Nat} {r : vw_C} (h : kC[ci]? = some r) : ci < 100 := by
  have := (List.getElem?_eq_some_iff.mp h).1
  exact Nat.lt_of_lt_of_le this (by decide)
/-! getfield -/
theorem r_geti (h : cy X own nm cc nL ret rm tab) {a ci k index N : Nat} {C : String} {T : u_T} (hci : kC[ci]? = some (C, T, N)) (hin : ∀ w ∈ u_ws C T N, w ∈ TB) (hk : k < N) (hN : nF ci = N) (hr0 : rF ci k = false) (hlink : Cond.fieldLink own index (T k).1 (T k).2.1 (T k).2.2.1 ∈ TB) (ha : ok S a ci) (hd : decode cc pc = .ok (.getfield index, 3)) (kk : pw X cells slots S (pc + 3) vs (.int (sI S a k) :: st)) : pw X cells slots S pc vs (.ref a :: st) := by
  obtain ⟨p, l, e, R, s, m, args, below, meth, c, A, G, Q⟩ := X
  obtain ⟨hx, hb, hr, hml, hown, hts, hlk, hR, htab, hK, hA, hsx, htx, hstk, hnm⟩ := h
  intro H locs ls hl hP hD hS
  obtain ⟨q0, hq⟩ := pl_get (y := G.2.1) ha.1 (pE_o G.2.1 ha.2 (kC_lt hci))
  exact va_get hx hb hts hin hown hK hP.1 q0 hq hci k hk (hts _ hlink) (fun _ h9 => h9) (flds_i (by rw [hN]; exact hk) hr0) hd (kk H locs ls hl hP hD hS)
theorem r_getiN (h : cy X own nm cc nL ret rm tab) {a ci k index N : Nat} {C host : String} {T : u_T} (hci : kC[ci]? = some (C, T, N)) (hin : ∀ w ∈ u_ws C T N, w ∈ TB) (hk : k < N) (hN : nF ci = N) (hr0 : rF ci k = false) (hlink : Cond.fieldLinkNest own index (T k).1 (T k).2.1 (T k).2.2.1 host ∈ NW) (ha : ok S a ci) (hd : decode cc pc = .ok (.getfield index, 3)) (kk : pw X cells slots S (pc + 3) vs (.int (sI S a k) :: st)) : pw X cells slots S pc vs (.ref a :: st) := by
  obtain ⟨p, l, e, R, s, m, args, below, meth, c, A, G, Q⟩ := X
  obtain ⟨hx, hb, hr, hml, hown, hts, hlk, hR, htab, hK, hA, hsx, htx, hstk, hnm⟩ := h
  intro H locs ls hl hP hD hS
  obtain ⟨q0, hq⟩ := pl_get (y := G.2.1) ha.1 (pE_o G.2.1 ha.2 (kC_lt hci))
  exact va_getN hx hb hts hin hown hK hP.1 q0 hq hci k hk (va_Nw.use rfl (htx.1 _ hlink)) (fun _ h9 => h9) (flds_i (by rw [hN]; exact hk) hr0) hd (kk H locs ls hl hP hD hS)
theorem r_getr (h : cy X own nm cc nL ret rm tab) {a b ci k index N : Nat} {C : String} {T : u_T} (hci : kC[ci]? = some (C, T, N)) (hin : ∀ w ∈ u_ws C T N, w ∈ TB) (hk : k < N) (hN : nF ci = N) (hr0 : rF ci k = true) (hlink : Cond.fieldLink own index (T k).1 (T k).2.1 (T k).2.2.1 ∈ TB) (ha : ok S a ci) (hv : sP S a k = some b) (hd : decode cc pc = .ok (.getfield index, 3)) (kk : pw X cells slots S (pc + 3) vs (.ref b :: st)) : pw X cells slots S pc vs (.ref a :: st) := by
  obtain ⟨p, l, e, R, s, m, args, below, meth, c, A, G, Q⟩ := X
  obtain ⟨hx, hb, hr, hml, hown, hts, hlk, hR, htab, hK, hA, hsx, htx, hstk, hnm⟩ := h
  intro H locs ls hl hP hD hS
  obtain ⟨q0, hq⟩ := pl_get (y := G.2.1) ha.1 (pE_o G.2.1 ha.2 (kC_lt hci))
  exact va_get hx hb hts hin hown hK hP.1 q0 hq hci k hk (hts _ hlink) (fun _ h9 => h9) ((flds_p (by rw [hN]; exact hk) hr0).trans (by rw [hv]; rfl)) hd (kk H locs ls hl hP hD hS)
theorem r_getrN (h : cy X own nm cc nL ret rm tab) {a b ci k index N : Nat} {C host : String} {T : u_T} (hci : kC[ci]? = some (C, T, N)) (hin : ∀ w ∈ u_ws C T N, w ∈ TB) (hk : k < N) (hN : nF ci = N) (hr0 : rF ci k = true) (hlink : Cond.fieldLinkNest own index (T k).1 (T k).2.1 (T k).2.2.1 host ∈ NW) (ha : ok S a ci) (hv : sP S a k = some b) (hd : decode cc pc = .ok (.getfield index, 3)) (kk : pw X cells slots S (pc + 3) vs (.ref b :: st)) : pw X cells slots S pc vs (.ref a :: st) := by
  obtain ⟨p, l, e, R, s, m, args, below, meth, c, A, G, Q⟩ := X
  obtain ⟨hx, hb, hr, hml, hown, hts, hlk, hR, htab, hK, hA, hsx, htx, hstk, hnm⟩ := h
  intro H locs ls hl hP hD hS
  obtain ⟨q0, hq⟩ := pl_get (y := G.2.1) ha.1 (pE_o G.2.1 ha.2 (kC_lt hci))
  exact va_getN hx hb hts hin hown hK hP.1 q0 hq hci k hk (va_Nw.use rfl (htx.1 _ hlink)) (fun _ h9 => h9) ((flds_p (by rw [hN]; exact hk) hr0).trans (by rw [hv]; rfl)) hd (kk H locs ls hl hP hD hS)
/-- a reference that may be null: the answer null -/
theorem r_getr0 (h : cy X own nm cc nL ret rm tab) {a ci k index N : Nat} {C : String} {T : u_T} (hci : kC[ci]? = some (C, T, N)) (hin : ∀ w ∈ u_ws C T N, w ∈ TB) (hk : k < N) (hN : nF ci = N) (hr0 : rF ci k = true) (hlink : Cond.fieldLink own index (T k).1 (T k).2.1 (T k).2.2.1 ∈ TB) (ha : ok S a ci) (hv : sP S a k = none) (hd : decode cc pc = .ok (.getfield index, 3)) (kk : pw X cells slots S (pc + 3) vs (.null :: st)) : pw X cells slots S pc vs (.ref a :: st) := by
  obtain ⟨p, l, e, R, s, m, args, below, meth, c, A, G, Q⟩ := X
  obtain ⟨hx, hb, hr, hml, hown, hts, hlk, hR, htab, hK, hA, hsx, htx, hstk, hnm⟩ := h
  intro H locs ls hl hP hD hS
  obtain ⟨q0, hq⟩ := pl_get (y := G.2.1) ha.1 (pE_o G.2.1 ha.2 (kC_lt hci))
  exact va_get hx hb hts hin hown hK hP.1 q0 hq hci k hk (hts _ hlink) (fun _ h9 => h9) ((flds_p (by rw [hN]; exact hk) hr0).trans (by rw [hv]; rfl)) hd (kk H locs ls hl hP hD hS)
theorem r_getr0N (h : cy X own nm cc nL ret rm tab) {a ci k index N : Nat} {C host : String} {T : u_T} (hci : kC[ci]? = some (C, T, N)) (hin : ∀ w ∈ u_ws C T N, w ∈ TB) (hk : k < N) (hN : nF ci = N) (hr0 : rF ci k = true) (hlink : Cond.fieldLinkNest own index (T k).1 (T k).2.1 (T k).2.2.1 host ∈ NW) (ha : ok S a ci) (hv : sP S a k = none) (hd : decode cc pc = .ok (.getfield index, 3)) (kk : pw X cells slots S (pc + 3) vs (.null :: st)) : pw X cells slots S pc vs (.ref a :: st) := by
  obtain ⟨p, l, e, R, s, m, args, below, meth, c, A, G, Q⟩ := X
  obtain ⟨hx, hb, hr, hml, hown, hts, hlk, hR, htab, hK, hA, hsx, htx, hstk, hnm⟩ := h
  intro H locs ls hl hP hD hS
  obtain ⟨q0, hq⟩ := pl_get (y := G.2.1) ha.1 (pE_o G.2.1 ha.2 (kC_lt hci))
  exact va_getN hx hb hts hin hown hK hP.1 q0 hq hci k hk (va_Nw.use rfl (htx.1 _ hlink)) (fun _ h9 => h9) ((flds_p (by rw [hN]; exact hk) hr0).trans (by rw [hv]; rfl)) hd (kk H locs ls hl hP hD hS)
/-! putfield -/
theorem pE_setI_o (y : YE) {a ci k : Nat} {v : Int32} (ha : sK S a = ci) (h100 : ci < 100) : pE y (setI S a k v) a = .inr (ci, flds ci (upd (sI S a) k v) (sP S a)) := by
  rw [pE_o y (S := setI S a k v) (a := a) (c := ci) ha h100, show sI (setI S a k v) a = upd (sI S a) k v from va_up_self _ _ _]
  rfl
theorem pE_setI_ne (y : YE) {a k b : Nat} {v : Int32} (hb : b ≠ a) : pE y (setI S a k v) b = pE y S b := pE_eq rfl rfl (va_up_ne _ _ hb) rfl rfl rfl
theorem pE_setP_o (y : YE) {a ci k : Nat} {v : Option Nat} (ha : sK S a = ci) (h100 : ci < 100) : pE y (setP S a k v) a = .inr (ci, flds ci (sI S a) (va_up (sP S a) k v)) := by
  rw [pE_o y (S := setP S a k v) (a := a) (c := ci) ha h100, show sP (setP S a k v) a = va_up (sP S a) k v from va_up_self _ _ _]
  rfl
theorem pE_setP_ne (y : YE) {a k b : Nat} {v : Option Nat} (hb : b ≠ a) : pE y (setP S a k v) b = pE y S b := pE_eq rfl rfl rfl (va_up_ne _ _ hb) rfl rfl
theorem r_puti (h : cy X own nm cc nL ret rm tab) {a ci k index N : Nat} {C : String} {T : u_T} {ty0 : Nat → FieldType} {ty : FieldType} {v : Int32} (hci : kC[ci]? = some (C, T, N)) (hin : ∀ w ∈ u_ws C T N, w ∈ TB) (hty : ∀ k, k < N → parseFieldDescriptor (T k).2.2.1 = some (ty0 k)) (hnmT : ∀ a, a < N → ∀ b, b < N → a ≠ b → (T a).2.1 ≠ (T b).2.1) (hk : k < N) (hN : nF ci = N) (hr0 : rF ci k = false) (hfin : (T k).2.2.2 = false) (hdT : parseFieldDescriptor (T k).2.2.1 = some ty) (hnw : narrow ty (.int v) = .int v) (hft : fits ty (.int v) = true) (hlink : Cond.fieldLink own index (T k).1 (T k).2.1 (T k).2.2.1 ∈ TB) (ha : ok S a ci) (hd : decode cc pc = .ok (.putfield index, 3)) (kk : pw X cells slots (setI S a k v) (pc + 3) vs st) : pw X cells slots S pc vs (.int v :: .ref a :: st) := by
  obtain ⟨p, l, e, R, s, m, args, below, meth, c, A, G, Q⟩ := X
  obtain ⟨hx, hb, hr, hml, hown, hts, hlk, hR, htab, hK, hA, hsx, htx, hstk, hnm⟩ := h
  intro H locs ls hl hP hD hS
  have h100 := kC_lt hci
  obtain ⟨q0, hq⟩ := pl_get (y := G.2.1) ha.1 (pE_o G.2.1 ha.2 h100)
  have hkF : k < nF ci := by rw [hN]; exact hk
  refine va_put hx hb hts hin ty0 hty hnmT hown hK hP.1 hD hS q0 hq hci k hk (hts _ hlink) (fun _ h9 => h9) hfin hdT hnw hft (by rw [flds_len]; exact hkF) hd (fun H1 locs1 hP1 hD1 hS1 => ?_)
  have he := pl_set (S' := setI S a k v) (e := .inr (ci, (flds ci (sI S a) (sP S a)).set k (.int v))) hD ha.1 hq (pE_o G.2.1 ha.2 h100) rfl (by rw [pE_setI_o G.2.1 ha.2 h100, flds_setI hkF hr0]) (fun b hb => pE_setI_ne G.2.1 hb)
  exact kk H1 locs1 ls hl ⟨he ▸ hP1, hP.2⟩ (he ▸ hD1) hS1
theorem r_putiN (h : cy X own nm cc nL ret rm tab) {a ci k index N : Nat} {C host : String} {T : u_T} {ty0 : Nat → FieldType} {ty : FieldType} {v : Int32} (hci : kC[ci]? = some (C, T, N)) (hin : ∀ w ∈ u_ws C T N, w ∈ TB) (hty : ∀ k, k < N → parseFieldDescriptor (T k).2.2.1 = some (ty0 k)) (hnmT : ∀ a, a < N → ∀ b, b < N → a ≠ b → (T a).2.1 ≠ (T b).2.1) (hk : k < N) (hN : nF ci = N) (hr0 : rF ci k = false) (hfin : (T k).2.2.2 = false) (hdT : parseFieldDescriptor (T k).2.2.1 = some ty) (hnw : narrow ty (.int v) = .int v) (hft : fits ty (.int v) = true) (hlink : Cond.fieldLinkNest own index (T k).1 (T k).2.1 (T k).2.2.1 host ∈ NW) (ha : ok S a ci) (hd : decode cc pc = .ok (.putfield index, 3)) (kk : pw X cells slots (setI S a k v) (pc + 3) vs st) : pw X cells slots S pc vs (.int v :: .ref a :: st) := by
  obtain ⟨p, l, e, R, s, m, args, below, meth, c, A, G, Q⟩ := X
  obtain ⟨hx, hb, hr, hml, hown, hts, hlk, hR, htab, hK, hA, hsx, htx, hstk, hnm⟩ := h
  intro H locs ls hl hP hD hS
  have h100 := kC_lt hci
  obtain ⟨q0, hq⟩ := pl_get (y := G.2.1) ha.1 (pE_o G.2.1 ha.2 h100)
  have hkF : k < nF ci := by rw [hN]; exact hk
  refine va_putN hx hb hts hin ty0 hty hnmT hown hK hP.1 hD hS q0 hq hci k hk (va_Nw.use rfl (htx.1 _ hlink)) (fun _ h9 => h9) hfin hdT hnw hft (by rw [flds_len]; exact hkF) hd (fun H1 locs1 hP1 hD1 hS1 => ?_)
  have he := pl_set (S' := setI S a k v) (e := .inr (ci, (flds ci (sI S a) (sP S a)).set k (.int v))) hD ha.1 hq (pE_o G.2.1 ha.2 h100) rfl (by rw [pE_setI_o G.2.1 ha.2 h100, flds_setI hkF hr0]) (fun b hb => pE_setI_ne G.2.1 hb)
  exact kk H1 locs1 ls hl ⟨he ▸ hP1, hP.2⟩ (he ▸ hD1) hS1
/-- a final field, in its constructor -/
theorem r_putiF (h : cy X own nm cc nL ret rm tab) {a ci k index N : Nat} {C : String} {T : u_T} {ty0 : Nat → FieldType} {ty : FieldType} {v : Int32} (hci : kC[ci]? = some (C, T, N)) (hin : ∀ w ∈ u_ws C T N, w ∈ TB) (hty : ∀ k, k < N → parseFieldDescriptor (T k).2.2.1 = some (ty0 k)) (hnmT : ∀ a, a < N → ∀ b, b < N → a ≠ b → (T a).2.1 ≠ (T b).2.1) (hk : k < N) (hN : nF ci = N) (hr0 : rF ci k = false) (hfin : (T k).2.2.2 = true) (hini : nm = "<init>") (hdecl : (T k).1 = own) (hdT : parseFieldDescriptor (T k).2.2.1 = some ty) (hnw : narrow ty (.int v) = .int v) (hft : fits ty (.int v) = true) (hlink : Cond.fieldLink own index (T k).1 (T k).2.1 (T k).2.2.1 ∈ TB) (ha : ok S a ci) (hd : decode cc pc = .ok (.putfield index, 3)) (kk : pw X cells slots (setI S a k v) (pc + 3) vs st) : pw X cells slots S pc vs (.int v :: .ref a :: st) := by
  obtain ⟨p, l, e, R, s, m, args, below, meth, c, A, G, Q⟩ := X
  obtain ⟨hx, hb, hr, hml, hown, hts, hlk, hR, htab, hK, hA, hsx, htx, hstk, hnm⟩ := h
  intro H locs ls hl hP hD hS
  have h100 := kC_lt hci
  obtain ⟨q0, hq⟩ := pl_get (y := G.2.1) ha.1 (pE_o G.2.1 ha.2 h100)
  have hkF : k < nF ci := by rw [hN]; exact hk
  refine va_putF hx hb hts hin ty0 hty hnmT hown hK hP.1 hD hS q0 hq hci k hk (hts _ hlink) (fun _ h9 => h9) hfin (hnm.trans hini) hdecl hdT hnw hft (by rw [flds_len]; exact hkF) hd (fun H1 locs1 hP1 hD1 hS1 => ?_)
  have he := pl_set (S' := setI S a k v) (e := .inr (ci, (flds ci (sI S a) (sP S a)).set k (.int v))) hD ha.1 hq (pE_o G.2.1 ha.2 h100) rfl (by rw [pE_setI_o G.2.1 ha.2 h100, flds_setI hkF hr0]) (fun b hb => pE_setI_ne G.2.1 hb)
  exact kk H1 locs1 ls hl ⟨he ▸ hP1, hP.2⟩ (he ▸ hD1) hS1
theorem r_putrF (h : cy X own nm cc nL ret rm tab) {a ci k index N : Nat} {C : String} {T : u_T} {ty0 : Nat → FieldType} {ty : FieldType} {v : Option Nat} {w : Value} (hw : w = va_rf v) (hci : kC[ci]? = some (C, T, N)) (hin : ∀ w ∈ u_ws C T N, w ∈ TB) (hty : ∀ k, k < N → parseFieldDescriptor (T k).2.2.1 = some (ty0 k)) (hnmT : ∀ a, a < N → ∀ b, b < N → a ≠ b → (T a).2.1 ≠ (T b).2.1) (hk : k < N) (hN : nF ci = N) (hr0 : rF ci k = true) (hfin : (T k).2.2.2 = true) (hini : nm = "<init>") (hdecl : (T k).1 = own) (hdT : parseFieldDescriptor (T k).2.2.1 = some ty) (hnw : narrow ty w = w) (hft : fits ty w = true) (hlink : Cond.fieldLink own index (T k).1 (T k).2.1 (T k).2.2.1 ∈ TB) (ha : ok S a ci) (hd : decode cc pc = .ok (.putfield index, 3)) (kk : pw X cells slots (setP S a k v) (pc + 3) vs st) : pw X cells slots S pc vs (w :: .ref a :: st) := by
  subst hw
  obtain ⟨p, l, e, R, s, m, args, below, meth, c, A, G, Q⟩ := X
  obtain ⟨hx, hb, hr, hml, hown, hts, hlk, hR, htab, hK, hA, hsx, htx, hstk, hnm⟩ := h
  intro H locs ls hl hP hD hS
  have h100 := kC_lt hci
  obtain ⟨q0, hq⟩ := pl_get (y := G.2.1) ha.1 (pE_o G.2.1 ha.2 h100)
  have hkF : k < nF ci := by rw [hN]; exact hk
  refine va_putF hx hb hts hin ty0 hty hnmT hown hK hP.1 hD hS q0 hq hci k hk (hts _ hlink) (fun _ h9 => h9) hfin (hnm.trans hini) hdecl hdT hnw hft (by rw [flds_len]; exact hkF) hd (fun H1 locs1 hP1 hD1 hS1 => ?_)
  have he := pl_set (S' := setP S a k v) (e := .inr (ci, (flds ci (sI S a) (sP S a)).set k (va_rf v))) hD ha.1 hq (pE_o G.2.1 ha.2 h100) rfl (by rw [pE_setP_o G.2.1 ha.2 h100, flds_setP hkF hr0]) (fun b hb => pE_setP_ne G.2.1 hb)
  exact kk H1 locs1 ls hl ⟨he ▸ hP1, hP.2⟩ (he ▸ hD1) hS1
theorem r_putr (h : cy X own nm cc nL ret rm tab) {a ci k index N : Nat} {C : String} {T : u_T} {ty0 : Nat → FieldType} {ty : FieldType} {v : Option Nat} {w : Value} (hw : w = va_rf v) (hci : kC[ci]? = some (C, T, N)) (hin : ∀ w ∈ u_ws C T N, w ∈ TB) (hty : ∀ k, k < N → parseFieldDescriptor (T k).2.2.1 = some (ty0 k)) (hnmT : ∀ a, a < N → ∀ b, b < N → a ≠ b → (T a).2.1 ≠ (T b).2.1) (hk : k < N) (hN : nF ci = N) (hr0 : rF ci k = true) (hfin : (T k).2.2.2 = false) (hdT : parseFieldDescriptor (T k).2.2.1 = some ty) (hnw : narrow ty w = w) (hft : fits ty w = true) (hlink : Cond.fieldLink own index (T k).1 (T k).2.1 (T k).2.2.1 ∈ TB) (ha : ok S a ci) (hd : decode cc pc = .ok (.putfield index, 3)) (kk : pw X cells slots (setP S a k v) (pc + 3) vs st) : pw X cells slots S pc vs (w :: .ref a :: st) := by
  subst hw
  obtain ⟨p, l, e, R, s, m, args, below, meth, c, A, G, Q⟩ := X
  obtain ⟨hx, hb, hr, hml, hown, hts, hlk, hR, htab, hK, hA, hsx, htx, hstk, hnm⟩ := h
  intro H locs ls hl hP hD hS
  have h100 := kC_lt hci
  obtain ⟨q0, hq⟩ := pl_get (y := G.2.1) ha.1 (pE_o G.2.1 ha.2 h100)
  have hkF : k < nF ci := by rw [hN]; exact hk
  refine va_put hx hb hts hin ty0 hty hnmT hown hK hP.1 hD hS q0 hq hci k hk (hts _ hlink) (fun _ h9 => h9) hfin hdT hnw hft (by rw [flds_len]; exact hkF) hd (fun H1 locs1 hP1 hD1 hS1 => ?_)
  have he := pl_set (S' := setP S a k v) (e := .inr (ci, (flds ci (sI S a) (sP S a)).set k (va_rf v))) hD ha.1 hq (pE_o G.2.1 ha.2 h100) rfl (by rw [pE_setP_o G.2.1 ha.2 h100, flds_setP hkF hr0]) (fun b hb => pE_setP_ne G.2.1 hb)
  exact kk H1 locs1 ls hl ⟨he ▸ hP1, hP.2⟩ (he ▸ hD1) hS1
/-! arrays -/
theorem ty_c {G : GE} : (tys G.2.1)[0]? = some (G.2.1.1, .char) := rfl
theorem ty_i {G : GE} : (tys G.2.1)[1]? = some (G.2.1.2.1, .int) := rfl
theorem ty_q {G : GE} : (tys G.2.1)[2]? = some (G.2.1.2.2.1, .object "java/lang/Object") := rfl
theorem ty_j {G : GE} : (tys G.2.1)[3]? = some (G.2.1.2.2.2.1, .long) := rfl
theorem ty_d {G : GE} : (tys G.2.1)[4]? = some (G.2.1.2.2.2.2, .double) := rfl
theorem r_iald (h : cy X own nm cc nL ret rm tab) {a : Nat} {i : Int32} (ha : ok S a 101) (hi : vp_in i (sN S a)) (hd : decode cc pc = .ok (.iaload, 1)) (kk : pw X cells slots S (pc + 1) vs (.int (sI S a i.toNatClampNeg) :: st)) : pw X cells slots S pc vs (.int i :: .ref a :: st) := by
  obtain ⟨p, l, e, R, s, m, args, below, meth, c, A, G, Q⟩ := X
  obtain ⟨hx, hb, hr, hml, hown, hts, hlk, hR, htab, hK, hA, hsx, htx, hstk, hnm⟩ := h
  intro H locs ls hl hP hD hS
  obtain ⟨q0, hq⟩ := pl_get (y := G.2.1) ha.1 (pE_i G.2.1 ha.2)
  exact va_iald hx hb hK hP.1 q0 1 hq ty_i hi hd (kk H locs ls hl hP hD hS)
theorem r_cald (h : cy X own nm cc nL ret rm tab) {a : Nat} {i : Int32} (ha : ok S a 100) (hi : vp_in i (sN S a)) (hd : decode cc pc = .ok (.caload, 1)) (kk : pw X cells slots S (pc + 1) vs (.int (sI S a i.toNatClampNeg) :: st)) : pw X cells slots S pc vs (.int i :: .ref a :: st) := by
  obtain ⟨p, l, e, R, s, m, args, below, meth, c, A, G, Q⟩ := X
  obtain ⟨hx, hb, hr, hml, hown, hts, hlk, hR, htab, hK, hA, hsx, htx, hstk, hnm⟩ := h
  intro H locs ls hl hP hD hS
  obtain ⟨q0, hq⟩ := pl_get (y := G.2.1) ha.1 (pE_c G.2.1 ha.2)
  exact va_cald hx hb hK hP.1 q0 0 hq ty_c hi hd (kk H locs ls hl hP hD hS)
theorem r_lald (h : cy X own nm cc nL ret rm tab) {a : Nat} {i : Int32} (ha : ok S a 103) (hi : vp_in i (sN S a)) (hd : decode cc pc = .ok (.laload, 1)) (kk : pw X cells slots S (pc + 1) vs (.long (sJ S a i.toNatClampNeg) :: st)) : pw X cells slots S pc vs (.int i :: .ref a :: st) := by
  obtain ⟨p, l, e, R, s, m, args, below, meth, c, A, G, Q⟩ := X
  obtain ⟨hx, hb, hr, hml, hown, hts, hlk, hR, htab, hK, hA, hsx, htx, hstk, hnm⟩ := h
  intro H locs ls hl hP hD hS
  obtain ⟨q0, hq⟩ := pl_get (y := G.2.1) ha.1 (pE_j G.2.1 ha.2)
  exact va_lald hx hb hK hP.1 q0 3 hq ty_j hi hd (kk H locs ls hl hP hD hS)
theorem r_dald (h : cy X own nm cc nL ret rm tab) {a : Nat} {i : Int32} (ha : ok S a 104) (hi : vp_in i (sN S a)) (hd : decode cc pc = .ok (.daload, 1)) (kk : pw X cells slots S (pc + 1) vs (.double (sE S a i.toNatClampNeg) :: st)) : pw X cells slots S pc vs (.int i :: .ref a :: st) := by
  obtain ⟨p, l, e, R, s, m, args, below, meth, c, A, G, Q⟩ := X
  obtain ⟨hx, hb, hr, hml, hown, hts, hlk, hR, htab, hK, hA, hsx, htx, hstk, hnm⟩ := h
  intro H locs ls hl hP hD hS
  obtain ⟨q0, hq⟩ := pl_get (y := G.2.1) ha.1 (pE_d G.2.1 ha.2)
  exact va_dald hx hb hK hP.1 q0 4 hq ty_d hi hd (kk H locs ls hl hP hD hS)
theorem r_aald (h : cy X own nm cc nL ret rm tab) {a b : Nat} {i : Int32} (ha : ok S a 102) (hi : vp_in i (sN S a)) (hv : sP S a i.toNatClampNeg = some b) (hd : decode cc pc = .ok (.aaload, 1)) (kk : pw X cells slots S (pc + 1) vs (.ref b :: st)) : pw X cells slots S pc vs (.int i :: .ref a :: st) := by
  obtain ⟨p, l, e, R, s, m, args, below, meth, c, A, G, Q⟩ := X
  obtain ⟨hx, hb, hr, hml, hown, hts, hlk, hR, htab, hK, hA, hsx, htx, hstk, hnm⟩ := h
  intro H locs ls hl hP hD hS
  obtain ⟨q0, hq⟩ := pl_get (y := G.2.1) ha.1 (pE_q G.2.1 ha.2)
  exact va_aldq hx hb hK hP.1 q0 2 hq ty_q hi hd (by rw [hv]; exact kk H locs ls hl hP hD hS)
theorem r_alen (h : cy X own nm cc nL ret rm tab) {a ci : Nat} (ha : ok S a ci) (hc : ci = 100 ∨ ci = 101 ∨ ci = 102) (hd : decode cc pc = .ok (.arraylength, 1)) (kk : pw X cells slots S (pc + 1) vs (.int (Int32.ofNat (sN S a)) :: st)) : pw X cells slots S pc vs (.ref a :: st) := by
  obtain ⟨p, l, e, R, s, m, args, below, meth, c, A, G, Q⟩ := X
  obtain ⟨hx, hb, hr, hml, hown, hts, hlk, hR, htab, hK, hA, hsx, htx, hstk, hnm⟩ := h
  intro H locs ls hl hP hD hS
  rcases hc with rfl | rfl | rfl
  · obtain ⟨q0, hq⟩ := pl_get (y := G.2.1) ha.1 (pE_c G.2.1 ha.2)
    exact va_alen hx hb hK hP.1 q0 0 hq ty_c rfl hd (kk H locs ls hl hP hD hS)
  · obtain ⟨q0, hq⟩ := pl_get (y := G.2.1) ha.1 (pE_i G.2.1 ha.2)
    exact va_alen hx hb hK hP.1 q0 1 hq ty_i rfl hd (kk H locs ls hl hP hD hS)
  · obtain ⟨q0, hq⟩ := pl_get (y := G.2.1) ha.1 (pE_q G.2.1 ha.2)
    exact va_alen hx hb hK hP.1 q0 2 hq ty_q rfl hd (kk H locs ls hl hP hD hS)
theorem r_iast (h : cy X own nm cc nL ret rm tab) {a : Nat} {i x : Int32} (ha : ok S a 101) (hi : vp_in i (sN S a)) (hd : decode cc pc = .ok (.iastore, 1)) (kk : pw X cells slots (setI S a i.toNatClampNeg x) (pc + 1) vs st) : pw X cells slots S pc vs (.int x :: .int i :: .ref a :: st) := by
  obtain ⟨p, l, e, R, s, m, args, below, meth, c, A, G, Q⟩ := X
  obtain ⟨hx, hb, hr, hml, hown, hts, hlk, hR, htab, hK, hA, hsx, htx, hstk, hnm⟩ := h
  intro H locs ls hl hP hD hS
  obtain ⟨q0, hq⟩ := pl_get (y := G.2.1) ha.1 (pE_i G.2.1 ha.2)
  refine va_iast hx hb hK hP.1 hD hS q0 1 hq ty_i hi hd (fun H1 locs1 hP1 hD1 hS1 => ?_)
  have he := pl_set (S' := setI S a i.toNatClampNeg x) (e := .inl (G.2.1.2.1, sN S a, .inl (upd (sI S a) i.toNatClampNeg x))) hD ha.1 hq (pE_i G.2.1 ha.2) rfl (by rw [pE_i G.2.1 (S := setI S a i.toNatClampNeg x) ha.2, show sI (setI S a i.toNatClampNeg x) a = _ from va_up_self _ _ _]; rfl) (fun b hb => pE_setI_ne G.2.1 hb)
  exact kk H1 locs1 ls hl ⟨he ▸ hP1, hP.2⟩ (he ▸ hD1) hS1
theorem r_cast (h : cy X own nm cc nL ret rm tab) {a : Nat} {i x : Int32} (ha : ok S a 100) (hi : vp_in i (sN S a)) (hd : decode cc pc = .ok (.castore, 1)) (kk : pw X cells slots (setI S a i.toNatClampNeg (vp_nar .char x)) (pc + 1) vs st) : pw X cells slots S pc vs (.int x :: .int i :: .ref a :: st) := by
  obtain ⟨p, l, e, R, s, m, args, below, meth, c, A, G, Q⟩ := X
  obtain ⟨hx, hb, hr, hml, hown, hts, hlk, hR, htab, hK, hA, hsx, htx, hstk, hnm⟩ := h
  intro H locs ls hl hP hD hS
  obtain ⟨q0, hq⟩ := pl_get (y := G.2.1) ha.1 (pE_c G.2.1 ha.2)
  refine va_cast hx hb hK hP.1 hD hS q0 0 hq ty_c hi hd (fun H1 locs1 hP1 hD1 hS1 => ?_)
  have he := pl_set (S' := setI S a i.toNatClampNeg (vp_nar .char x)) (e := .inl (G.2.1.1, sN S a, .inl (upd (sI S a) i.toNatClampNeg (vp_nar .char x)))) hD ha.1 hq (pE_c G.2.1 ha.2) rfl (by rw [pE_c G.2.1 (S := setI S a i.toNatClampNeg (vp_nar .char x)) ha.2, show sI (setI S a i.toNatClampNeg (vp_nar .char x)) a = _ from va_up_self _ _ _]; rfl) (fun b hb => pE_setI_ne G.2.1 hb)
  exact kk H1 locs1 ls hl ⟨he ▸ hP1, hP.2⟩ (he ▸ hD1) hS1
theorem r_last (h : cy X own nm cc nL ret rm tab) {a : Nat} {i : Int32} {x : Int64} (ha : ok S a 103) (hi : vp_in i (sN S a)) (hd : decode cc pc = .ok (.lastore, 1)) (kk : pw X cells slots (setJ S a i.toNatClampNeg x) (pc + 1) vs st) : pw X cells slots S pc vs (.long x :: .int i :: .ref a :: st) := by
  obtain ⟨p, l, e, R, s, m, args, below, meth, c, A, G, Q⟩ := X
  obtain ⟨hx, hb, hr, hml, hown, hts, hlk, hR, htab, hK, hA, hsx, htx, hstk, hnm⟩ := h
  intro H locs ls hl hP hD hS
  obtain ⟨q0, hq⟩ := pl_get (y := G.2.1) ha.1 (pE_j G.2.1 ha.2)
  refine va_last hx hb hK hP.1 hD hS q0 3 hq ty_j hi hd (fun H1 locs1 hP1 hD1 hS1 => ?_)
  have he := pl_set (S' := setJ S a i.toNatClampNeg x) (e := .inl (G.2.1.2.2.2.1, sN S a, .inr (.inl (vp_updL (sJ S a) i.toNatClampNeg x)))) hD ha.1 hq (pE_j G.2.1 ha.2) rfl (by rw [pE_j G.2.1 (S := setJ S a i.toNatClampNeg x) ha.2, show sJ (setJ S a i.toNatClampNeg x) a = _ from va_up_self _ _ _]; rfl) (fun b hb => pE_eq rfl rfl rfl rfl (va_up_ne _ _ hb) rfl)
  exact kk H1 locs1 ls hl ⟨he ▸ hP1, hP.2⟩ (he ▸ hD1) hS1
theorem r_dast (h : cy X own nm cc nL ret rm tab) {a : Nat} {i : Int32} {x : UInt64} (ha : ok S a 104) (hi : vp_in i (sN S a)) (hd : decode cc pc = .ok (.dastore, 1)) (kk : pw X cells slots (setE S a i.toNatClampNeg x) (pc + 1) vs st) : pw X cells slots S pc vs (.double x :: .int i :: .ref a :: st) := by
  obtain ⟨p, l, e, R, s, m, args, below, meth, c, A, G, Q⟩ := X
  obtain ⟨hx, hb, hr, hml, hown, hts, hlk, hR, htab, hK, hA, hsx, htx, hstk, hnm⟩ := h
  intro H locs ls hl hP hD hS
  obtain ⟨q0, hq⟩ := pl_get (y := G.2.1) ha.1 (pE_d G.2.1 ha.2)
  refine va_dast hx hb hK hP.1 hD hS q0 4 hq ty_d hi hd (fun H1 locs1 hP1 hD1 hS1 => ?_)
  have he := pl_set (S' := setE S a i.toNatClampNeg x) (e := .inl (G.2.1.2.2.2.2, sN S a, .inr (.inr (.inr (.inl (vf_upd (sE S a) i.toNatClampNeg x)))))) hD ha.1 hq (pE_d G.2.1 ha.2) rfl (by rw [pE_d G.2.1 (S := setE S a i.toNatClampNeg x) ha.2, show sE (setE S a i.toNatClampNeg x) a = _ from va_up_self _ _ _]; rfl) (fun b hb => pE_eq rfl rfl rfl rfl rfl (va_up_ne _ _ hb))
  exact kk H1 locs1 ls hl ⟨he ▸ hP1, hP.2⟩ (he ▸ hD1) hS1
/-- an object of ours into an array of Object -/
theorem r_aast (h : cy X own nm cc nL ret rm tab) {a b ci : Nat} {i : Int32} {r : vw_C} (hci : kC[ci]? = some r) (hcb : Cond.castable r.1 "java/lang/Object" ∈ NW) (ha : ok S a 102) (hi : vp_in i (sN S a)) (hb' : ok S b ci) (hd : decode cc pc = .ok (.aastore, 1)) (kk : pw X cells slots (setP S a i.toNatClampNeg (some b)) (pc + 1) vs st) : pw X cells slots S pc vs (.ref b :: .int i :: .ref a :: st) := by
  obtain ⟨p, l, e, R, s, m, args, below, meth, c, A, G, Q⟩ := X
  obtain ⟨hx, hb, hr, hml, hown, hts, hlk, hR, htab, hK, hA, hsx, htx, hstk, hnm⟩ := h
  intro H locs ls hl hP hD hS
  obtain ⟨q0, hq⟩ := pl_get (y := G.2.1) ha.1 (pE_q G.2.1 ha.2)
  obtain ⟨q1, hq1⟩ := pl_get (y := G.2.1) hb'.1 (pE_o G.2.1 hb'.2 (kC_lt hci))
  refine va_astqO hx hb hK hP.1 hD hS q0 2 q1 ci hq ty_q (htx.1 _ hcb) hq1 hci hi hd (fun H1 locs1 hP1 hD1 hS1 => ?_)
  have he := pl_set (S' := setP S a i.toNatClampNeg (some b)) (e := .inl (G.2.1.2.2.1, sN S a, .inr (.inr (.inr (.inr (va_up (sP S a) i.toNatClampNeg (some b))))))) hD ha.1 hq (pE_q G.2.1 ha.2) rfl (by rw [pE_q G.2.1 (S := setP S a i.toNatClampNeg (some b)) ha.2, show sP (setP S a i.toNatClampNeg (some b)) a = _ from va_up_self _ _ _]; rfl) (fun b hb => pE_setP_ne G.2.1 hb)
  exact kk H1 locs1 ls hl ⟨he ▸ hP1, hP.2⟩ (he ▸ hD1) hS1
/-! checkcast of an object of the class -/
theorem r_castS (h : cy X own nm cc nL ret rm tab) {a ci index : Nat} {r : vw_C} (hci : kC[ci]? = some r) (hlink : Cond.classLink own index r.1 ∈ TB) (ha : ok S a ci) (hd : decode cc pc = .ok (.checkcast index, 3)) (kk : pw X cells slots S (pc + 3) vs (.ref a :: st)) : pw X cells slots S pc vs (.ref a :: st) := by
  obtain ⟨p, l, e, R, s, m, args, below, meth, c, A, G, Q⟩ := X
  obtain ⟨hx, hb, hr, hml, hown, hts, hlk, hR, htab, hK, hA, hsx, htx, hstk, hnm⟩ := h
  intro H locs ls hl hP hD hS
  obtain ⟨q0, hq⟩ := pl_get (y := G.2.1) ha.1 (pE_o G.2.1 ha.2 (kC_lt hci))
  exact va_castS hx hb hown (hts _ hlink) (hK.1 ci r hci).2 (va_recv hK hP.1 hci hq) hd (kk H locs ls hl hP hD hS)
/-! new -/
theorem r_new (h : cy X own nm cc nL ret rm tab) {ci index N : Nat} {C : String} {T : u_T} {ty0 : Nat → FieldType} (hci : kC[ci]? = some (C, T, N)) (hin : ∀ w ∈ u_ws C T N, w ∈ TB) (hty : ∀ k, k < N → parseFieldDescriptor (T k).2.2.1 = some (ty0 k)) (hdef : ∀ j, j < N → defaultValue (ty0 j) = vp_V (flds ci (fun _ => 0) (fun _ => none)) j) (hlink : Cond.classLink own index C ∈ TB) (hinst : Cond.instantiable C N ∈ TB) (hini : Cond.initialized C ∈ TB) (hc : cells + 1 ≤ rm.cells) (hs : slots + N ≤ rm.slots) (hd : decode cc pc = .ok (.new index, 3)) (kk : ∀ q : Nat, q ∉ sL S → pw X (cells + 1) (slots + N) (newO S q ci) (pc + 3) vs (.ref q :: st)) : pw X cells slots S pc vs st := by
  obtain ⟨p, l, e, R, s, m, args, below, meth, c, A, G, Q⟩ := X
  obtain ⟨hx, hb, hr, hml, hown, hts, hlk, hR, htab, hK, hA, hsx, htx, hstk, hnm⟩ := h
  intro H locs ls hl hP hD hS
  subst hR
  have h100 := kC_lt hci
  refine va_new hx hb hts hin ty0 hty hown (hts _ hlink) (hts _ hinst) (hts _ hini) hK hP.1 hD hS hA hci hdef hc hs hd (fun q H1 hP1 hD1 hS1 => ?_)
  have hq : q ∉ sL S := by
    have := va_pl_fresh2 (X := []) hD1
    exact this
  have he := pl_push (y := G.2.1) (S' := newO S q ci) (e := .inr (ci, flds ci (fun _ => 0) (fun _ => none))) hq rfl (by rw [pE_o G.2.1 (c := ci) (show sK (newO S q ci) q = ci by simp [newO, sK, va_up]) h100]; simp [newO, sI, sP, va_up]) (fun b hb => pE_eq (va_up_ne _ _ hb) rfl (va_up_ne _ _ hb) (va_up_ne _ _ hb) rfl rfl)
  exact kk q hq H1 locs ls hl ⟨he ▸ hP1, hP.2⟩ (he ▸ hD1) hS1
theorem nameI {s : State} {c1 c2 : ClassId} {n : String} (h1 : s.vm.findClass n = some c1) (h2 : s.vm.findClass n = some c2) : c1 = c2 := Option.some.inj (h1.symm.trans h2)
theorem r_newI (h : cy X own nm cc nL ret rm tab) {n : Int32} {N : Nat} (harr : Cond.arrayClass .int ∈ TB) (hn : ¬ n < 0) (hN : n.toNatClampNeg = N) (hby : N ≤ 1000) (hc : cells + 1 ≤ rm.cells) (hs : slots + N ≤ rm.slots) (hd : decode cc pc = .ok (.newarray .int, 2)) (kk : ∀ q : Nat, q ∉ sL S → pw X (cells + 1) (slots + N) (newA S q 101 N) (pc + 2) vs (.ref q :: st)) : pw X cells slots S pc vs (.int n :: st) := by
  obtain ⟨p, l, e, R, s, m, args, below, meth, c, A, G, Q⟩ := X
  obtain ⟨hx, hb, hr, hml, hown, hts, hlk, hR, htab, hK, hA, hsx, htx, hstk, hnm⟩ := h
  intro H locs ls hl hP hD hS
  subst hR
  refine va_newa (atype := .int) (ty := .int) (a0 := (N, .inl (fun _ => 0))) hx hb (hts _ harr) rfl hK hP.1 hD hS hA (fun cA => rfl) hn hN (by show N * 4 ≤ _; omega) hc hs hd (fun q cA H1 hK1 hP1 hD1 hS1 => ?_)
  have hcA : cA = G.2.1.2.1 := nameI (va_nm_int (hK1.2 5 _ rfl).2) (va_nm_int (hK.2 1 _ ty_i).2)
  subst hcA
  have hq : q ∉ sL S := va_pl_fresh2 (X := []) hD1
  have he := pl_push (y := G.2.1) (S' := newA S q 101 N) (e := .inl (G.2.1.2.1, N, .inl (fun _ => 0))) hq rfl (by rw [pE_i G.2.1 (show sK (newA S q 101 N) q = 101 by simp [newA, sK, va_up])]; simp [newA, sI, sN, va_up]) (fun b hb => pE_eq (va_up_ne _ _ hb) (va_up_ne _ _ hb) (va_up_ne _ _ hb) (va_up_ne _ _ hb) (va_up_ne _ _ hb) (va_up_ne _ _ hb))
  exact kk q hq H1 locs ls hl ⟨he ▸ hP1, hP.2⟩ (he ▸ hD1) hS1
theorem r_newC (h : cy X own nm cc nL ret rm tab) {n : Int32} {N : Nat} (harr : Cond.arrayClass .char ∈ TB) (hn : ¬ n < 0) (hN : n.toNatClampNeg = N) (hby : N ≤ 1000) (hc : cells + 1 ≤ rm.cells) (hs : slots + N ≤ rm.slots) (hd : decode cc pc = .ok (.newarray .char, 2)) (kk : ∀ q : Nat, q ∉ sL S → pw X (cells + 1) (slots + N) (newA S q 100 N) (pc + 2) vs (.ref q :: st)) : pw X cells slots S pc vs (.int n :: st) := by
  obtain ⟨p, l, e, R, s, m, args, below, meth, c, A, G, Q⟩ := X
  obtain ⟨hx, hb, hr, hml, hown, hts, hlk, hR, htab, hK, hA, hsx, htx, hstk, hnm⟩ := h
  intro H locs ls hl hP hD hS
  subst hR
  refine va_newa (atype := .char) (ty := .char) (a0 := (N, .inl (fun _ => 0))) hx hb (hts _ harr) rfl hK hP.1 hD hS hA (fun cA => rfl) hn hN (by show N * 2 ≤ _; omega) hc hs hd (fun q cA H1 hK1 hP1 hD1 hS1 => ?_)
  have hcA : cA = G.2.1.1 := nameI (va_nm_char (hK1.2 5 _ rfl).2) (va_nm_char (hK.2 0 _ ty_c).2)
  subst hcA
  have hq : q ∉ sL S := va_pl_fresh2 (X := []) hD1
  have he := pl_push (y := G.2.1) (S' := newA S q 100 N) (e := .inl (G.2.1.1, N, .inl (fun _ => 0))) hq rfl (by rw [pE_c G.2.1 (show sK (newA S q 100 N) q = 100 by simp [newA, sK, va_up])]; simp [newA, sI, sN, va_up]) (fun b hb => pE_eq (va_up_ne _ _ hb) (va_up_ne _ _ hb) (va_up_ne _ _ hb) (va_up_ne _ _ hb) (va_up_ne _ _ hb) (va_up_ne _ _ hb))
  exact kk q hq H1 locs ls hl ⟨he ▸ hP1, hP.2⟩ (he ▸ hD1) hS1
theorem r_newJ (h : cy X own nm cc nL ret rm tab) {n : Int32} {N : Nat} (harr : Cond.arrayClass .long ∈ TB) (hn : ¬ n < 0) (hN : n.toNatClampNeg = N) (hby : N ≤ 1000) (hc : cells + 1 ≤ rm.cells) (hs : slots + N ≤ rm.slots) (hd : decode cc pc = .ok (.newarray .long, 2)) (kk : ∀ q : Nat, q ∉ sL S → pw X (cells + 1) (slots + N) (newA S q 103 N) (pc + 2) vs (.ref q :: st)) : pw X cells slots S pc vs (.int n :: st) := by
  obtain ⟨p, l, e, R, s, m, args, below, meth, c, A, G, Q⟩ := X
  obtain ⟨hx, hb, hr, hml, hown, hts, hlk, hR, htab, hK, hA, hsx, htx, hstk, hnm⟩ := h
  intro H locs ls hl hP hD hS
  subst hR
  refine va_newa (atype := .long) (ty := .long) (a0 := (N, .inr (.inl (fun _ => 0)))) hx hb (hts _ harr) rfl hK hP.1 hD hS hA (fun cA => rfl) hn hN (by show N * 8 ≤ _; omega) hc hs hd (fun q cA H1 hK1 hP1 hD1 hS1 => ?_)
  have hcA : cA = G.2.1.2.2.2.1 := nameI (va_nm_long (hK1.2 5 _ rfl).2) (va_nm_long (hK.2 3 _ ty_j).2)
  subst hcA
  have hq : q ∉ sL S := va_pl_fresh2 (X := []) hD1
  have he := pl_push (y := G.2.1) (S' := newA S q 103 N) (e := .inl (G.2.1.2.2.2.1, N, .inr (.inl (fun _ => 0)))) hq rfl (by rw [pE_j G.2.1 (show sK (newA S q 103 N) q = 103 by simp [newA, sK, va_up])]; simp [newA, sJ, sN, va_up]) (fun b hb => pE_eq (va_up_ne _ _ hb) (va_up_ne _ _ hb) (va_up_ne _ _ hb) (va_up_ne _ _ hb) (va_up_ne _ _ hb) (va_up_ne _ _ hb))
  exact kk q hq H1 locs ls hl ⟨he ▸ hP1, hP.2⟩ (he ▸ hD1) hS1
theorem r_newD (h : cy X own nm cc nL ret rm tab) {n : Int32} {N : Nat} (harr : Cond.arrayClass .double ∈ TB) (hn : ¬ n < 0) (hN : n.toNatClampNeg = N) (hby : N ≤ 1000) (hc : cells + 1 ≤ rm.cells) (hs : slots + N ≤ rm.slots) (hd : decode cc pc = .ok (.newarray .double, 2)) (kk : ∀ q : Nat, q ∉ sL S → pw X (cells + 1) (slots + N) (newA S q 104 N) (pc + 2) vs (.ref q :: st)) : pw X cells slots S pc vs (.int n :: st) := by
  obtain ⟨p, l, e, R, s, m, args, below, meth, c, A, G, Q⟩ := X
  obtain ⟨hx, hb, hr, hml, hown, hts, hlk, hR, htab, hK, hA, hsx, htx, hstk, hnm⟩ := h
  intro H locs ls hl hP hD hS
  subst hR
  refine va_newa (atype := .double) (ty := .double) (a0 := (N, .inr (.inr (.inr (.inl (fun _ => 0)))))) hx hb (hts _ harr) rfl hK hP.1 hD hS hA (fun cA => rfl) hn hN (by show N * 8 ≤ _; omega) hc hs hd (fun q cA H1 hK1 hP1 hD1 hS1 => ?_)
  have hcA : cA = G.2.1.2.2.2.2 := nameI (va_nm_double (hK1.2 5 _ rfl).2) (va_nm_double (hK.2 4 _ ty_d).2)
  subst hcA
  have hq : q ∉ sL S := va_pl_fresh2 (X := []) hD1
  have he := pl_push (y := G.2.1) (S' := newA S q 104 N) (e := .inl (G.2.1.2.2.2.2, N, .inr (.inr (.inr (.inl (fun _ => 0)))))) hq rfl (by rw [pE_d G.2.1 (show sK (newA S q 104 N) q = 104 by simp [newA, sK, va_up])]; simp [newA, sE, sN, va_up]) (fun b hb => pE_eq (va_up_ne _ _ hb) (va_up_ne _ _ hb) (va_up_ne _ _ hb) (va_up_ne _ _ hb) (va_up_ne _ _ hb) (va_up_ne _ _ hb))
  exact kk q hq H1 locs ls hl ⟨he ▸ hP1, hP.2⟩ (he ▸ hD1) hS1
end HW
