section RW
variable {X : XE} {own nm : String} {cc : ByteArray} {nL : Nat} {ret : Option FieldType} {rm : Room} {tab : List (Nat × Nat × Nat × Nat)} {mc ms : Nat} {post : Option Value → St → Prop} {exc : String → St → Prop} {cells slots : Nat} {S : St} {pc : Nat} {vs : List (Nat × Value)} {st : List Value}
theorem r_iconst (h : cy X own nm cc nL ret rm tab) {n : Int} {v : Int32} (hv : Int32.ofInt n = v) (hd : decode cc pc = .ok (.iconst n, 1)) (kk : pw X cells slots S (pc + 1) vs (.int v :: st)) : pw X cells slots S pc vs st := by
  obtain ⟨p, l, e, R, s, m, args, below, meth, c, A, G, Q⟩ := X
  obtain ⟨hx, hb, hr, hml, hown, hts, hlk, hR, htab, hK, hA, hsx, htx, hstk, hnm⟩ := h
  intro H locs ls hl hP hD hS
  exact lv_iconst hx hb hd hv (kk H locs ls hl hP hD hS)
theorem r_bipush (h : cy X own nm cc nL ret rm tab) {n : Int} {v : Int32} (hv : (Int8.ofInt n).toInt32 = v) (hd : decode cc pc = .ok (.bipush n, 2)) (kk : pw X cells slots S (pc + 2) vs (.int v :: st)) : pw X cells slots S pc vs st := by
  obtain ⟨p, l, e, R, s, m, args, below, meth, c, A, G, Q⟩ := X
  obtain ⟨hx, hb, hr, hml, hown, hts, hlk, hR, htab, hK, hA, hsx, htx, hstk, hnm⟩ := h
  intro H locs ls hl hP hD hS
  exact lv_bipush hx hb hd hv (kk H locs ls hl hP hD hS)
theorem r_sipush (h : cy X own nm cc nL ret rm tab) {n : Int} {v : Int32} (hv : (Int16.ofInt n).toInt32 = v) (hd : decode cc pc = .ok (.sipush n, 3)) (kk : pw X cells slots S (pc + 3) vs (.int v :: st)) : pw X cells slots S pc vs st := by
  obtain ⟨p, l, e, R, s, m, args, below, meth, c, A, G, Q⟩ := X
  obtain ⟨hx, hb, hr, hml, hown, hts, hlk, hR, htab, hK, hA, hsx, htx, hstk, hnm⟩ := h
  intro H locs ls hl hP hD hS
  exact lv_sipush hx hb hd hv (kk H locs ls hl hP hD hS)
theorem r_lconst (h : cy X own nm cc nL ret rm tab) {n : Fin 2} {v : Int64} (hv : Int64.ofNat (n : Nat) = v) (hd : decode cc pc = .ok (.lconst n, 1)) (kk : pw X cells slots S (pc + 1) vs (.long v :: st)) : pw X cells slots S pc vs st := by
  obtain ⟨p, l, e, R, s, m, args, below, meth, c, A, G, Q⟩ := X
  obtain ⟨hx, hb, hr, hml, hown, hts, hlk, hR, htab, hK, hA, hsx, htx, hstk, hnm⟩ := h
  intro H locs ls hl hP hD hS
  exact lv_lconst hx hb hd hv (kk H locs ls hl hP hD hS)
theorem r_dconst0 (h : cy X own nm cc nL ret rm tab)  (hd : decode cc pc = .ok (.dconst 0, 1)) (kk : pw X cells slots S (pc + 1) vs (.double 0 :: st)) : pw X cells slots S pc vs st := by
  obtain ⟨p, l, e, R, s, m, args, below, meth, c, A, G, Q⟩ := X
  obtain ⟨hx, hb, hr, hml, hown, hts, hlk, hR, htab, hK, hA, hsx, htx, hstk, hnm⟩ := h
  intro H locs ls hl hP hD hS
  exact lv_dconst0 hx hb hd (kk H locs ls hl hP hD hS)
theorem r_fconst0 (h : cy X own nm cc nL ret rm tab)  (hd : decode cc pc = .ok (.fconst 0, 1)) (kk : pw X cells slots S (pc + 1) vs (.float 0 :: st)) : pw X cells slots S pc vs st := by
  obtain ⟨p, l, e, R, s, m, args, below, meth, c, A, G, Q⟩ := X
  obtain ⟨hx, hb, hr, hml, hown, hts, hlk, hR, htab, hK, hA, hsx, htx, hstk, hnm⟩ := h
  intro H locs ls hl hP hD hS
  exact lv_fconst0 hx hb hd (kk H locs ls hl hP hD hS)
theorem r_null (h : cy X own nm cc nL ret rm tab)  (hd : decode cc pc = .ok (.aconst_null, 1)) (kk : pw X cells slots S (pc + 1) vs (.null :: st)) : pw X cells slots S pc vs st := by
  obtain ⟨p, l, e, R, s, m, args, below, meth, c, A, G, Q⟩ := X
  obtain ⟨hx, hb, hr, hml, hown, hts, hlk, hR, htab, hK, hA, hsx, htx, hstk, hnm⟩ := h
  intro H locs ls hl hP hD hS
  exact lv_null hx hb hd (kk H locs ls hl hP hD hS)
theorem r_iload_n (h : cy X own nm cc nL ret rm tab) {k : Fin 4} {i : Nat} {x : Int32} (j : Nat) (hv : vs[j]? = some (i, .int x)) (hi : (k : Nat) = i) (hd : decode cc pc = .ok (.iload_n k, 1)) (kk : pw X cells slots S (pc + 1) vs (.int x :: st)) : pw X cells slots S pc vs st := by
  obtain ⟨p, l, e, R, s, m, args, below, meth, c, A, G, Q⟩ := X
  obtain ⟨hx, hb, hr, hml, hown, hts, hlk, hR, htab, hK, hA, hsx, htx, hstk, hnm⟩ := h
  intro H locs ls hl hP hD hS
  exact lv_iload_n hx hb hd hi (lv_at hl j hv) (kk H locs ls hl hP hD hS)
theorem r_iload (h : cy X own nm cc nL ret rm tab) {i : Nat} {x : Int32} (j : Nat) (hv : vs[j]? = some (i, .int x)) (hd : decode cc pc = .ok (.iload i, 2)) (kk : pw X cells slots S (pc + 2) vs (.int x :: st)) : pw X cells slots S pc vs st := by
  obtain ⟨p, l, e, R, s, m, args, below, meth, c, A, G, Q⟩ := X
  obtain ⟨hx, hb, hr, hml, hown, hts, hlk, hR, htab, hK, hA, hsx, htx, hstk, hnm⟩ := h
  intro H locs ls hl hP hD hS
  exact lv_iload hx hb hd (lv_at hl j hv) (kk H locs ls hl hP hD hS)
theorem r_lload_n (h : cy X own nm cc nL ret rm tab) {k : Fin 4} {i : Nat} {x : Int64} (j : Nat) (hv : vs[j]? = some (i, .long x)) (hi : (k : Nat) = i) (hd : decode cc pc = .ok (.lload_n k, 1)) (kk : pw X cells slots S (pc + 1) vs (.long x :: st)) : pw X cells slots S pc vs st := by
  obtain ⟨p, l, e, R, s, m, args, below, meth, c, A, G, Q⟩ := X
  obtain ⟨hx, hb, hr, hml, hown, hts, hlk, hR, htab, hK, hA, hsx, htx, hstk, hnm⟩ := h
  intro H locs ls hl hP hD hS
  exact lv_lload_n hx hb hd hi (lv_at hl j hv) (kk H locs ls hl hP hD hS)
theorem r_lload (h : cy X own nm cc nL ret rm tab) {i : Nat} {x : Int64} (j : Nat) (hv : vs[j]? = some (i, .long x)) (hd : decode cc pc = .ok (.lload i, 2)) (kk : pw X cells slots S (pc + 2) vs (.long x :: st)) : pw X cells slots S pc vs st := by
  obtain ⟨p, l, e, R, s, m, args, below, meth, c, A, G, Q⟩ := X
  obtain ⟨hx, hb, hr, hml, hown, hts, hlk, hR, htab, hK, hA, hsx, htx, hstk, hnm⟩ := h
  intro H locs ls hl hP hD hS
  exact lv_lload hx hb hd (lv_at hl j hv) (kk H locs ls hl hP hD hS)
theorem r_fload_n (h : cy X own nm cc nL ret rm tab) {k : Fin 4} {i : Nat} {x : UInt32} (j : Nat) (hv : vs[j]? = some (i, .float x)) (hi : (k : Nat) = i) (hd : decode cc pc = .ok (.fload_n k, 1)) (kk : pw X cells slots S (pc + 1) vs (.float x :: st)) : pw X cells slots S pc vs st := by
  obtain ⟨p, l, e, R, s, m, args, below, meth, c, A, G, Q⟩ := X
  obtain ⟨hx, hb, hr, hml, hown, hts, hlk, hR, htab, hK, hA, hsx, htx, hstk, hnm⟩ := h
  intro H locs ls hl hP hD hS
  exact lv_fload_n hx hb hd hi (lv_at hl j hv) (kk H locs ls hl hP hD hS)
theorem r_fload (h : cy X own nm cc nL ret rm tab) {i : Nat} {x : UInt32} (j : Nat) (hv : vs[j]? = some (i, .float x)) (hd : decode cc pc = .ok (.fload i, 2)) (kk : pw X cells slots S (pc + 2) vs (.float x :: st)) : pw X cells slots S pc vs st := by
  obtain ⟨p, l, e, R, s, m, args, below, meth, c, A, G, Q⟩ := X
  obtain ⟨hx, hb, hr, hml, hown, hts, hlk, hR, htab, hK, hA, hsx, htx, hstk, hnm⟩ := h
  intro H locs ls hl hP hD hS
  exact lv_fload hx hb hd (lv_at hl j hv) (kk H locs ls hl hP hD hS)
theorem r_dload_n (h : cy X own nm cc nL ret rm tab) {k : Fin 4} {i : Nat} {x : UInt64} (j : Nat) (hv : vs[j]? = some (i, .double x)) (hi : (k : Nat) = i) (hd : decode cc pc = .ok (.dload_n k, 1)) (kk : pw X cells slots S (pc + 1) vs (.double x :: st)) : pw X cells slots S pc vs st := by
  obtain ⟨p, l, e, R, s, m, args, below, meth, c, A, G, Q⟩ := X
  obtain ⟨hx, hb, hr, hml, hown, hts, hlk, hR, htab, hK, hA, hsx, htx, hstk, hnm⟩ := h
  intro H locs ls hl hP hD hS
  exact lv_dload_n hx hb hd hi (lv_at hl j hv) (kk H locs ls hl hP hD hS)
theorem r_dload (h : cy X own nm cc nL ret rm tab) {i : Nat} {x : UInt64} (j : Nat) (hv : vs[j]? = some (i, .double x)) (hd : decode cc pc = .ok (.dload i, 2)) (kk : pw X cells slots S (pc + 2) vs (.double x :: st)) : pw X cells slots S pc vs st := by
  obtain ⟨p, l, e, R, s, m, args, below, meth, c, A, G, Q⟩ := X
  obtain ⟨hx, hb, hr, hml, hown, hts, hlk, hR, htab, hK, hA, hsx, htx, hstk, hnm⟩ := h
  intro H locs ls hl hP hD hS
  exact lv_dload hx hb hd (lv_at hl j hv) (kk H locs ls hl hP hD hS)
theorem r_aload_n (h : cy X own nm cc nL ret rm tab) {k : Fin 4} {i x : Nat} (j : Nat) (hv : vs[j]? = some (i, .ref x)) (hi : (k : Nat) = i) (hd : decode cc pc = .ok (.aload_n k, 1)) (kk : pw X cells slots S (pc + 1) vs (.ref x :: st)) : pw X cells slots S pc vs st := by
  obtain ⟨p, l, e, R, s, m, args, below, meth, c, A, G, Q⟩ := X
  obtain ⟨hx, hb, hr, hml, hown, hts, hlk, hR, htab, hK, hA, hsx, htx, hstk, hnm⟩ := h
  intro H locs ls hl hP hD hS
  exact lv_aload_n hx hb hd hi (lv_at hl j hv) (kk H locs ls hl hP hD hS)
theorem r_aload (h : cy X own nm cc nL ret rm tab) {i x : Nat} (j : Nat) (hv : vs[j]? = some (i, .ref x)) (hd : decode cc pc = .ok (.aload i, 2)) (kk : pw X cells slots S (pc + 2) vs (.ref x :: st)) : pw X cells slots S pc vs st := by
  obtain ⟨p, l, e, R, s, m, args, below, meth, c, A, G, Q⟩ := X
  obtain ⟨hx, hb, hr, hml, hown, hts, hlk, hR, htab, hK, hA, hsx, htx, hstk, hnm⟩ := h
  intro H locs ls hl hP hD hS
  exact lv_aload hx hb hd (lv_at hl j hv) (kk H locs ls hl hP hD hS)
theorem r_aload_nN (h : cy X own nm cc nL ret rm tab) {k : Fin 4} {i : Nat} (j : Nat) (hv : vs[j]? = some (i, .null)) (hi : (k : Nat) = i) (hd : decode cc pc = .ok (.aload_n k, 1)) (kk : pw X cells slots S (pc + 1) vs (.null :: st)) : pw X cells slots S pc vs st := by
  obtain ⟨p, l, e, R, s, m, args, below, meth, c, A, G, Q⟩ := X
  obtain ⟨hx, hb, hr, hml, hown, hts, hlk, hR, htab, hK, hA, hsx, htx, hstk, hnm⟩ := h
  intro H locs ls hl hP hD hS
  exact lv_aload_nN hx hb hd hi (lv_at hl j hv) (kk H locs ls hl hP hD hS)
theorem r_aloadN (h : cy X own nm cc nL ret rm tab) {i : Nat} (j : Nat) (hv : vs[j]? = some (i, .null)) (hd : decode cc pc = .ok (.aload i, 2)) (kk : pw X cells slots S (pc + 2) vs (.null :: st)) : pw X cells slots S pc vs st := by
  obtain ⟨p, l, e, R, s, m, args, below, meth, c, A, G, Q⟩ := X
  obtain ⟨hx, hb, hr, hml, hown, hts, hlk, hR, htab, hK, hA, hsx, htx, hstk, hnm⟩ := h
  intro H locs ls hl hP hD hS
  exact lv_aloadN hx hb hd (lv_at hl j hv) (kk H locs ls hl hP hD hS)
theorem r_istore_n (h : cy X own nm cc nL ret rm tab) {k : Fin 4} {i : Nat} {x : Int32} {vs' : List (Nat × Value)} (ks : List Nat) (hi : (k : Nat) = i) (hn : i < nL) (hv : lv_pick ((i, Value.int x) :: vs.filter (fun q => !(q.1 == i) && !(q.1 + 1 == i && q.2.category == 2))) ks = vs') (hd : decode cc pc = .ok (.istore_n k, 1)) (kk : pw X cells slots S (pc + 1) vs' st) : pw X cells slots S pc vs (.int x :: st) := by
  obtain ⟨p, l, e, R, s, m, args, below, meth, c, A, G, Q⟩ := X
  obtain ⟨hx, hb, hr, hml, hown, hts, hlk, hR, htab, hK, hA, hsx, htx, hstk, hnm⟩ := h
  intro H locs ls hl hP hD hS
  subst hml
  exact lv_istore_n (lv' := (i, Value.int x) :: vs.filter (fun q => !(q.1 == i) && !(q.1 + 1 == i && q.2.category == 2))) hx hb hd hi hl hn rfl (fun ls1 hl1 => kk H locs ls1 (lv_sub hl1 ks hv) hP hD hS)
theorem r_istore (h : cy X own nm cc nL ret rm tab) {i : Nat} {x : Int32} {vs' : List (Nat × Value)} (ks : List Nat) (hn : i < nL) (hv : lv_pick ((i, Value.int x) :: vs.filter (fun q => !(q.1 == i) && !(q.1 + 1 == i && q.2.category == 2))) ks = vs') (hd : decode cc pc = .ok (.istore i, 2)) (kk : pw X cells slots S (pc + 2) vs' st) : pw X cells slots S pc vs (.int x :: st) := by
  obtain ⟨p, l, e, R, s, m, args, below, meth, c, A, G, Q⟩ := X
  obtain ⟨hx, hb, hr, hml, hown, hts, hlk, hR, htab, hK, hA, hsx, htx, hstk, hnm⟩ := h
  intro H locs ls hl hP hD hS
  subst hml
  exact lv_istore (lv' := (i, Value.int x) :: vs.filter (fun q => !(q.1 == i) && !(q.1 + 1 == i && q.2.category == 2))) hx hb hd hl hn rfl (fun ls1 hl1 => kk H locs ls1 (lv_sub hl1 ks hv) hP hD hS)
theorem r_lstore_n (h : cy X own nm cc nL ret rm tab) {k : Fin 4} {i : Nat} {x : Int64} {vs' : List (Nat × Value)} (ks : List Nat) (hi : (k : Nat) = i) (hn : i + 1 < nL) (hv : lv_pick ((i, Value.long x) :: vs.filter (fun q => !(q.1 == i) && (!(q.1 == i + 1) && !(q.1 + 1 == i && q.2.category == 2)))) ks = vs') (hd : decode cc pc = .ok (.lstore_n k, 1)) (kk : pw X cells slots S (pc + 1) vs' st) : pw X cells slots S pc vs (.long x :: st) := by
  obtain ⟨p, l, e, R, s, m, args, below, meth, c, A, G, Q⟩ := X
  obtain ⟨hx, hb, hr, hml, hown, hts, hlk, hR, htab, hK, hA, hsx, htx, hstk, hnm⟩ := h
  intro H locs ls hl hP hD hS
  subst hml
  exact lv_lstore_n (lv' := (i, Value.long x) :: vs.filter (fun q => !(q.1 == i) && (!(q.1 == i + 1) && !(q.1 + 1 == i && q.2.category == 2)))) hx hb hd hi hl hn rfl (fun ls1 hl1 => kk H locs ls1 (lv_sub hl1 ks hv) hP hD hS)
theorem r_lstore (h : cy X own nm cc nL ret rm tab) {i : Nat} {x : Int64} {vs' : List (Nat × Value)} (ks : List Nat) (hn : i + 1 < nL) (hv : lv_pick ((i, Value.long x) :: vs.filter (fun q => !(q.1 == i) && (!(q.1 == i + 1) && !(q.1 + 1 == i && q.2.category == 2)))) ks = vs') (hd : decode cc pc = .ok (.lstore i, 2)) (kk : pw X cells slots S (pc + 2) vs' st) : pw X cells slots S pc vs (.long x :: st) := by
  obtain ⟨p, l, e, R, s, m, args, below, meth, c, A, G, Q⟩ := X
  obtain ⟨hx, hb, hr, hml, hown, hts, hlk, hR, htab, hK, hA, hsx, htx, hstk, hnm⟩ := h
  intro H locs ls hl hP hD hS
  subst hml
  exact lv_lstore (lv' := (i, Value.long x) :: vs.filter (fun q => !(q.1 == i) && (!(q.1 == i + 1) && !(q.1 + 1 == i && q.2.category == 2)))) hx hb hd hl hn rfl (fun ls1 hl1 => kk H locs ls1 (lv_sub hl1 ks hv) hP hD hS)
theorem r_dstore_n (h : cy X own nm cc nL ret rm tab) {k : Fin 4} {i : Nat} {x : UInt64} {vs' : List (Nat × Value)} (ks : List Nat) (hi : (k : Nat) = i) (hn : i + 1 < nL) (hv : lv_pick ((i, Value.double x) :: vs.filter (fun q => !(q.1 == i) && (!(q.1 == i + 1) && !(q.1 + 1 == i && q.2.category == 2)))) ks = vs') (hd : decode cc pc = .ok (.dstore_n k, 1)) (kk : pw X cells slots S (pc + 1) vs' st) : pw X cells slots S pc vs (.double x :: st) := by
  obtain ⟨p, l, e, R, s, m, args, below, meth, c, A, G, Q⟩ := X
  obtain ⟨hx, hb, hr, hml, hown, hts, hlk, hR, htab, hK, hA, hsx, htx, hstk, hnm⟩ := h
  intro H locs ls hl hP hD hS
  subst hml
  exact lv_dstore_n (lv' := (i, Value.double x) :: vs.filter (fun q => !(q.1 == i) && (!(q.1 == i + 1) && !(q.1 + 1 == i && q.2.category == 2)))) hx hb hd hi hl hn rfl (fun ls1 hl1 => kk H locs ls1 (lv_sub hl1 ks hv) hP hD hS)
theorem r_dstore (h : cy X own nm cc nL ret rm tab) {i : Nat} {x : UInt64} {vs' : List (Nat × Value)} (ks : List Nat) (hn : i + 1 < nL) (hv : lv_pick ((i, Value.double x) :: vs.filter (fun q => !(q.1 == i) && (!(q.1 == i + 1) && !(q.1 + 1 == i && q.2.category == 2)))) ks = vs') (hd : decode cc pc = .ok (.dstore i, 2)) (kk : pw X cells slots S (pc + 2) vs' st) : pw X cells slots S pc vs (.double x :: st) := by
  obtain ⟨p, l, e, R, s, m, args, below, meth, c, A, G, Q⟩ := X
  obtain ⟨hx, hb, hr, hml, hown, hts, hlk, hR, htab, hK, hA, hsx, htx, hstk, hnm⟩ := h
  intro H locs ls hl hP hD hS
  subst hml
  exact lv_dstore (lv' := (i, Value.double x) :: vs.filter (fun q => !(q.1 == i) && (!(q.1 == i + 1) && !(q.1 + 1 == i && q.2.category == 2)))) hx hb hd hl hn rfl (fun ls1 hl1 => kk H locs ls1 (lv_sub hl1 ks hv) hP hD hS)
theorem r_fstore_n (h : cy X own nm cc nL ret rm tab) {k : Fin 4} {i : Nat} {x : UInt32} {vs' : List (Nat × Value)} (ks : List Nat) (hi : (k : Nat) = i) (hn : i < nL) (hv : lv_pick ((i, Value.float x) :: vs.filter (fun q => !(q.1 == i) && !(q.1 + 1 == i && q.2.category == 2))) ks = vs') (hd : decode cc pc = .ok (.fstore_n k, 1)) (kk : pw X cells slots S (pc + 1) vs' st) : pw X cells slots S pc vs (.float x :: st) := by
  obtain ⟨p, l, e, R, s, m, args, below, meth, c, A, G, Q⟩ := X
  obtain ⟨hx, hb, hr, hml, hown, hts, hlk, hR, htab, hK, hA, hsx, htx, hstk, hnm⟩ := h
  intro H locs ls hl hP hD hS
  subst hml
  exact lv_fstore_n (lv' := (i, Value.float x) :: vs.filter (fun q => !(q.1 == i) && !(q.1 + 1 == i && q.2.category == 2))) hx hb hd hi hl hn rfl (fun ls1 hl1 => kk H locs ls1 (lv_sub hl1 ks hv) hP hD hS)
theorem r_fstore (h : cy X own nm cc nL ret rm tab) {i : Nat} {x : UInt32} {vs' : List (Nat × Value)} (ks : List Nat) (hn : i < nL) (hv : lv_pick ((i, Value.float x) :: vs.filter (fun q => !(q.1 == i) && !(q.1 + 1 == i && q.2.category == 2))) ks = vs') (hd : decode cc pc = .ok (.fstore i, 2)) (kk : pw X cells slots S (pc + 2) vs' st) : pw X cells slots S pc vs (.float x :: st) := by
  obtain ⟨p, l, e, R, s, m, args, below, meth, c, A, G, Q⟩ := X
  obtain ⟨hx, hb, hr, hml, hown, hts, hlk, hR, htab, hK, hA, hsx, htx, hstk, hnm⟩ := h
  intro H locs ls hl hP hD hS
  subst hml
  exact lv_fstore (lv' := (i, Value.float x) :: vs.filter (fun q => !(q.1 == i) && !(q.1 + 1 == i && q.2.category == 2))) hx hb hd hl hn rfl (fun ls1 hl1 => kk H locs ls1 (lv_sub hl1 ks hv) hP hD hS)
theorem r_astore_n (h : cy X own nm cc nL ret rm tab) {k : Fin 4} {i : Nat} {x : Nat} {vs' : List (Nat × Value)} (ks : List Nat) (hi : (k : Nat) = i) (hn : i < nL) (hv : lv_pick ((i, Value.ref x) :: vs.filter (fun q => !(q.1 == i) && !(q.1 + 1 == i && q.2.category == 2))) ks = vs') (hd : decode cc pc = .ok (.astore_n k, 1)) (kk : pw X cells slots S (pc + 1) vs' st) : pw X cells slots S pc vs (.ref x :: st) := by
  obtain ⟨p, l, e, R, s, m, args, below, meth, c, A, G, Q⟩ := X
  obtain ⟨hx, hb, hr, hml, hown, hts, hlk, hR, htab, hK, hA, hsx, htx, hstk, hnm⟩ := h
  intro H locs ls hl hP hD hS
  subst hml
  exact lv_astore_n (lv' := (i, Value.ref x) :: vs.filter (fun q => !(q.1 == i) && !(q.1 + 1 == i && q.2.category == 2))) hx hb hd hi hl hn rfl (fun ls1 hl1 => kk H locs ls1 (lv_sub hl1 ks hv) hP hD hS)
theorem r_astore (h : cy X own nm cc nL ret rm tab) {i : Nat} {x : Nat} {vs' : List (Nat × Value)} (ks : List Nat) (hn : i < nL) (hv : lv_pick ((i, Value.ref x) :: vs.filter (fun q => !(q.1 == i) && !(q.1 + 1 == i && q.2.category == 2))) ks = vs') (hd : decode cc pc = .ok (.astore i, 2)) (kk : pw X cells slots S (pc + 2) vs' st) : pw X cells slots S pc vs (.ref x :: st) := by
  obtain ⟨p, l, e, R, s, m, args, below, meth, c, A, G, Q⟩ := X
  obtain ⟨hx, hb, hr, hml, hown, hts, hlk, hR, htab, hK, hA, hsx, htx, hstk, hnm⟩ := h
  intro H locs ls hl hP hD hS
  subst hml
  exact lv_astore (lv' := (i, Value.ref x) :: vs.filter (fun q => !(q.1 == i) && !(q.1 + 1 == i && q.2.category == 2))) hx hb hd hl hn rfl (fun ls1 hl1 => kk H locs ls1 (lv_sub hl1 ks hv) hP hD hS)
theorem r_astore_nN (h : cy X own nm cc nL ret rm tab) {k : Fin 4} {i : Nat} {vs' : List (Nat × Value)} (ks : List Nat) (hi : (k : Nat) = i) (hn : i < nL) (hv : lv_pick ((i, Value.null) :: vs.filter (fun q => !(q.1 == i) && !(q.1 + 1 == i && q.2.category == 2))) ks = vs') (hd : decode cc pc = .ok (.astore_n k, 1)) (kk : pw X cells slots S (pc + 1) vs' st) : pw X cells slots S pc vs (.null :: st) := by
  obtain ⟨p, l, e, R, s, m, args, below, meth, c, A, G, Q⟩ := X
  obtain ⟨hx, hb, hr, hml, hown, hts, hlk, hR, htab, hK, hA, hsx, htx, hstk, hnm⟩ := h
  intro H locs ls hl hP hD hS
  subst hml
  exact lv_astore_nN (lv' := (i, Value.null) :: vs.filter (fun q => !(q.1 == i) && !(q.1 + 1 == i && q.2.category == 2))) hx hb hd hi hl hn rfl (fun ls1 hl1 => kk H locs ls1 (lv_sub hl1 ks hv) hP hD hS)
theorem r_astoreN (h : cy X own nm cc nL ret rm tab) {i : Nat} {vs' : List (Nat × Value)} (ks : List Nat) (hn : i < nL) (hv : lv_pick ((i, Value.null) :: vs.filter (fun q => !(q.1 == i) && !(q.1 + 1 == i && q.2.category == 2))) ks = vs') (hd : decode cc pc = .ok (.astore i, 2)) (kk : pw X cells slots S (pc + 2) vs' st) : pw X cells slots S pc vs (.null :: st) := by
  obtain ⟨p, l, e, R, s, m, args, below, meth, c, A, G, Q⟩ := X
  obtain ⟨hx, hb, hr, hml, hown, hts, hlk, hR, htab, hK, hA, hsx, htx, hstk, hnm⟩ := h
  intro H locs ls hl hP hD hS
  subst hml
  exact lv_astoreN (lv' := (i, Value.null) :: vs.filter (fun q => !(q.1 == i) && !(q.1 + 1 == i && q.2.category == 2))) hx hb hd hl hn rfl (fun ls1 hl1 => kk H locs ls1 (lv_sub hl1 ks hv) hP hD hS)
theorem r_iinc (h : cy X own nm cc nL ret rm tab) {i j : Nat} {n : Int} {x v : Int32} {vs' : List (Nat × Value)} (ks : List Nat) (hj : vs[j]? = some (i, .int x)) (hx' : x + Int32.ofInt n = v) (hn : i < nL) (hv : lv_pick ((i, Value.int v) :: vs.filter (fun q => !(q.1 == i) && !(q.1 + 1 == i && q.2.category == 2))) ks = vs') (hd : decode cc pc = .ok (.iinc i n, 3)) (kk : pw X cells slots S (pc + 3) vs' st) : pw X cells slots S pc vs st := by
  obtain ⟨p, l, e, R, s, m, args, below, meth, c, A, G, Q⟩ := X
  obtain ⟨hx, hb, hr, hml, hown, hts, hlk, hR, htab, hK, hA, hsx, htx, hstk, hnm⟩ := h
  intro H locs ls hl hP hD hS
  subst hml
  exact lv_iinc (lv' := (i, Value.int v) :: vs.filter (fun q => !(q.1 == i) && !(q.1 + 1 == i && q.2.category == 2))) hx hb hd hl hj hx' hn rfl (fun ls1 hl1 => kk H locs ls1 (lv_sub hl1 ks hv) hP hD hS)
theorem r_vs {vs' : List (Nat × Value)} (ks : List Nat) (hv : lv_pick vs ks = vs') (kk : pw X cells slots S pc vs' st) : pw X cells slots S pc vs st := by
  obtain ⟨p, l, e, R, s, m, args, below, meth, c, A, G, Q⟩ := X
  intro H locs ls hl hP hD hS
  exact kk H locs ls (lv_sub hl ks hv) hP hD hS
theorem r_iadd (h : cy X own nm cc nL ret rm tab) {x y : Int32} (hd : decode cc pc = .ok (.iadd, 1)) (kk : pw X cells slots S (pc + 1) vs (.int (x + y) :: st)) : pw X cells slots S pc vs (.int y :: .int x :: st) := by
  obtain ⟨p, l, e, R, s, m, args, below, meth, c, A, G, Q⟩ := X
  obtain ⟨hx, hb, hr, hml, hown, hts, hlk, hR, htab, hK, hA, hsx, htx, hstk, hnm⟩ := h
  intro H locs ls hl hP hD hS
  exact lv_iadd hx hb hd (kk H locs ls hl hP hD hS)
theorem r_isub (h : cy X own nm cc nL ret rm tab) {x y : Int32} (hd : decode cc pc = .ok (.isub, 1)) (kk : pw X cells slots S (pc + 1) vs (.int (x - y) :: st)) : pw X cells slots S pc vs (.int y :: .int x :: st) := by
  obtain ⟨p, l, e, R, s, m, args, below, meth, c, A, G, Q⟩ := X
  obtain ⟨hx, hb, hr, hml, hown, hts, hlk, hR, htab, hK, hA, hsx, htx, hstk, hnm⟩ := h
  intro H locs ls hl hP hD hS
  exact lv_isub hx hb hd (kk H locs ls hl hP hD hS)
theorem r_imul (h : cy X own nm cc nL ret rm tab) {x y : Int32} (hd : decode cc pc = .ok (.imul, 1)) (kk : pw X cells slots S (pc + 1) vs (.int (x * y) :: st)) : pw X cells slots S pc vs (.int y :: .int x :: st) := by
  obtain ⟨p, l, e, R, s, m, args, below, meth, c, A, G, Q⟩ := X
  obtain ⟨hx, hb, hr, hml, hown, hts, hlk, hR, htab, hK, hA, hsx, htx, hstk, hnm⟩ := h
  intro H locs ls hl hP hD hS
  exact lv_imul hx hb hd (kk H locs ls hl hP hD hS)
theorem r_iand (h : cy X own nm cc nL ret rm tab) {x y : Int32} (hd : decode cc pc = .ok (.iand, 1)) (kk : pw X cells slots S (pc + 1) vs (.int (x &&& y) :: st)) : pw X cells slots S pc vs (.int y :: .int x :: st) := by
  obtain ⟨p, l, e, R, s, m, args, below, meth, c, A, G, Q⟩ := X
  obtain ⟨hx, hb, hr, hml, hown, hts, hlk, hR, htab, hK, hA, hsx, htx, hstk, hnm⟩ := h
  intro H locs ls hl hP hD hS
  exact lv_iand hx hb hd (kk H locs ls hl hP hD hS)
theorem r_ixor (h : cy X own nm cc nL ret rm tab) {x y : Int32} (hd : decode cc pc = .ok (.ixor, 1)) (kk : pw X cells slots S (pc + 1) vs (.int (x ^^^ y) :: st)) : pw X cells slots S pc vs (.int y :: .int x :: st) := by
  obtain ⟨p, l, e, R, s, m, args, below, meth, c, A, G, Q⟩ := X
  obtain ⟨hx, hb, hr, hml, hown, hts, hlk, hR, htab, hK, hA, hsx, htx, hstk, hnm⟩ := h
  intro H locs ls hl hP hD hS
  exact lv_ixor hx hb hd (kk H locs ls hl hP hD hS)
theorem r_ior (h : cy X own nm cc nL ret rm tab) {x y : Int32} (hd : decode cc pc = .ok (.ior, 1)) (kk : pw X cells slots S (pc + 1) vs (.int (x ||| y) :: st)) : pw X cells slots S pc vs (.int y :: .int x :: st) := by
  obtain ⟨p, l, e, R, s, m, args, below, meth, c, A, G, Q⟩ := X
  obtain ⟨hx, hb, hr, hml, hown, hts, hlk, hR, htab, hK, hA, hsx, htx, hstk, hnm⟩ := h
  intro H locs ls hl hP hD hS
  exact lv_ior hx hb hd (kk H locs ls hl hP hD hS)
theorem r_ishl (h : cy X own nm cc nL ret rm tab) {x y : Int32} (hd : decode cc pc = .ok (.ishl, 1)) (kk : pw X cells slots S (pc + 1) vs (.int (x <<< (y &&& 31)) :: st)) : pw X cells slots S pc vs (.int y :: .int x :: st) := by
  obtain ⟨p, l, e, R, s, m, args, below, meth, c, A, G, Q⟩ := X
  obtain ⟨hx, hb, hr, hml, hown, hts, hlk, hR, htab, hK, hA, hsx, htx, hstk, hnm⟩ := h
  intro H locs ls hl hP hD hS
  exact lv_ishl hx hb hd (kk H locs ls hl hP hD hS)
theorem r_ishr (h : cy X own nm cc nL ret rm tab) {x y : Int32} (hd : decode cc pc = .ok (.ishr, 1)) (kk : pw X cells slots S (pc + 1) vs (.int (x >>> (y &&& 31)) :: st)) : pw X cells slots S pc vs (.int y :: .int x :: st) := by
  obtain ⟨p, l, e, R, s, m, args, below, meth, c, A, G, Q⟩ := X
  obtain ⟨hx, hb, hr, hml, hown, hts, hlk, hR, htab, hK, hA, hsx, htx, hstk, hnm⟩ := h
  intro H locs ls hl hP hD hS
  exact lv_ishr hx hb hd (kk H locs ls hl hP hD hS)
theorem r_idiv (h : cy X own nm cc nL ret rm tab) {x y : Int32} (hne : ¬ y = 0) (hd : decode cc pc = .ok (.idiv, 1)) (kk : pw X cells slots S (pc + 1) vs (.int (x / y) :: st)) : pw X cells slots S pc vs (.int y :: .int x :: st) := by
  obtain ⟨p, l, e, R, s, m, args, below, meth, c, A, G, Q⟩ := X
  obtain ⟨hx, hb, hr, hml, hown, hts, hlk, hR, htab, hK, hA, hsx, htx, hstk, hnm⟩ := h
  intro H locs ls hl hP hD hS
  exact lv_idiv hx hb hd hne (kk H locs ls hl hP hD hS)
theorem r_irem (h : cy X own nm cc nL ret rm tab) {x y : Int32} (hne : ¬ y = 0) (hd : decode cc pc = .ok (.irem, 1)) (kk : pw X cells slots S (pc + 1) vs (.int (x - x / y * y) :: st)) : pw X cells slots S pc vs (.int y :: .int x :: st) := by
  obtain ⟨p, l, e, R, s, m, args, below, meth, c, A, G, Q⟩ := X
  obtain ⟨hx, hb, hr, hml, hown, hts, hlk, hR, htab, hK, hA, hsx, htx, hstk, hnm⟩ := h
  intro H locs ls hl hP hD hS
  exact lv_irem hx hb hd hne (kk H locs ls hl hP hD hS)
theorem r_ineg (h : cy X own nm cc nL ret rm tab) {x : Int32} (hd : decode cc pc = .ok (.ineg, 1)) (kk : pw X cells slots S (pc + 1) vs (.int (-x) :: st)) : pw X cells slots S pc vs (.int x :: st) := by
  obtain ⟨p, l, e, R, s, m, args, below, meth, c, A, G, Q⟩ := X
  obtain ⟨hx, hb, hr, hml, hown, hts, hlk, hR, htab, hK, hA, hsx, htx, hstk, hnm⟩ := h
  intro H locs ls hl hP hD hS
  exact lv_ineg hx hb hd (kk H locs ls hl hP hD hS)
theorem r_ladd (h : cy X own nm cc nL ret rm tab) {x y : Int64} (hd : decode cc pc = .ok (.ladd, 1)) (kk : pw X cells slots S (pc + 1) vs (.long (x + y) :: st)) : pw X cells slots S pc vs (.long y :: .long x :: st) := by
  obtain ⟨p, l, e, R, s, m, args, below, meth, c, A, G, Q⟩ := X
  obtain ⟨hx, hb, hr, hml, hown, hts, hlk, hR, htab, hK, hA, hsx, htx, hstk, hnm⟩ := h
  intro H locs ls hl hP hD hS
  exact lv_ladd hx hb hd (kk H locs ls hl hP hD hS)
theorem r_lmul (h : cy X own nm cc nL ret rm tab) {x y : Int64} (hd : decode cc pc = .ok (.lmul, 1)) (kk : pw X cells slots S (pc + 1) vs (.long (x * y) :: st)) : pw X cells slots S pc vs (.long y :: .long x :: st) := by
  obtain ⟨p, l, e, R, s, m, args, below, meth, c, A, G, Q⟩ := X
  obtain ⟨hx, hb, hr, hml, hown, hts, hlk, hR, htab, hK, hA, hsx, htx, hstk, hnm⟩ := h
  intro H locs ls hl hP hD hS
  exact lv_lmul hx hb hd (kk H locs ls hl hP hD hS)
theorem r_i2l (h : cy X own nm cc nL ret rm tab) {x : Int32} (hd : decode cc pc = .ok (.i2l, 1)) (kk : pw X cells slots S (pc + 1) vs (.long x.toInt64 :: st)) : pw X cells slots S pc vs (.int x :: st) := by
  obtain ⟨p, l, e, R, s, m, args, below, meth, c, A, G, Q⟩ := X
  obtain ⟨hx, hb, hr, hml, hown, hts, hlk, hR, htab, hK, hA, hsx, htx, hstk, hnm⟩ := h
  intro H locs ls hl hP hD hS
  exact lv_i2l hx hb hd rfl (kk H locs ls hl hP hD hS)
theorem r_i2c (h : cy X own nm cc nL ret rm tab) {x : Int32} (hd : decode cc pc = .ok (.i2c, 1)) (kk : pw X cells slots S (pc + 1) vs (.int (x.toUInt32 % 65536).toInt32 :: st)) : pw X cells slots S pc vs (.int x :: st) := by
  obtain ⟨p, l, e, R, s, m, args, below, meth, c, A, G, Q⟩ := X
  obtain ⟨hx, hb, hr, hml, hown, hts, hlk, hR, htab, hK, hA, hsx, htx, hstk, hnm⟩ := h
  intro H locs ls hl hP hD hS
  exact lv_i2c hx hb hd rfl (kk H locs ls hl hP hD hS)
theorem r_i2d (h : cy X own nm cc nL ret rm tab) {x : Int32} (hd : decode cc pc = .ok (.i2d, 1)) (kk : pw X cells slots S (pc + 1) vs (.double (FP.i2d x) :: st)) : pw X cells slots S pc vs (.int x :: st) := by
  obtain ⟨p, l, e, R, s, m, args, below, meth, c, A, G, Q⟩ := X
  obtain ⟨hx, hb, hr, hml, hown, hts, hlk, hR, htab, hK, hA, hsx, htx, hstk, hnm⟩ := h
  intro H locs ls hl hP hD hS
  exact lv_i2d hx hb hd (kk H locs ls hl hP hD hS)
theorem r_i2f (h : cy X own nm cc nL ret rm tab) {x : Int32} (hd : decode cc pc = .ok (.i2f, 1)) (kk : pw X cells slots S (pc + 1) vs (.float (FP.i2f x) :: st)) : pw X cells slots S pc vs (.int x :: st) := by
  obtain ⟨p, l, e, R, s, m, args, below, meth, c, A, G, Q⟩ := X
  obtain ⟨hx, hb, hr, hml, hown, hts, hlk, hR, htab, hK, hA, hsx, htx, hstk, hnm⟩ := h
  intro H locs ls hl hP hD hS
  exact lv_i2f hx hb hd (kk H locs ls hl hP hD hS)
theorem r_f2d (h : cy X own nm cc nL ret rm tab) {x : UInt32} (hne : vf_n64 (FP.f2d x)) (hd : decode cc pc = .ok (.f2d, 1)) (kk : pw X cells slots S (pc + 1) vs (.double (FP.f2d x) :: st)) : pw X cells slots S pc vs (.float x :: st) := by
  obtain ⟨p, l, e, R, s, m, args, below, meth, c, A, G, Q⟩ := X
  obtain ⟨hx, hb, hr, hml, hown, hts, hlk, hR, htab, hK, hA, hsx, htx, hstk, hnm⟩ := h
  intro H locs ls hl hP hD hS
  exact lv_f2d hx hb hd hne (kk H locs ls hl hP hD hS)
theorem r_ddiv (h : cy X own nm cc nL ret rm tab) {x y : UInt64} (hne : vf_n64 (FP.ddiv x y)) (hd : decode cc pc = .ok (.ddiv, 1)) (kk : pw X cells slots S (pc + 1) vs (.double (FP.ddiv x y) :: st)) : pw X cells slots S pc vs (.double y :: .double x :: st) := by
  obtain ⟨p, l, e, R, s, m, args, below, meth, c, A, G, Q⟩ := X
  obtain ⟨hx, hb, hr, hml, hown, hts, hlk, hR, htab, hK, hA, hsx, htx, hstk, hnm⟩ := h
  intro H locs ls hl hP hD hS
  exact lv_ddiv hx hb hd hne (kk H locs ls hl hP hD hS)
theorem r_fdiv (h : cy X own nm cc nL ret rm tab) {x y : UInt32} (hne : vf_n32 (FP.fdiv x y)) (hd : decode cc pc = .ok (.fdiv, 1)) (kk : pw X cells slots S (pc + 1) vs (.float (FP.fdiv x y) :: st)) : pw X cells slots S pc vs (.float y :: .float x :: st) := by
  obtain ⟨p, l, e, R, s, m, args, below, meth, c, A, G, Q⟩ := X
  obtain ⟨hx, hb, hr, hml, hown, hts, hlk, hR, htab, hK, hA, hsx, htx, hstk, hnm⟩ := h
  intro H locs ls hl hP hD hS
  exact lv_fdiv hx hb hd hne (kk H locs ls hl hP hD hS)
theorem r_dcmp (h : cy X own nm cc nL ret rm tab) {x y : UInt64} {op : CmpOp} (hd : decode cc pc = .ok (.dcmp op, 1)) (kk : pw X cells slots S (pc + 1) vs (.int (Op.cmpValue (FP.dcmp x y) op) :: st)) : pw X cells slots S pc vs (.double y :: .double x :: st) := by
  obtain ⟨p, l, e, R, s, m, args, below, meth, c, A, G, Q⟩ := X
  obtain ⟨hx, hb, hr, hml, hown, hts, hlk, hR, htab, hK, hA, hsx, htx, hstk, hnm⟩ := h
  intro H locs ls hl hP hD hS
  exact lv_dcmp hx hb hd (kk H locs ls hl hP hD hS)
theorem r_fcmp (h : cy X own nm cc nL ret rm tab) {x y : UInt32} {op : CmpOp} (hd : decode cc pc = .ok (.fcmp op, 1)) (kk : pw X cells slots S (pc + 1) vs (.int (Op.cmpValue (FP.fcmp x y) op) :: st)) : pw X cells slots S pc vs (.float y :: .float x :: st) := by
  obtain ⟨p, l, e, R, s, m, args, below, meth, c, A, G, Q⟩ := X
  obtain ⟨hx, hb, hr, hml, hown, hts, hlk, hR, htab, hK, hA, hsx, htx, hstk, hnm⟩ := h
  intro H locs ls hl hP hD hS
  exact lv_fcmp hx hb hd (kk H locs ls hl hP hD hS)
theorem r_lcmp (h : cy X own nm cc nL ret rm tab) {x y : Int64} (hd : decode cc pc = .ok (.lcmp, 1)) (kk : pw X cells slots S (pc + 1) vs (.int (lg_cmp x y) :: st)) : pw X cells slots S pc vs (.long y :: .long x :: st) := by
  obtain ⟨p, l, e, R, s, m, args, below, meth, c, A, G, Q⟩ := X
  obtain ⟨hx, hb, hr, hml, hown, hts, hlk, hR, htab, hK, hA, hsx, htx, hstk, hnm⟩ := h
  intro H locs ls hl hP hD hS
  exact W.lcmp hx hb hd (kk H locs ls hl hP hD hS)
theorem r_dup (h : cy X own nm cc nL ret rm tab) {v : Value} (hc : v.category = 1) (hd : decode cc pc = .ok (.dup, 1)) (kk : pw X cells slots S (pc + 1) vs (v :: v :: st)) : pw X cells slots S pc vs (v :: st) := by
  obtain ⟨p, l, e, R, s, m, args, below, meth, c, A, G, Q⟩ := X
  obtain ⟨hx, hb, hr, hml, hown, hts, hlk, hR, htab, hK, hA, hsx, htx, hstk, hnm⟩ := h
  intro H locs ls hl hP hD hS
  exact lv_dup hx hb hd hc (kk H locs ls hl hP hD hS)
theorem r_pop (h : cy X own nm cc nL ret rm tab) {v : Value} (hc : v.category = 1) (hd : decode cc pc = .ok (.pop, 1)) (kk : pw X cells slots S (pc + 1) vs st) : pw X cells slots S pc vs (v :: st) := by
  obtain ⟨p, l, e, R, s, m, args, below, meth, c, A, G, Q⟩ := X
  obtain ⟨hx, hb, hr, hml, hown, hts, hlk, hR, htab, hK, hA, hsx, htx, hstk, hnm⟩ := h
  intro H locs ls hl hP hD hS
  exact lv_pop hx hb hd hc (kk H locs ls hl hP hD hS)
theorem r_dup_x1 (h : cy X own nm cc nL ret rm tab) {v w : Value} (hc : v.category = 1) (hc2 : w.category = 1) (hd : decode cc pc = .ok (.dup_x1, 1)) (kk : pw X cells slots S (pc + 1) vs (v :: w :: v :: st)) : pw X cells slots S pc vs (v :: w :: st) := by
  obtain ⟨p, l, e, R, s, m, args, below, meth, c, A, G, Q⟩ := X
  obtain ⟨hx, hb, hr, hml, hown, hts, hlk, hR, htab, hK, hA, hsx, htx, hstk, hnm⟩ := h
  intro H locs ls hl hP hD hS
  exact lv_dup_x1 hx hb hd hc hc2 (kk H locs ls hl hP hD hS)
theorem r_dup2 (h : cy X own nm cc nL ret rm tab) {v w : Value} (hc : v.category = 1) (hc2 : w.category = 1) (hd : decode cc pc = .ok (.dup2, 1)) (kk : pw X cells slots S (pc + 1) vs (v :: w :: v :: w :: st)) : pw X cells slots S pc vs (v :: w :: st) := by
  obtain ⟨p, l, e, R, s, m, args, below, meth, c, A, G, Q⟩ := X
  obtain ⟨hx, hb, hr, hml, hown, hts, hlk, hR, htab, hK, hA, hsx, htx, hstk, hnm⟩ := h
  intro H locs ls hl hP hD hS
  exact lv_dup2_11 hx hb hd hc hc2 (kk H locs ls hl hP hD hS)
theorem r_if_eq (h : cy X own nm cc nL ret rm tab) {x : Int32} {off : Int} (tgt : Nat) (hd : decode cc pc = .ok (.ifCond .eq off, 3)) (ht : (pc : Int) + off = (tgt : Int)) (kt : x = 0 → pw X cells slots S tgt vs st) (kf : ¬ x = 0 → pw X cells slots S (pc + 3) vs st) : pw X cells slots S pc vs (.int x :: st) := by
  obtain ⟨p, l, e, R, s, m, args, below, meth, c, A, G, Q⟩ := X
  obtain ⟨hx, hb, hr, hml, hown, hts, hlk, hR, htab, hK, hA, hsx, htx, hstk, hnm⟩ := h
  intro H locs ls hl hP hD hS
  exact lv_if_eq hx hb hd ht (fun hc => kt hc H locs ls hl hP hD hS) (fun hc => kf hc H locs ls hl hP hD hS)
theorem r_if_ne (h : cy X own nm cc nL ret rm tab) {x : Int32} {off : Int} (tgt : Nat) (hd : decode cc pc = .ok (.ifCond .ne off, 3)) (ht : (pc : Int) + off = (tgt : Int)) (kt : ¬ x = 0 → pw X cells slots S tgt vs st) (kf : x = 0 → pw X cells slots S (pc + 3) vs st) : pw X cells slots S pc vs (.int x :: st) := by
  obtain ⟨p, l, e, R, s, m, args, below, meth, c, A, G, Q⟩ := X
  obtain ⟨hx, hb, hr, hml, hown, hts, hlk, hR, htab, hK, hA, hsx, htx, hstk, hnm⟩ := h
  intro H locs ls hl hP hD hS
  exact lv_if_ne hx hb hd ht (fun hc => kt hc H locs ls hl hP hD hS) (fun hc => kf hc H locs ls hl hP hD hS)
theorem r_if_lt (h : cy X own nm cc nL ret rm tab) {x : Int32} {off : Int} (tgt : Nat) (hd : decode cc pc = .ok (.ifCond .lt off, 3)) (ht : (pc : Int) + off = (tgt : Int)) (kt : x < 0 → pw X cells slots S tgt vs st) (kf : ¬ x < 0 → pw X cells slots S (pc + 3) vs st) : pw X cells slots S pc vs (.int x :: st) := by
  obtain ⟨p, l, e, R, s, m, args, below, meth, c, A, G, Q⟩ := X
  obtain ⟨hx, hb, hr, hml, hown, hts, hlk, hR, htab, hK, hA, hsx, htx, hstk, hnm⟩ := h
  intro H locs ls hl hP hD hS
  exact lv_if_lt hx hb hd ht (fun hc => kt hc H locs ls hl hP hD hS) (fun hc => kf hc H locs ls hl hP hD hS)
theorem r_if_ge (h : cy X own nm cc nL ret rm tab) {x : Int32} {off : Int} (tgt : Nat) (hd : decode cc pc = .ok (.ifCond .ge off, 3)) (ht : (pc : Int) + off = (tgt : Int)) (kt : 0 ≤ x → pw X cells slots S tgt vs st) (kf : ¬ 0 ≤ x → pw X cells slots S (pc + 3) vs st) : pw X cells slots S pc vs (.int x :: st) := by
  obtain ⟨p, l, e, R, s, m, args, below, meth, c, A, G, Q⟩ := X
  obtain ⟨hx, hb, hr, hml, hown, hts, hlk, hR, htab, hK, hA, hsx, htx, hstk, hnm⟩ := h
  intro H locs ls hl hP hD hS
  exact lv_if_ge hx hb hd ht (fun hc => kt hc H locs ls hl hP hD hS) (fun hc => kf hc H locs ls hl hP hD hS)
theorem r_if_gt (h : cy X own nm cc nL ret rm tab) {x : Int32} {off : Int} (tgt : Nat) (hd : decode cc pc = .ok (.ifCond .gt off, 3)) (ht : (pc : Int) + off = (tgt : Int)) (kt : 0 < x → pw X cells slots S tgt vs st) (kf : ¬ 0 < x → pw X cells slots S (pc + 3) vs st) : pw X cells slots S pc vs (.int x :: st) := by
  obtain ⟨p, l, e, R, s, m, args, below, meth, c, A, G, Q⟩ := X
  obtain ⟨hx, hb, hr, hml, hown, hts, hlk, hR, htab, hK, hA, hsx, htx, hstk, hnm⟩ := h
  intro H locs ls hl hP hD hS
  exact lv_if_gt hx hb hd ht (fun hc => kt hc H locs ls hl hP hD hS) (fun hc => kf hc H locs ls hl hP hD hS)
theorem r_if_le (h : cy X own nm cc nL ret rm tab) {x : Int32} {off : Int} (tgt : Nat) (hd : decode cc pc = .ok (.ifCond .le off, 3)) (ht : (pc : Int) + off = (tgt : Int)) (kt : x ≤ 0 → pw X cells slots S tgt vs st) (kf : ¬ x ≤ 0 → pw X cells slots S (pc + 3) vs st) : pw X cells slots S pc vs (.int x :: st) := by
  obtain ⟨p, l, e, R, s, m, args, below, meth, c, A, G, Q⟩ := X
  obtain ⟨hx, hb, hr, hml, hown, hts, hlk, hR, htab, hK, hA, hsx, htx, hstk, hnm⟩ := h
  intro H locs ls hl hP hD hS
  exact lv_if_le hx hb hd ht (fun hc => kt hc H locs ls hl hP hD hS) (fun hc => kf hc H locs ls hl hP hD hS)
theorem r_icmp_eq (h : cy X own nm cc nL ret rm tab) {x y : Int32} {off : Int} (tgt : Nat) (hd : decode cc pc = .ok (.if_icmp .eq off, 3)) (ht : (pc : Int) + off = (tgt : Int)) (kt : x = y → pw X cells slots S tgt vs st) (kf : ¬ x = y → pw X cells slots S (pc + 3) vs st) : pw X cells slots S pc vs (.int y :: .int x :: st) := by
  obtain ⟨p, l, e, R, s, m, args, below, meth, c, A, G, Q⟩ := X
  obtain ⟨hx, hb, hr, hml, hown, hts, hlk, hR, htab, hK, hA, hsx, htx, hstk, hnm⟩ := h
  intro H locs ls hl hP hD hS
  exact lv_icmp_eq hx hb hd ht (fun hc => kt hc H locs ls hl hP hD hS) (fun hc => kf hc H locs ls hl hP hD hS)
theorem r_icmp_ne (h : cy X own nm cc nL ret rm tab) {x y : Int32} {off : Int} (tgt : Nat) (hd : decode cc pc = .ok (.if_icmp .ne off, 3)) (ht : (pc : Int) + off = (tgt : Int)) (kt : ¬ x = y → pw X cells slots S tgt vs st) (kf : x = y → pw X cells slots S (pc + 3) vs st) : pw X cells slots S pc vs (.int y :: .int x :: st) := by
  obtain ⟨p, l, e, R, s, m, args, below, meth, c, A, G, Q⟩ := X
  obtain ⟨hx, hb, hr, hml, hown, hts, hlk, hR, htab, hK, hA, hsx, htx, hstk, hnm⟩ := h
  intro H locs ls hl hP hD hS
  exact lv_icmp_ne hx hb hd ht (fun hc => kt hc H locs ls hl hP hD hS) (fun hc => kf hc H locs ls hl hP hD hS)
theorem r_icmp_lt (h : cy X own nm cc nL ret rm tab) {x y : Int32} {off : Int} (tgt : Nat) (hd : decode cc pc = .ok (.if_icmp .lt off, 3)) (ht : (pc : Int) + off = (tgt : Int)) (kt : x < y → pw X cells slots S tgt vs st) (kf : ¬ x < y → pw X cells slots S (pc + 3) vs st) : pw X cells slots S pc vs (.int y :: .int x :: st) := by
  obtain ⟨p, l, e, R, s, m, args, below, meth, c, A, G, Q⟩ := X
  obtain ⟨hx, hb, hr, hml, hown, hts, hlk, hR, htab, hK, hA, hsx, htx, hstk, hnm⟩ := h
  intro H locs ls hl hP hD hS
  exact lv_icmp_lt hx hb hd ht (fun hc => kt hc H locs ls hl hP hD hS) (fun hc => kf hc H locs ls hl hP hD hS)
theorem r_icmp_ge (h : cy X own nm cc nL ret rm tab) {x y : Int32} {off : Int} (tgt : Nat) (hd : decode cc pc = .ok (.if_icmp .ge off, 3)) (ht : (pc : Int) + off = (tgt : Int)) (kt : y ≤ x → pw X cells slots S tgt vs st) (kf : ¬ y ≤ x → pw X cells slots S (pc + 3) vs st) : pw X cells slots S pc vs (.int y :: .int x :: st) := by
  obtain ⟨p, l, e, R, s, m, args, below, meth, c, A, G, Q⟩ := X
  obtain ⟨hx, hb, hr, hml, hown, hts, hlk, hR, htab, hK, hA, hsx, htx, hstk, hnm⟩ := h
  intro H locs ls hl hP hD hS
  exact lv_icmp_ge hx hb hd ht (fun hc => kt hc H locs ls hl hP hD hS) (fun hc => kf hc H locs ls hl hP hD hS)
theorem r_icmp_gt (h : cy X own nm cc nL ret rm tab) {x y : Int32} {off : Int} (tgt : Nat) (hd : decode cc pc = .ok (.if_icmp .gt off, 3)) (ht : (pc : Int) + off = (tgt : Int)) (kt : y < x → pw X cells slots S tgt vs st) (kf : ¬ y < x → pw X cells slots S (pc + 3) vs st) : pw X cells slots S pc vs (.int y :: .int x :: st) := by
  obtain ⟨p, l, e, R, s, m, args, below, meth, c, A, G, Q⟩ := X
  obtain ⟨hx, hb, hr, hml, hown, hts, hlk, hR, htab, hK, hA, hsx, htx, hstk, hnm⟩ := h
  intro H locs ls hl hP hD hS
  exact lv_icmp_gt hx hb hd ht (fun hc => kt hc H locs ls hl hP hD hS) (fun hc => kf hc H locs ls hl hP hD hS)
theorem r_icmp_le (h : cy X own nm cc nL ret rm tab) {x y : Int32} {off : Int} (tgt : Nat) (hd : decode cc pc = .ok (.if_icmp .le off, 3)) (ht : (pc : Int) + off = (tgt : Int)) (kt : x ≤ y → pw X cells slots S tgt vs st) (kf : ¬ x ≤ y → pw X cells slots S (pc + 3) vs st) : pw X cells slots S pc vs (.int y :: .int x :: st) := by
  obtain ⟨p, l, e, R, s, m, args, below, meth, c, A, G, Q⟩ := X
  obtain ⟨hx, hb, hr, hml, hown, hts, hlk, hR, htab, hK, hA, hsx, htx, hstk, hnm⟩ := h
  intro H locs ls hl hP hD hS
  exact lv_icmp_le hx hb hd ht (fun hc => kt hc H locs ls hl hP hD hS) (fun hc => kf hc H locs ls hl hP hD hS)
theorem r_goto (h : cy X own nm cc nL ret rm tab) {off : Int} (tgt : Nat) (hd : decode cc pc = .ok (.goto off, 3)) (ht : (pc : Int) + off = (tgt : Int)) (kk : pw X cells slots S tgt vs st) : pw X cells slots S pc vs st := by
  obtain ⟨p, l, e, R, s, m, args, below, meth, c, A, G, Q⟩ := X
  obtain ⟨hx, hb, hr, hml, hown, hts, hlk, hR, htab, hK, hA, hsx, htx, hstk, hnm⟩ := h
  intro H locs ls hl hP hD hS
  exact lv_goto hx hb hd ht (kk H locs ls hl hP hD hS)
theorem r_ifnull_R (h : cy X own nm cc nL ret rm tab) {x : Nat} {off : Int} (hd : decode cc pc = .ok (.ifnull off, 3)) (kk : pw X cells slots S (pc + 3) vs st) : pw X cells slots S pc vs (.ref x :: st) := by
  obtain ⟨p, l, e, R, s, m, args, below, meth, c, A, G, Q⟩ := X
  obtain ⟨hx, hb, hr, hml, hown, hts, hlk, hR, htab, hK, hA, hsx, htx, hstk, hnm⟩ := h
  intro H locs ls hl hP hD hS
  exact lv_ifnull hx hb hd (kk H locs ls hl hP hD hS)
theorem r_ifnull_N (h : cy X own nm cc nL ret rm tab) {off : Int} (tgt : Nat) (hd : decode cc pc = .ok (.ifnull off, 3)) (ht : (pc : Int) + off = (tgt : Int)) (kk : pw X cells slots S tgt vs st) : pw X cells slots S pc vs (.null :: st) := by
  obtain ⟨p, l, e, R, s, m, args, below, meth, c, A, G, Q⟩ := X
  obtain ⟨hx, hb, hr, hml, hown, hts, hlk, hR, htab, hK, hA, hsx, htx, hstk, hnm⟩ := h
  intro H locs ls hl hP hD hS
  exact lv_ifnullN hx hb hd ht (kk H locs ls hl hP hD hS)
theorem r_ifnonnull_R (h : cy X own nm cc nL ret rm tab) {x : Nat} {off : Int} (tgt : Nat) (hd : decode cc pc = .ok (.ifnonnull off, 3)) (ht : (pc : Int) + off = (tgt : Int)) (kk : pw X cells slots S tgt vs st) : pw X cells slots S pc vs (.ref x :: st) := by
  obtain ⟨p, l, e, R, s, m, args, below, meth, c, A, G, Q⟩ := X
  obtain ⟨hx, hb, hr, hml, hown, hts, hlk, hR, htab, hK, hA, hsx, htx, hstk, hnm⟩ := h
  intro H locs ls hl hP hD hS
  exact lv_ifnonnull hx hb hd ht (kk H locs ls hl hP hD hS)
theorem r_ifnonnull_N (h : cy X own nm cc nL ret rm tab) {off : Int} (hd : decode cc pc = .ok (.ifnonnull off, 3)) (kk : pw X cells slots S (pc + 3) vs st) : pw X cells slots S pc vs (.null :: st) := by
  obtain ⟨p, l, e, R, s, m, args, below, meth, c, A, G, Q⟩ := X
  obtain ⟨hx, hb, hr, hml, hown, hts, hlk, hR, htab, hK, hA, hsx, htx, hstk, hnm⟩ := h
  intro H locs ls hl hP hD hS
  exact lv_ifnonnullN hx hb hd (kk H locs ls hl hP hD hS)
theorem r_widen {k n : Nat} (h1 : cells ≤ k) (h2 : slots ≤ n) (kk : pw X k n S pc vs st) : pw X cells slots S pc vs st := by
  obtain ⟨p, l, e, R, s, m, args, below, meth, c, A, G, Q⟩ := X
  intro H locs ls hl hP hD hS
  exact W.widen h1 h2 (kk H locs ls hl hP hD hS)
theorem r_iret (h : cy X own nm cc nL ret rm tab) (hq : cq X mc ms post exc) {v : Int32} (hret : ret = some .int) (hp : post (some (.int v)) S) (hc : cells ≤ mc) (hs : slots ≤ ms) (hd : decode cc pc = .ok (.ireturn, 1)) : pw X cells slots S pc vs [.int v] := by
  obtain ⟨p, l, e, R, s, m, args, below, meth, c, A, G, Q⟩ := X
  obtain ⟨hx, hb, hr, hml, hown, hts, hlk, hR, htab, hK, hA, hsx, htx, hstk, hnm⟩ := h
  intro H locs ls hl hP hD hS
  have hQ : Q = _ := hq
  subst hQ
  exact vx_ret (W.widen hc hs (W.iret hx hb (hr.trans hret) (fun t ht hW => ⟨⟨_, S, rfl, hp, by rw [ht]; exact hP, hD⟩, hS.F ht⟩) hS.2.2 hd))
theorem r_zret (h : cy X own nm cc nL ret rm tab) (hq : cq X mc ms post exc) {v : Int32} {ty : FieldType} (hret : ret = some ty) (hn : narrow ty (.int v) = .int v) (hp : post (some (.int v)) S) (hc : cells ≤ mc) (hs : slots ≤ ms) (hd : decode cc pc = .ok (.ireturn, 1)) : pw X cells slots S pc vs [.int v] := by
  obtain ⟨p, l, e, R, s, m, args, below, meth, c, A, G, Q⟩ := X
  obtain ⟨hx, hb, hr, hml, hown, hts, hlk, hR, htab, hK, hA, hsx, htx, hstk, hnm⟩ := h
  intro H locs ls hl hP hD hS
  have hQ : Q = _ := hq
  subst hQ
  exact vx_ret (W.widen hc hs (W.zret hx hb (hr.trans hret) hn (fun t ht hW => ⟨⟨_, S, rfl, hp, by rw [ht]; exact hP, hD⟩, hS.F ht⟩) hS.2.2 hd))
theorem r_lret (h : cy X own nm cc nL ret rm tab) (hq : cq X mc ms post exc) {v : Int64} (hret : ret = some .long) (hp : post (some (.long v)) S) (hc : cells ≤ mc) (hs : slots ≤ ms) (hd : decode cc pc = .ok (.lreturn, 1)) : pw X cells slots S pc vs [.long v] := by
  obtain ⟨p, l, e, R, s, m, args, below, meth, c, A, G, Q⟩ := X
  obtain ⟨hx, hb, hr, hml, hown, hts, hlk, hR, htab, hK, hA, hsx, htx, hstk, hnm⟩ := h
  intro H locs ls hl hP hD hS
  have hQ : Q = _ := hq
  subst hQ
  exact vx_ret (W.widen hc hs (W.lret hx hb (hr.trans hret) (fun t ht hW => ⟨⟨_, S, rfl, hp, by rw [ht]; exact hP, hD⟩, hS.F ht⟩) hS.2.2 hd))
theorem r_dret (h : cy X own nm cc nL ret rm tab) (hq : cq X mc ms post exc) {v : UInt64} (hret : ret = some .double) (hp : post (some (.double v)) S) (hc : cells ≤ mc) (hs : slots ≤ ms) (hd : decode cc pc = .ok (.dreturn, 1)) : pw X cells slots S pc vs [.double v] := by
  obtain ⟨p, l, e, R, s, m, args, below, meth, c, A, G, Q⟩ := X
  obtain ⟨hx, hb, hr, hml, hown, hts, hlk, hR, htab, hK, hA, hsx, htx, hstk, hnm⟩ := h
  intro H locs ls hl hP hD hS
  have hQ : Q = _ := hq
  subst hQ
  exact vx_ret (W.widen hc hs (W.dret hx hb (hr.trans hret) (fun t ht hW => ⟨⟨_, S, rfl, hp, by rw [ht]; exact hP, hD⟩, hS.F ht⟩) hS.2.2 hd))
theorem r_fret (h : cy X own nm cc nL ret rm tab) (hq : cq X mc ms post exc) {v : UInt32} (hret : ret = some .float) (hp : post (some (.float v)) S) (hc : cells ≤ mc) (hs : slots ≤ ms) (hd : decode cc pc = .ok (.freturn, 1)) : pw X cells slots S pc vs [.float v] := by
  obtain ⟨p, l, e, R, s, m, args, below, meth, c, A, G, Q⟩ := X
  obtain ⟨hx, hb, hr, hml, hown, hts, hlk, hR, htab, hK, hA, hsx, htx, hstk, hnm⟩ := h
  intro H locs ls hl hP hD hS
  have hQ : Q = _ := hq
  subst hQ
  exact vx_ret (W.widen hc hs (W.fret hx hb (hr.trans hret) (fun t ht hW => ⟨⟨_, S, rfl, hp, by rw [ht]; exact hP, hD⟩, hS.F ht⟩) hS.2.2 hd))
theorem r_aret (h : cy X own nm cc nL ret rm tab) (hq : cq X mc ms post exc) {v : Nat} {rt : FieldType} (hret : ret = some rt) (hrt : (∃ n, rt = .object n) ∨ ∃ t, rt = .array t) (hp : post (some (.ref v)) S) (hc : cells ≤ mc) (hs : slots ≤ ms) (hd : decode cc pc = .ok (.areturn, 1)) : pw X cells slots S pc vs [.ref v] := by
  obtain ⟨p, l, e, R, s, m, args, below, meth, c, A, G, Q⟩ := X
  obtain ⟨hx, hb, hr, hml, hown, hts, hlk, hR, htab, hK, hA, hsx, htx, hstk, hnm⟩ := h
  intro H locs ls hl hP hD hS
  have hQ : Q = _ := hq
  subst hQ
  exact vx_ret (W.widen hc hs (W.aret hx hb (hr.trans hret) hrt (Or.inr ⟨_, rfl⟩) (fun t ht hW => ⟨⟨_, S, rfl, hp, by rw [ht]; exact hP, hD⟩, hS.F ht⟩) hS.2.2 hd))
theorem r_vret (h : cy X own nm cc nL ret rm tab) (hq : cq X mc ms post exc) (hret : ret = none) (hp : post none S) (hc : cells ≤ mc) (hs : slots ≤ ms) (hd : decode cc pc = .ok (.return_, 1)) : pw X cells slots S pc vs [] := by
  obtain ⟨p, l, e, R, s, m, args, below, meth, c, A, G, Q⟩ := X
  obtain ⟨hx, hb, hr, hml, hown, hts, hlk, hR, htab, hK, hA, hsx, htx, hstk, hnm⟩ := h
  intro H locs ls hl hP hD hS
  have hQ : Q = _ := hq
  subst hQ
  exact vx_ret (W.widen hc hs (W.vret hx hb (hr.trans hret) (fun t ht hW => ⟨⟨_, S, rfl, hp, by rw [ht]; exact hP, hD⟩, hS.F ht⟩) hS.2.2 hd))
end RW
