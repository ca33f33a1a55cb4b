section CW
theorem wPre_blind {G : GE} {S : St} {sz : Nat} {as : List Value} : FrameBlind (va_Pc as (wPre G S sz)) := by
  intro a U g mk hq
  obtain ⟨e, h1, h2, h3, h4, h5, h6⟩ := hq
  exact ⟨e, h1, h2, va_K.moved (u := U) (U := U.calling g mk a) (Vm.Alike.refl U.vm) h3, h4, sx_moved (u := U) (U := U.calling g mk a) (Vm.Alike.refl U.vm) h5, tx_same (u := U) (U := U.calling g mk a) rfl h6⟩
theorem pl_sub {y : YE} {S : St} {A : Nat → Prop} {H0 H : Heap} {locs : List Loc} (hD : va_D A (pl y S)) (hS : va_S A H0 H locs) (hA : ∀ q : Nat, H0.size ≤ q → A q) : ∀ q, va_A (pl y S) H.size q → A q := by
  intro q hq
  rcases hq with ⟨k, e, h⟩ | h
  · exact hD.2 k _ h
  · exact hA q (Nat.le_trans hS.1 h)
theorem wPre_of {G : GE} {S : St} {as : List Value} {s : State} {A : Nat → Prop} {H : Heap} {locs : List Loc} (hK : va_K G.1 kC (tys G.2.1) s) (hA : ∀ q : Nat, s.heap.size ≤ q → A q) (hsx : sx G.2.2.1 A s s.heap) (htx : tx G.2.2.2 s) (hP : wP G S H) (hD : va_D A (pl G.2.1 S)) (hS : va_S A s.heap H locs) : ∀ U : State, U.heap = H → s.WarmedH U.vm → va_Pc as (wPre G S H.size) as.toArray U := by
  intro U hU hW
  subst hU
  exact ⟨rfl, rfl, hP, va_K.moved hW.alike hK, hD.weaken (fun _ _ _ _ => trivial), sx_moved hW.alike (sx_narrow (sx_kept hsx hS.2.1) (pl_sub hD hS hA)), tx_warm hW htx⟩
theorem call_go {p : Program} {l : Launch} {e : Env} {R : Room} {s : State} {m : MethodId} {args : Array Value} {below : List Frame} {meth : Method} {c : Code} {H : Heap} {locs : List Loc} {cells slots mc ms : Nat} {Q : State → Prop} {pc : Nat} {ls : Array Slot} {st0 rest : List Value} {G : GE} {post : Option Value → St → Prop} {exc : String → St → Prop} {A0 A1 : Nat → Prop} {a : Array Value}
    (hr : vx_Run p l e R s m args below meth c H locs cells slots mc ms (F0 m pc ls st0) rest (wQ G post A1 a) (wX G exc A1) A1) (hS : va_S A0 s.heap H locs) (hA : ∀ q, A1 q → A0 q)
    (kx : ∀ (E : String) (S' : St) (H1 : Heap) (locs1 : List Loc) (q9 : Nat) (ce : Cell), exc E S' → wP G S' H1 → va_D A0 (pl G.2.1 S') → va_S A0 s.heap H1 locs1 → H1[q9]? = some ce → ce.vm = .none → s.vm.findClass E = some ce.cls → vx_W p l e R s m args below meth c H1 locs1 (cells + mc) (slots + ms) Q (F0 m pc ls rest) q9)
    (kk : ∀ (v : Option Value) (S' : St) (H1 : Heap) (locs1 : List Loc), post v S' → wP G S' H1 → va_D A0 (pl G.2.1 S') → va_S A0 s.heap H1 locs1 → W p l e R s m args below meth c H1 locs1 (cells + mc) (slots + ms) Q (F0 m (pc + 3) ls (v.toList ++ rest))) :
    W p l e R s m args below meth c H locs cells slots Q (F0 m pc ls st0) := by
  intro T hT X
  rcases hr T hT X with ⟨v, st₀, t, T', L, h0, X', hL, e1, e2, ⟨⟨v', S', hv, hp, hPt, hDt⟩, hF⟩, st⟩ | ⟨q, st₀, t, T', L, E, ce, h0, X', hL, e1, e2, ⟨⟨S', hp, hPt, hDt⟩, hF⟩, hce, hcv, hcl, st⟩
  · cases hv
    obtain ⟨k1, k2, k3⟩ := vx_keep h0 e1 hS (fun q _ h => hA q h) hA hL hF
    obtain ⟨t2, a1, b1⟩ := kk v S' T'.heap _ hp (by rw [e1]; exact hPt) (hDt.weaken (fun _ _ _ h => hA _ h)) k3 T' rfl X'
    exact ⟨t2, st t2 a1, b1⟩
  · obtain ⟨k1, k2, k3⟩ := vx_keep h0 e1 hS (fun q _ h => hA q h) hA hL hF
    obtain ⟨t2, a1, b1⟩ := kx E S' T'.heap _ q ce hp (by rw [e1]; exact hPt) (hDt.weaken (fun _ _ _ h => hA _ h)) k3 (by rw [e1]; exact hce) hcv hcl T' rfl X'
    exact ⟨t2, st.trans a1, b1⟩
theorem goodTB {w0 : Cond} {pre : List Cond} (h : ∀ w ∈ pre, w ∈ TB) (h0 : w0 ∈ TB) : GoodIn TB (pre ++ (w0 :: TB)) := by
  intro w hw
  have hm : w ∈ TB := by
    rcases List.mem_append.mp hw with h1 | h1
    · exact h w h1
    · rcases List.mem_cons.mp h1 with h2 | h2
      · rw [h2]; exact h0
      · exact h2
  exact ⟨hm, good_of_word (TB_good hm)⟩
variable {X : XE} {own nm : String} {cc : ByteArray} {nL : Nat} {ret : Option FieldType} {rm : Room} {tab : List (Nat × Nat × Nat × Nat)} {mc ms : Nat} {post : Option Value → St → Prop} {exc : String → St → Prop} {cells slots : Nat} {S : St} {pc : Nat} {vs : List (Nat × Value)} {st : List Value}
variable {y' : MethodName} {index n : Nat} {bytes : ByteArray} {maxL : Nat} {ret' : Option FieldType} {rm' : Room} {mc' ms' : Nat} {as : List Value} {b ci : Nat} {r : vw_C} {stk : List Value} {post' : Option Value → St → Prop} {exc' : String → St → Prop} {host : String} {hh : List (Nat × Nat × Nat × Nat)}
def notMH (y' : MethodName) (n : Nat) : Prop := y'.cls ≠ "java/lang/invoke/MethodHandle" ∧ y'.cls ≠ "java/lang/invoke/VarHandle" ∧ (parseMethodDescriptor y'.desc).map (fun d => d.parameters.length) = some n
theorem r_callV (h : cy X own nm cc nL ret rm tab) (hM : ∀ l, Ct l y' (.code y' bytes maxL ret') rm' mc' ms' S (.ref b :: as) post' exc')
    (q1 : Cond.methodLink own index y' ∈ TB) (q2 : Cond.instanceMethod y' ∈ TB) (q3 : Cond.selects y'.cls y' y' ∈ TB) (q4 : Cond.initialized y'.cls ∈ TB) (q5 : Cond.code y' bytes maxL ret' ∈ TB) (hd0 : notMH y' n)
    (hR' : rm'.frames + 1 ≤ rm.frames ∧ 8 + (maxL + 11) + rm'.locals ≤ rm.locals) (hrc : rm'.cells = mc') (hrs : rm'.slots = ms') (hcs : cells + mc' ≤ rm.cells ∧ slots + ms' ≤ rm.slots)
    (hci : kC[ci]? = some r) (hcn : r.1 = y'.cls) (hbk : ok S b ci) (hn : as.length = n) (hsum : (st.map fun v => v.category).sum ≤ 8) (hst : stk = as.reverse ++ .ref b :: st) (hd : decode cc pc = .ok (.invokevirtual index, 3))
    (kx : ∀ E S', exc' E S' → px X (cells + mc') (slots + ms') S' pc vs st E)
    (kk : ∀ v S', post' v S' → pw X (cells + mc') (slots + ms') S' (pc + 3) vs (v.toList ++ st)) : pw X cells slots S pc vs stk := by
  obtain ⟨p, l, e, R, s, m, args, below, meth, c, A, G, Q⟩ := X
  obtain ⟨hx, hb, hr, hml, hown, hts, hlk, hR, htab, hK, hA, hsx, htx, hstk, hnm⟩ := h
  intro H locs ls hl hP hD hS
  subst hst hR
  have cw := cwV (R := R) (s := s) (args := args) n hts (goodTB (pre := [.methodLink own index y', .instanceMethod y', .selects y'.cls y' y', .initialized y'.cls]) (by simp [q1, q2, q3, q4]) q5) rfl hrc hrs ⟨rfl, hd0⟩ hR'
  obtain ⟨q0, hq⟩ := pl_get (y := G.2.1) hbk.1 (pE_o G.2.1 hbk.2 (kC_lt hci))
  have hrun := vx_runV (cells := cells) (slots := slots) (locs := locs) (below := below) (meth := meth) (l := l) (e := e) (g := F0 m pc ls (as.reverse ++ .ref b :: st)) (rest := st) ⟨hx, hb, hml, hown, hts⟩ (hM l hstk G H.size) cw ⟨wPre_blind, hcn ▸ va_recv hK hP.1 hci hq, wPre_of hK hA hsx htx hP hD hS⟩ rfl hn (hl.1.trans hml) rfl (lv_room (rest := (as.reverse ++ .ref b :: st)) hsum) hd hcs
  exact call_go hrun hS (pl_sub hD hS hA) (fun E S' H1 locs1 q9 ce he h1 h2 h3 h4 h5 h6 => kx E S' he H1 locs1 ls q9 ce hl h1 h2 h3 h4 h5 h6) (fun v S' H1 locs1 hp h1 h2 h3 => kk v S' hp H1 locs1 ls hl h1 h2 h3)
theorem r_callVN (h : cy X own nm cc nL ret rm tab) (hM : ∀ l, Ct l y' (.code y' bytes maxL ret') rm' mc' ms' S (.ref b :: as) post' exc')
    (q1 : Cond.methodLinkNest own index y' host ∈ NW) (q2 : Cond.instanceMethod y' ∈ TB) (q3 : Cond.selects y'.cls y' y' ∈ TB) (q4 : Cond.initialized y'.cls ∈ TB) (q5 : Cond.code y' bytes maxL ret' ∈ TB) (hd0 : notMH y' n)
    (hR' : rm'.frames + 1 ≤ rm.frames ∧ 8 + (maxL + 11) + rm'.locals ≤ rm.locals) (hrc : rm'.cells = mc') (hrs : rm'.slots = ms') (hcs : cells + mc' ≤ rm.cells ∧ slots + ms' ≤ rm.slots)
    (hci : kC[ci]? = some r) (hcn : r.1 = y'.cls) (hbk : ok S b ci) (hn : as.length = n) (hsum : (st.map fun v => v.category).sum ≤ 8) (hst : stk = as.reverse ++ .ref b :: st) (hd : decode cc pc = .ok (.invokevirtual index, 3))
    (kx : ∀ E S', exc' E S' → px X (cells + mc') (slots + ms') S' pc vs st E)
    (kk : ∀ v S', post' v S' → pw X (cells + mc') (slots + ms') S' (pc + 3) vs (v.toList ++ st)) : pw X cells slots S pc vs stk := by
  obtain ⟨p, l, e, R, s, m, args, below, meth, c, A, G, Q⟩ := X
  obtain ⟨hx, hb, hr, hml, hown, hts, hlk, hR, htab, hK, hA, hsx, htx, hstk, hnm⟩ := h
  intro H locs ls hl hP hD hS
  subst hst hR
  have cw := va_cnB (R := R) (s := s) (args := args) (own := own) (index := index) (host := host) (Ts := TB) n hts (goodTB (pre := []) (by simp) q5) rfl hrc hrs (htx.1 _ q1) (hts _ q4) hd0 hR'
  obtain ⟨q0, hq⟩ := pl_get (y := G.2.1) hbk.1 (pE_o G.2.1 hbk.2 (kC_lt hci))
  have hrun := vx_runVN (C := y'.cls) (cells := cells) (slots := slots) (locs := locs) (below := below) (meth := meth) (l := l) (e := e) (g := F0 m pc ls (as.reverse ++ .ref b :: st)) (rest := st) ⟨hx, hb, hml, hown, hts⟩ (hM l hstk G H.size) ⟨cw, hts _ q2, hts _ q3⟩ ⟨wPre_blind, hcn ▸ va_recv hK hP.1 hci hq, wPre_of hK hA hsx htx hP hD hS⟩ rfl hn (hl.1.trans hml) rfl (lv_room (rest := (as.reverse ++ .ref b :: st)) hsum) hd hcs
  exact call_go hrun hS (pl_sub hD hS hA) (fun E S' H1 locs1 q9 ce he h1 h2 h3 h4 h5 h6 => kx E S' he H1 locs1 ls q9 ce hl h1 h2 h3 h4 h5 h6) (fun v S' H1 locs1 hp h1 h2 h3 => kk v S' hp H1 locs1 ls hl h1 h2 h3)
theorem r_callS (h : cy X own nm cc nL ret rm tab) (hM : ∀ l, Ct l y' (.code y' bytes maxL ret') rm' mc' ms' S as post' exc')
    (q1 : Cond.methodLink own index y' ∈ TB) (q2 : Cond.static y' ∈ TB) (q4 : Cond.initialized y'.cls ∈ TB) (q5 : Cond.code y' bytes maxL ret' ∈ TB) (hd0 : notMH y' n)
    (hR' : rm'.frames + 1 ≤ rm.frames ∧ 8 + (maxL + 11) + rm'.locals ≤ rm.locals) (hrc : rm'.cells = mc') (hrs : rm'.slots = ms') (hcs : cells + mc' ≤ rm.cells ∧ slots + ms' ≤ rm.slots)
    (hn : as.length = n) (hsum : (st.map fun v => v.category).sum ≤ 8) (hst : stk = as.reverse ++ st) (hd : decode cc pc = .ok (.invokestatic index, 3))
    (kx : ∀ E S', exc' E S' → px X (cells + mc') (slots + ms') S' pc vs st E)
    (kk : ∀ v S', post' v S' → pw X (cells + mc') (slots + ms') S' (pc + 3) vs (v.toList ++ st)) : pw X cells slots S pc vs stk := by
  obtain ⟨p, l, e, R, s, m, args, below, meth, c, A, G, Q⟩ := X
  obtain ⟨hx, hb, hr, hml, hown, hts, hlk, hR, htab, hK, hA, hsx, htx, hstk, hnm⟩ := h
  intro H locs ls hl hP hD hS
  subst hst hR
  have cw := va_cwS (R := R) (s := s) (args := args) (own := own) (index := index) (Ts := TB) n hts (goodTB (pre := [.methodLink own index y', .static y', .initialized y'.cls]) (by simp [q1, q2, q4]) q5) rfl hrc hrs hd0 hR'
  have hrun := vx_runS (cells := cells) (slots := slots) (locs := locs) (below := below) (meth := meth) (l := l) (e := e) (g := F0 m pc ls (as.reverse ++ st)) (rest := st) ⟨hx, hb, hml, hown, hts⟩ (hM l hstk G H.size) cw ⟨wPre_blind, wPre_of hK hA hsx htx hP hD hS⟩ rfl hn (hl.1.trans hml) rfl (lv_room (rest := (as.reverse ++ st)) hsum) hd hcs
  exact call_go hrun hS (pl_sub hD hS hA) (fun E S' H1 locs1 q9 ce he h1 h2 h3 h4 h5 h6 => kx E S' he H1 locs1 ls q9 ce hl h1 h2 h3 h4 h5 h6) (fun v S' H1 locs1 hp h1 h2 h3 => kk v S' hp H1 locs1 ls hl h1 h2 h3)
theorem r_callSN (h : cy X own nm cc nL ret rm tab) (hM : ∀ l, Ct l y' (.code y' bytes maxL ret') rm' mc' ms' S as post' exc')
    (q1 : Cond.methodLinkNest own index y' host ∈ NW) (q2 : Cond.static y' ∈ TB) (q4 : Cond.initialized y'.cls ∈ TB) (q5 : Cond.code y' bytes maxL ret' ∈ TB) (hd0 : notMH y' n)
    (hR' : rm'.frames + 1 ≤ rm.frames ∧ 8 + (maxL + 11) + rm'.locals ≤ rm.locals) (hrc : rm'.cells = mc') (hrs : rm'.slots = ms') (hcs : cells + mc' ≤ rm.cells ∧ slots + ms' ≤ rm.slots)
    (hn : as.length = n) (hsum : (st.map fun v => v.category).sum ≤ 8) (hst : stk = as.reverse ++ st) (hd : decode cc pc = .ok (.invokestatic index, 3))
    (kx : ∀ E S', exc' E S' → px X (cells + mc') (slots + ms') S' pc vs st E)
    (kk : ∀ v S', post' v S' → pw X (cells + mc') (slots + ms') S' (pc + 3) vs (v.toList ++ st)) : pw X cells slots S pc vs stk := by
  obtain ⟨p, l, e, R, s, m, args, below, meth, c, A, G, Q⟩ := X
  obtain ⟨hx, hb, hr, hml, hown, hts, hlk, hR, htab, hK, hA, hsx, htx, hstk, hnm⟩ := h
  intro H locs ls hl hP hD hS
  subst hst hR
  have cw := va_cnB (R := R) (s := s) (args := args) (own := own) (index := index) (host := host) (Ts := TB) n hts (goodTB (pre := []) (by simp) q5) rfl hrc hrs (htx.1 _ q1) (hts _ q4) hd0 hR'
  have hrun := vx_runSN (cells := cells) (slots := slots) (locs := locs) (below := below) (meth := meth) (l := l) (e := e) (g := F0 m pc ls (as.reverse ++ st)) (rest := st) ⟨hx, hb, hml, hown, hts⟩ (hM l hstk G H.size) ⟨cw, hts _ q2, trivial⟩ ⟨wPre_blind, wPre_of hK hA hsx htx hP hD hS⟩ rfl hn (hl.1.trans hml) rfl (lv_room (rest := (as.reverse ++ st)) hsum) hd hcs
  exact call_go hrun hS (pl_sub hD hS hA) (fun E S' H1 locs1 q9 ce he h1 h2 h3 h4 h5 h6 => kx E S' he H1 locs1 ls q9 ce hl h1 h2 h3 h4 h5 h6) (fun v S' H1 locs1 hp h1 h2 h3 => kk v S' hp H1 locs1 ls hl h1 h2 h3)
theorem r_callI (h : cy X own nm cc nL ret rm tab) (hM : ∀ l, Ct l y' (.code y' bytes maxL none) rm' mc' ms' S (.ref b :: as) post' exc')
    (q1 : Cond.methodLink own index y' ∈ TB) (q2 : Cond.instanceMethod y' ∈ TB) (q4 : Cond.initialized y'.cls ∈ TB) (q5 : Cond.code y' bytes maxL none ∈ TB) (hd0 : notMH y' n) (hi0 : y'.name = "<init>")
    (hR' : rm'.frames + 1 ≤ rm.frames ∧ 8 + (maxL + 11) + rm'.locals ≤ rm.locals) (hrc : rm'.cells = mc') (hrs : rm'.slots = ms') (hcs : cells + mc' ≤ rm.cells ∧ slots + ms' ≤ rm.slots)
    (hn : as.length = n) (hsum : (st.map fun v => v.category).sum ≤ 8) (hst : stk = as.reverse ++ .ref b :: st) (hd : decode cc pc = .ok (.invokespecial index, 3))
    (kx : ∀ E S', exc' E S' → px X (cells + mc') (slots + ms') S' pc vs st E)
    (kk : ∀ v S', post' v S' → pw X (cells + mc') (slots + ms') S' (pc + 3) vs (v.toList ++ st)) : pw X cells slots S pc vs stk := by
  obtain ⟨p, l, e, R, s, m, args, below, meth, c, A, G, Q⟩ := X
  obtain ⟨hx, hb, hr, hml, hown, hts, hlk, hR, htab, hK, hA, hsx, htx, hstk, hnm⟩ := h
  intro H locs ls hl hP hD hS
  subst hst hR
  have cw := cwI (R := R) (s := s) (args := args) (own := own) (index := index) (Ts := TB) n hts (goodTB (pre := []) (by simp) q5) rfl hrc hrs (hts _ q4) (hts _ q1) (hts _ q2) hi0 hd0 hR'
  have hrun := vx_runI (cells := cells) (slots := slots) (locs := locs) (below := below) (meth := meth) (l := l) (e := e) (g := F0 m pc ls (as.reverse ++ .ref b :: st)) (rest := st) ⟨hx, hb, hml, hown, hts⟩ (hM l hstk G H.size) cw ⟨wPre_blind, wPre_of hK hA hsx htx hP hD hS⟩ rfl hn (hl.1.trans hml) rfl (lv_room (rest := (as.reverse ++ .ref b :: st)) hsum) hd hcs
  exact call_go hrun hS (pl_sub hD hS hA) (fun E S' H1 locs1 q9 ce he h1 h2 h3 h4 h5 h6 => kx E S' he H1 locs1 ls q9 ce hl h1 h2 h3 h4 h5 h6) (fun v S' H1 locs1 hp h1 h2 h3 => kk v S' hp H1 locs1 ls hl h1 h2 h3)
theorem r_callIN (h : cy X own nm cc nL ret rm tab) (hM : ∀ l, Ct l y' (.code y' bytes maxL none) rm' mc' ms' S (.ref b :: as) post' exc')
    (q1 : Cond.methodLinkNest own index y' host ∈ NW) (q2 : Cond.instanceMethod y' ∈ TB) (q4 : Cond.initialized y'.cls ∈ TB) (q5 : Cond.code y' bytes maxL none ∈ TB) (hd0 : notMH y' n) (hi0 : y'.name = "<init>")
    (hR' : rm'.frames + 1 ≤ rm.frames ∧ 8 + (maxL + 11) + rm'.locals ≤ rm.locals) (hrc : rm'.cells = mc') (hrs : rm'.slots = ms') (hcs : cells + mc' ≤ rm.cells ∧ slots + ms' ≤ rm.slots)
    (hn : as.length = n) (hsum : (st.map fun v => v.category).sum ≤ 8) (hst : stk = as.reverse ++ .ref b :: st) (hd : decode cc pc = .ok (.invokespecial index, 3))
    (kx : ∀ E S', exc' E S' → px X (cells + mc') (slots + ms') S' pc vs st E)
    (kk : ∀ v S', post' v S' → pw X (cells + mc') (slots + ms') S' (pc + 3) vs (v.toList ++ st)) : pw X cells slots S pc vs stk := by
  obtain ⟨p, l, e, R, s, m, args, below, meth, c, A, G, Q⟩ := X
  obtain ⟨hx, hb, hr, hml, hown, hts, hlk, hR, htab, hK, hA, hsx, htx, hstk, hnm⟩ := h
  intro H locs ls hl hP hD hS
  subst hst hR
  have cw := va_cnB (R := R) (s := s) (args := args) (own := own) (index := index) (host := host) (Ts := TB) n hts (goodTB (pre := []) (by simp) q5) rfl hrc hrs (htx.1 _ q1) (hts _ q4) hd0 hR'
  have hrun := vx_runIN (cells := cells) (slots := slots) (locs := locs) (below := below) (meth := meth) (l := l) (e := e) (g := F0 m pc ls (as.reverse ++ .ref b :: st)) (rest := st) ⟨hx, hb, hml, hown, hts⟩ (hM l hstk G H.size) ⟨cw, hi0, hts _ q2⟩ ⟨wPre_blind, wPre_of hK hA hsx htx hP hD hS⟩ rfl hn (hl.1.trans hml) rfl (lv_room (rest := (as.reverse ++ .ref b :: st)) hsum) hd hcs
  exact call_go hrun hS (pl_sub hD hS hA) (fun E S' H1 locs1 q9 ce he h1 h2 h3 h4 h5 h6 => kx E S' he H1 locs1 ls q9 ce hl h1 h2 h3 h4 h5 h6) (fun v S' H1 locs1 hp h1 h2 h3 => kk v S' hp H1 locs1 ls hl h1 h2 h3)
/-- a static method that has an exception table of its own -/
theorem r_callSW (h : cy X own nm cc nL ret rm tab) (hM : ∀ l, Ct l y' (.codeWith y' bytes maxL ret' hh) rm' mc' ms' S as post' exc')
    (q1 : Cond.methodLink own index y' ∈ TB) (q2 : Cond.static y' ∈ TB) (q4 : Cond.initialized y'.cls ∈ TB) (q5 : Cond.codeWith y' bytes maxL ret' hh ∈ TB) (hd0 : notMH y' n)
    (hR' : rm'.frames + 1 ≤ rm.frames ∧ 8 + (maxL + 11) + rm'.locals ≤ rm.locals) (hrc : rm'.cells = mc') (hrs : rm'.slots = ms') (hcs : cells + mc' ≤ rm.cells ∧ slots + ms' ≤ rm.slots)
    (hn : as.length = n) (hsum : (st.map fun v => v.category).sum ≤ 8) (hst : stk = as.reverse ++ st) (hd : decode cc pc = .ok (.invokestatic index, 3))
    (kx : ∀ E S', exc' E S' → px X (cells + mc') (slots + ms') S' pc vs st E)
    (kk : ∀ v S', post' v S' → pw X (cells + mc') (slots + ms') S' (pc + 3) vs (v.toList ++ st)) : pw X cells slots S pc vs stk := by
  obtain ⟨p, l, e, R, s, m, args, below, meth, c, A, G, Q⟩ := X
  obtain ⟨hx, hb, hr, hml, hown, hts, hlk, hR, htab, hK, hA, hsx, htx, hstk, hnm⟩ := h
  intro H locs ls hl hP hD hS
  subst hst hR
  have cw := vx_cwSW (R := R) (s := s) (args := args) (own := own) (index := index) (Ts := TB) n hts (goodTB (pre := [.methodLink own index y', .static y', .initialized y'.cls]) (by simp [q1, q2, q4]) q5) rfl hrc hrs hd0 hR'
  have hrun := vx_runSX (cells := cells) (slots := slots) (locs := locs) (below := below) (meth := meth) (l := l) (e := e) (g := F0 m pc ls (as.reverse ++ st)) (rest := st) ⟨hx, hb, hml, hown, hts⟩ (hM l hstk G H.size) cw ⟨wPre_blind, wPre_of hK hA hsx htx hP hD hS⟩ rfl hn (hl.1.trans hml) rfl (lv_room (rest := (as.reverse ++ st)) hsum) hd hcs
  exact call_go hrun hS (pl_sub hD hS hA) (fun E S' H1 locs1 q9 ce he h1 h2 h3 h4 h5 h6 => kx E S' he H1 locs1 ls q9 ce hl h1 h2 h3 h4 h5 h6) (fun v S' H1 locs1 hp h1 h2 h3 => kk v S' hp H1 locs1 ls hl h1 h2 h3)
/-! Object() -/
theorem r_objInit (h : cy X own nm cc nL ret rm tab) {a : Nat} (q1 : Cond.methodLink own index Lib.objectInit ∈ TB) (q2 : Cond.instanceMethod Lib.objectInit ∈ TB) (q3 : Cond.code Lib.objectInit ⟨#[0xb1]⟩ 1 none ∈ TB) (hf : 1 ≤ rm.frames) (hlo : (st.map fun v => v.category).sum + 12 ≤ rm.locals) (hd : decode cc pc = .ok (.invokespecial index, 3)) (kk : pw X cells slots S (pc + 3) vs st) : pw X cells slots S pc vs (.ref a :: st) := by
  obtain ⟨p, l, e, R, s, m, args, below, meth, c, A, G, Q⟩ := X
  obtain ⟨hx, hb, hr, hml, hown, hts, hlk, hR, htab, hK, hA, hsx, htx, hstk, hnm⟩ := h
  intro H locs ls hl hP hD hS
  subst hR
  exact W.objInit hx hb hown (hts _ q1) (hts _ q2) (hts _ q3) rfl hl.1 rfl hd hf (by show 2 * 0 + _ + 12 ≤ _; omega) (kk H locs ls hl hP hD hS)
/-! Math.max, Math.min -/
theorem r_max (h : cy X own nm cc nL ret rm tab) {x z : Int32} (q1 : Cond.methodLink own index Lib.Math.max.name ∈ TB) (q2 : Cond.static Lib.Math.max.name ∈ TB) (q3 : Cond.initialized "java/lang/Math" ∈ TB) (q4 : Cond.code Lib.Math.max.name Lib.Math.max.code 2 (some .int) ∈ TB) (hf : 1 ≤ rm.frames) (hlo : (st.map fun v => v.category).sum + 13 ≤ rm.locals) (hc : cells ≤ rm.cells) (hs : slots ≤ rm.slots) (hd : decode cc pc = .ok (.invokestatic index, 3)) (kk : pw X cells slots S (pc + 3) vs (.int (if x < z then z else x) :: st)) : pw X cells slots S pc vs (.int z :: .int x :: st) := by
  obtain ⟨p, l, e, R, s, m, args, below, meth, c, A, G, Q⟩ := X
  obtain ⟨hx, hb, hr, hml, hown, hts, hlk, hR, htab, hK, hA, hsx, htx, hstk, hnm⟩ := h
  intro H locs ls hl hP hD hS
  subst hR
  exact va_mmax hx hb hl.1.symm hown (hts _ q1) (hts _ q2) (hts _ q3) (hts _ q4) hf hlo hc hs hd (kk H locs ls hl hP hD hS)
theorem r_min (h : cy X own nm cc nL ret rm tab) {x z : Int32} (q1 : Cond.methodLink own index Lib.Math.min.name ∈ TB) (q2 : Cond.static Lib.Math.min.name ∈ TB) (q3 : Cond.initialized "java/lang/Math" ∈ TB) (q4 : Cond.code Lib.Math.min.name Lib.Math.min.code 2 (some .int) ∈ TB) (hf : 1 ≤ rm.frames) (hlo : (st.map fun v => v.category).sum + 13 ≤ rm.locals) (hc : cells ≤ rm.cells) (hs : slots ≤ rm.slots) (hd : decode cc pc = .ok (.invokestatic index, 3)) (kk : pw X cells slots S (pc + 3) vs (.int (if z < x then z else x) :: st)) : pw X cells slots S pc vs (.int z :: .int x :: st) := by
  obtain ⟨p, l, e, R, s, m, args, below, meth, c, A, G, Q⟩ := X
  obtain ⟨hx, hb, hr, hml, hown, hts, hlk, hR, htab, hK, hA, hsx, htx, hstk, hnm⟩ := h
  intro H locs ls hl hP hD hS
  subst hR
  exact va_mmin hx hb hl.1.symm hown (hts _ q1) (hts _ q2) (hts _ q3) (hts _ q4) hf hlo hc hs hd (kk H locs ls hl hP hD hS)
/-! exceptions that leave -/
theorem r_out (h : cy X own nm cc nL ret rm []) (hq : cq X mc ms post exc) {E : String} (he : exc E S) (hc : cells ≤ mc) (hs : slots ≤ ms) : px X cells slots S pc vs st E := by
  obtain ⟨p, l, e, R, s, m, args, below, meth, c, A, G, Q⟩ := X
  obtain ⟨hx, hb, hr, hml, hown, hts, hlk, hR, htab, hK, hA, hsx, htx, hstk, hnm⟩ := h
  intro H locs ls q ce hl hP hD hS h4 h5 h6
  have hQ : Q = _ := hq
  subst hQ
  exact vx_out (by rw [htab]; intro x hx; cases hx) hlk h4 h5 h6 (fun t ht _ => ⟨⟨S, he, by rw [ht]; exact hP, hD⟩, hS.F ht⟩) hS.2.2 hc hs
theorem vx_kept {G : GE} {A : Nat → Prop} {S : St} {H0 H H1 : Heap} {locs : List Loc} (hP : wP G S H) (hS : va_S A H0 H locs) (h1 : H.size ≤ H1.size) (h2 : ∀ q : Nat, q < H.size → H1[q]? = H[q]?) : wP G S H1 ∧ va_S A H0 H1 locs :=
  ⟨⟨hP.1.kept (fun k q hk => h2 _ ((hP.1 k q hk).lt)), hP.2⟩, Nat.le_trans hS.1 h1, fun q h3 h4 => (h2 q (Nat.lt_of_lt_of_le h3 hS.1)).trans (hS.2.1 q h3 h4), hS.2.2⟩
/-- where a body begins -/
theorem entry {l : Launch} {y : MethodName} (hy : plainName y.cls = true) (hown : y.cls = own) (hnm : y.name = nm) (hlen : (lg_sl as).length ≤ nL) (hvs : lv_args 0 as = vs) (body : ∀ X, cy X own nm cc nL ret rm [] → cq X mc ms post exc → pw X 0 0 S 0 vs []) : Ct l y (.code y cc nL ret) rm mc ms S as post exc := by
  intro hl G sz
  refine vx_ofW (cc := cc) (maxL := nL) (ret := ret) hy rfl ?_
  intro p e s m args below meth c s₁ B hml htab hv
  obtain ⟨rfl, hsz, hP, hK, hD0, hsx, htx⟩ := hv
  have hts := atoms_spec (ws := Cond.code y cc nL ret :: TB) B.pre
  subst hsz hvs hown hnm
  have hX : cy (p, l, e, rm, s, m, as.toArray, below, meth, c, va_A (pl G.2.1 S) s.heap.size, G, vx_MQ below (wQ G post (va_A (pl G.2.1 S) s.heap.size)) (wX G exc (va_A (pl G.2.1 S) s.heap.size)) as.toArray s mc ms (va_A (pl G.2.1 S) s.heap.size)) y.cls y.name cc nL ret rm [] :=
    ⟨B.exec, B.bytes, B.returns, hml, findClass_of_methodNamed B.named, fun w h => hts w (List.mem_cons_of_mem _ h), B.notSynchronized, rfl, List.eq_nil_iff_forall_not_mem.mpr (fun x hx => htab x hx), hK, fun q h => Or.inr h, hsx, htx, hl, (name_of_methodNamed B.named B.method).1⟩
  have hl0 := lv_entry as (n := nL) hlen
  rw [lg_entry_eq]
  exact body _ hX rfl s.heap [] _ (hml ▸ hl0) hP (hD0.self (sz := s.heap.size)) va_S.rf
theorem entryW {l : Launch} {y : MethodName} (hy : plainName y.cls = true) (hown : y.cls = own) (hnm : y.name = nm) (hlen : (lg_sl as).length ≤ nL) (hvs : lv_args 0 as = vs) (body : ∀ X, cy X own nm cc nL ret rm hh → cq X mc ms post exc → pw X 0 0 S 0 vs []) : Ct l y (.codeWith y cc nL ret hh) rm mc ms S as post exc := by
  intro hl G sz
  refine vx_ofWH (cc := cc) (maxL := nL) (ret := ret) (hh := hh) hy rfl ?_
  intro p e s m args below meth c s₁ B hml hv
  obtain ⟨rfl, hsz, hP, hK, hD0, hsx, htx⟩ := hv
  have hts := atoms_spec (ws := Cond.codeWith y cc nL ret hh :: TB) B.pre
  have htab := vx_table (x := y) B (hts _ List.mem_cons_self)
  subst hsz hvs hown hnm
  have hX : cy (p, l, e, rm, s, m, as.toArray, below, meth, c, va_A (pl G.2.1 S) s.heap.size, G, vx_MQ below (wQ G post (va_A (pl G.2.1 S) s.heap.size)) (wX G exc (va_A (pl G.2.1 S) s.heap.size)) as.toArray s mc ms (va_A (pl G.2.1 S) s.heap.size)) y.cls y.name cc nL ret rm hh :=
    ⟨B.exec, B.bytes, B.returns, hml, findClass_of_methodNamed B.named, fun w h => hts w (List.mem_cons_of_mem _ h), B.notSynchronized, rfl, htab, hK, fun q h => Or.inr h, hsx, htx, hl, (name_of_methodNamed B.named B.method).1⟩
  have hl0 := lv_entry as (n := nL) hlen
  rw [lg_entry_eq]
  exact body _ hX rfl s.heap [] _ (hml ▸ hl0) hP (hD0.self (sz := s.heap.size)) va_S.rf
end CW
/-! throw new E("text") in LoggiaPlanner -/
abbrev thN : List String := ["java/lang/RuntimeException", "java/lang/Exception"]
def thr (ic : Nat) (cls : String) : Prop := (∀ w ∈ vx_atS RX9 ic cls thN, (w ∈ TB ∨ w ∈ NW) ∧ vx_ot w = true) ∧ Bundle.fit cls = true ∧ ∀ n ∈ thN, Bundle.fit n = true
section TW
variable {X : XE} {nm : String} {cc : ByteArray} {nL : Nat} {ret : Option FieldType} {rm : Room} {mc ms : Nat} {post : Option Value → St → Prop} {exc : String → St → Prop} {cells slots : Nat} {S : St} {pc : Nat} {vs : List (Nat × Value)} {st : List Value}
theorem r_throwS (h : cy X RX9 nm cc nL ret rm []) (hq : cq X mc ms post exc) {ik is ic : Nat} {cls text : String} (ht : thr ic cls) (hk : Cond.classLink RX9 ik cls ∈ TB) (hi : Cond.initialized cls ∈ TB) (hs : (is, text) ∈ txS) (he : exc cls S)
    (d0 : decode cc pc = .ok (.new ik, 3)) (d3 : decode cc (pc + 3) = .ok (.dup, 1)) (d4 : decode cc (pc + 4) = .ok (.ldc is, 2)) (d6 : decode cc (pc + 6) = .ok (.invokespecial ic, 3)) (d9 : decode cc (pc + 9) = .ok (.athrow, 1))
    (hRf : 5 < rm.frames) (hRl : (st.map fun v => v.category).sum + 82 ≤ rm.locals) (hRc : cells + 1 ≤ rm.cells) (hRs : slots + 6 ≤ rm.slots) (hc : cells + 1 ≤ mc) (hsl : slots + 6 ≤ ms) : pw X cells slots S pc vs st := by
  obtain ⟨p, l, e, R, s, m, args, below, meth, c, A, G, Q⟩ := X
  obtain ⟨hx, hb, hr, hml, hown, hts, hlk, hR, htab, hK, hA, hsx, htx, hstk, hnm⟩ := h
  intro H locs ls hl hP hD hS
  have hQ : Q = _ := hq
  subst hQ hR
  obtain ⟨sa, hsa⟩ := htx.2.1 _ hs
  have hat : ∀ w ∈ vx_atS RX9 ic cls thN, w.before args s = true := fun w hw => (ht.1 w hw).1.elim (fun h => hts w h) (fun h => va_Nw.use (nWord_tab (List.mem_filter.mp h).2) (htx.1 w h))
  refine vx_throwS (names := thN) hx hb hstk hown ht.2.1 ht.2.2 (hts _ hk) (hts _ hi) hsa hat (fun w hw => ?_) hsx.2.2.1 hsx.2.2.2 hS hl.1 d0 d3 d4 d6 d9 (by rw [htab]; intro x hx; cases hx) hRf hRl hRc hRs hlk (fun t _ h1 h2 => ?_) hS.2.2 hc hsl
  · rcases List.mem_cons.mp hw with h1 | h1
    · rw [h1]; rfl
    · rcases List.mem_cons.mp h1 with h2 | h2
      · rw [h2]; rfl
      · exact (ht.1 w h2).2
  · obtain ⟨k1, k2⟩ := vx_kept hP hS h1 h2
    exact ⟨⟨S, he, k1, hD⟩, k2.F rfl⟩
theorem r_throwSW (h : cy X RX9 nm cc nL ret rm []) (hq : cq X mc ms post exc) {ik is ic : Nat} {cls text : String} (ht : thr ic cls) (hk : Cond.classLink RX9 ik cls ∈ TB) (hi : Cond.initialized cls ∈ TB) (hs : (is, text) ∈ txS) (he : exc cls S)
    (d0 : decode cc pc = .ok (.new ik, 3)) (d3 : decode cc (pc + 3) = .ok (.dup, 1)) (d4 : decode cc (pc + 4) = .ok (.ldc_w is, 3)) (d7 : decode cc (pc + 7) = .ok (.invokespecial ic, 3)) (d10 : decode cc (pc + 10) = .ok (.athrow, 1))
    (hRf : 5 < rm.frames) (hRl : (st.map fun v => v.category).sum + 82 ≤ rm.locals) (hRc : cells + 1 ≤ rm.cells) (hRs : slots + 6 ≤ rm.slots) (hc : cells + 1 ≤ mc) (hsl : slots + 6 ≤ ms) : pw X cells slots S pc vs st := by
  obtain ⟨p, l, e, R, s, m, args, below, meth, c, A, G, Q⟩ := X
  obtain ⟨hx, hb, hr, hml, hown, hts, hlk, hR, htab, hK, hA, hsx, htx, hstk, hnm⟩ := h
  intro H locs ls hl hP hD hS
  have hQ : Q = _ := hq
  subst hQ hR
  obtain ⟨sa, hsa⟩ := htx.2.1 _ hs
  have hat : ∀ w ∈ vx_atS RX9 ic cls thN, w.before args s = true := fun w hw => (ht.1 w hw).1.elim (fun h => hts w h) (fun h => va_Nw.use (nWord_tab (List.mem_filter.mp h).2) (htx.1 w h))
  refine vx_throwSW (names := thN) hx hb hstk hown ht.2.1 ht.2.2 (hts _ hk) (hts _ hi) hsa hat (fun w hw => ?_) hsx.2.2.1 hsx.2.2.2 hS hl.1 d0 d3 d4 d7 d10 (by rw [htab]; intro x hx; cases hx) hRf hRl hRc hRs hlk (fun t _ h1 h2 => ?_) hS.2.2 hc hsl
  · rcases List.mem_cons.mp hw with h1 | h1
    · rw [h1]; rfl
    · rcases List.mem_cons.mp h1 with h2 | h2
      · rw [h2]; rfl
      · exact (ht.1 w h2).2
  · obtain ⟨k1, k2⟩ := vx_kept hP hS h1 h2
    exact ⟨⟨S, he, k1, hD⟩, k2.F rfl⟩
end TW
/-! typed posts -/
def pI (f : Int32 → St → Prop) : Option Value → St → Prop := fun v S => ∃ r, v = some (.int r) ∧ f r S
def pJ (f : Int64 → St → Prop) : Option Value → St → Prop := fun v S => ∃ r, v = some (.long r) ∧ f r S
def pF (f : UInt32 → St → Prop) : Option Value → St → Prop := fun v S => ∃ r, v = some (.float r) ∧ f r S
def pD (f : UInt64 → St → Prop) : Option Value → St → Prop := fun v S => ∃ r, v = some (.double r) ∧ f r S
def pA (f : Nat → St → Prop) : Option Value → St → Prop := fun v S => ∃ r, v = some (.ref r) ∧ f r S
def pV (f : St → Prop) : Option Value → St → Prop := fun v S => v = none ∧ f S
def nox : String → St → Prop := fun _ _ => False
section KW
variable {X : XE} {cells slots : Nat} {pc : Nat} {vs : List (Nat × Value)} {st : List Value}
theorem kI {f : Int32 → St → Prop} (k : ∀ (r : Int32) (S' : St), f r S' → pw X cells slots S' pc vs (.int r :: st)) : ∀ v S', pI f v S' → pw X cells slots S' pc vs (v.toList ++ st) := by
  intro v S' ⟨r, e, h⟩; subst e; exact k r S' h
theorem kJ {f : Int64 → St → Prop} (k : ∀ (r : Int64) (S' : St), f r S' → pw X cells slots S' pc vs (.long r :: st)) : ∀ v S', pJ f v S' → pw X cells slots S' pc vs (v.toList ++ st) := by
  intro v S' ⟨r, e, h⟩; subst e; exact k r S' h
theorem kF {f : UInt32 → St → Prop} (k : ∀ (r : UInt32) (S' : St), f r S' → pw X cells slots S' pc vs (.float r :: st)) : ∀ v S', pF f v S' → pw X cells slots S' pc vs (v.toList ++ st) := by
  intro v S' ⟨r, e, h⟩; subst e; exact k r S' h
theorem kD {f : UInt64 → St → Prop} (k : ∀ (r : UInt64) (S' : St), f r S' → pw X cells slots S' pc vs (.double r :: st)) : ∀ v S', pD f v S' → pw X cells slots S' pc vs (v.toList ++ st) := by
  intro v S' ⟨r, e, h⟩; subst e; exact k r S' h
theorem kA {f : Nat → St → Prop} (k : ∀ (r : Nat) (S' : St), f r S' → pw X cells slots S' pc vs (.ref r :: st)) : ∀ v S', pA f v S' → pw X cells slots S' pc vs (v.toList ++ st) := by
  intro v S' ⟨r, e, h⟩; subst e; exact k r S' h
theorem kV {f : St → Prop} (k : ∀ (S' : St), f S' → pw X cells slots S' pc vs st) : ∀ v S', pV f v S' → pw X cells slots S' pc vs (v.toList ++ st) := by
  intro v S' ⟨e, h⟩; subst e; exact k S' h
theorem nxk {P : String → St → Prop} : ∀ E S', nox E S' → P E S' := fun _ _ h => h.elim
end KW
theorem ok_new {S : St} {q c a d : Nat} (hq : q ∉ sL S) (h : ok S a d) : ok (newO S q c) a d := by
  have hne : a ≠ q := fun e => hq (e ▸ h.1)
  exact ⟨List.mem_append_left _ h.1, by show va_up (sK S) q c a = d; rw [va_up_ne _ _ hne]; exact h.2⟩
theorem ok_newS {S : St} {q c : Nat} : ok (newO S q c) q c := ⟨List.mem_append_right _ List.mem_cons_self, va_up_self _ _ _⟩
theorem ok_newa {S : St} {q c n a d : Nat} (hq : q ∉ sL S) (h : ok S a d) : ok (newA S q c n) a d := by
  have hne : a ≠ q := fun e => hq (e ▸ h.1)
  exact ⟨List.mem_append_left _ h.1, by show va_up (sK S) q c a = d; rw [va_up_ne _ _ hne]; exact h.2⟩
theorem ok_newaS {S : St} {q c n : Nat} : ok (newA S q c n) q c := ⟨List.mem_append_right _ List.mem_cons_self, va_up_self _ _ _⟩
theorem lb {x : Int32} (h : x = 0 ∨ x = 1) : narrow .boolean (.int x) = .int x := by
  rcases h with rfl | rfl <;> rfl
