/-! THE CLAIM OUT OF ONE WALK OF THE LAW'S BODY. Your part is whole_start (and what it stands on); all else here is the same for every law, but numbers. -/
def R_law : String := "LoggiaPlannerLaw"
def lw_P (b : Addr) (xs : List Int32) (args : Array Value) (s : State) : Prop := args = #[.ref b] ∧ s.IntsAt b xs ∧ xs.length ≤ 3584 ∧ (Jvm.Cond.and given_1 narrow_1).before args s = true
/-- what a walk over the start with the record d0 says of its end, said of the start itself -/
theorem lw_closed {s t : State} {o : Outcome} {d0 : Drawn} {L : List Loc} {k n : Nat} (hd0 : s.drawn.sameBut d0 lw_cs) (hv : ∃ v, o = .returned v) (hW : (s.setDrawn d0).WarmedH t.vm) (hs : (s.setDrawn d0).sameButNew ({ t with vm := s.vm } : State) L k n) : State.butDraws s t lw_cs (fun t1 => Framed s o t1 L k n) := by
  have h2 : t.drawn = d0 := congrArg State.drawn hs.1
  refine ⟨⟨hv, hW, State.sameButNew.setDrawn hs s.drawn⟩, ?_, by decide⟩
  rw [h2]
  exact hd0
def lw_Q (_ : Array Value) (s : State) (o : Outcome) (t : State) : Prop := o = .returned (some (.int 1)) ∧ State.butDraws s t lw_cs (fun t1 => Framed s o t1 [] 603072 7186538)
def lw_Z (below : List Frame) (a : Array Value) (s : State) : State → Prop := fun t => ∃ o, t.status = .running ∧ Ended t below o ∧ lw_Q a s o t
/-- the law's own end, with 1 on the stack, nothing written that was there before, its room as the claim has it; d0: the record of draws at this point (at the entry s.drawn: begin with 'refine W.base ?_' and 'have hd0 := Drawn.sameBut.refl s.drawn lw_cs') -/
theorem lw_ret {p : Program} {l : Launch} {e : Env} {s : State} {m : MethodId} {below : List Frame} {meth : Method} {c : Code} {b : Nat} {d0 : Drawn} (hd0 : s.drawn.sameBut d0 lw_cs) (hx : p.tables.exec = Jvm.exec) (hb : c.code = code) (hr : meth.sig.returnType = ret) (hlocks : meth.locks = false) {pc : Nat} {H : Heap} {ls : Array Slot} (hdg : decode code pc = .ok (.ireturn, 1)) : W p l e room_1 (s.setDrawn d0) m #[Value.ref b] below meth c H [] 603072 7186538 (lw_Z below #[Value.ref b] s) (F0 m pc ls [.int 1]) := by
  intro T hT X
  obtain ⟨fs, hret, hrun, hended, hW, hframe⟩ := X.leave (v := some (.int 1)) (hlocks := hlocks) (fun h => by rw [hr] at h; cases h)
  have hmeth' : T.vm.method? m = some meth := X.method'
  refine ⟨T.setFrames fs, ?_, .returned (some (.int 1)), hrun, hended, rfl, lw_closed hd0 ⟨_, rfl⟩ hW hframe⟩
  jvm_step X.here [X.here.top, hx, hb, hdg, hmeth', hr, ret, narrow_b1]
  (try refine ⟨rfl, ?_⟩); (try refine ⟨rfl, ?_⟩)
  first | (intro acts; rw [hret _ acts rfl rfl rfl]) | rw [hret _ _ rfl rfl rfl]
  exact Steps.refl _
/-- what holds at the law's entry: the machine, the code, the tables' words (any of lw_tbl by 'hts w (by decide +kernel)'), the script of L ints xs at the cell b, what the Statement gives of the start (any of its parts by flat_of_before) -/
def lw_At (p : Program) (s : State) (m : MethodId) (meth : Method) (c : Code) (b L : Nat) (xs : Nat → Int32) : Prop :=
  p.tables.exec = Jvm.exec ∧ c.code = code ∧ meth.sig.returnType = ret ∧ c.maxLocals = 9 ∧ s.vm.findClass R_law = some m.cls ∧ (∀ w ∈ lw_tbl, w.before #[Value.ref b] s = true) ∧ va_X b L xs s s.heap ∧ b < s.heap.size ∧ meth.locks = false ∧ (Jvm.Cond.and given_1 narrow_1).before #[Value.ref b] s = true
/-! ===== the law's entry ===== -/
theorem arr_K {ty : FieldType} {args : Array Value} {s : State} (h : (Cond.arrayClass ty).before args s = true) (hn : ∀ C, ty ≠ .object C) : ∃ cA : ClassId, ArrOfT s cA ty ∧ va_RA s cA ty := by
  obtain ⟨cA, kA, comp, h1, h2, h3⟩ := Cond.arrayClass_spec h
  refine ⟨cA, fun n z => ⟨(fun k hk => by cases hk), kA, h2, comp, h3⟩, ?_⟩
  cases ty with
  | object C => exact absurd rfl (hn C)
  | _ => exact h1
theorem arr_O {args : Array Value} {s : State} (h : (Cond.arrayOver (.object "java/lang/Object")).before args s = true) : ∃ cA : ClassId, ArrOfT s cA (.object "java/lang/Object") ∧ va_RA s cA (.object "java/lang/Object") := by
  obtain ⟨comp, c, k, h1, h2, h3, h4, h5⟩ := Cond.arrayOver_spec h
  exact ⟨c, fun n z => ⟨(fun k hk => by cases hk), k, h3, comp, h4⟩, k, comp, h3, h4, h1, h5⟩
set_option maxRecDepth 100000 in
theorem str_tbl : ∀ w ∈ kStrs, Cond.stringRef RX9 w.1 w.2 ∈ lw_tbl := by decide +kernel
set_option maxRecDepth 100000 in
theorem str_flat : ∀ w ∈ kStrs, Cond.exactly (.string RX9 w.1) "java/lang/String" ∈ flatC (Jvm.Cond.and given_1 narrow_1) := by decide +kernel
set_option maxRecDepth 100000 in
theorem ncs_flat : ∀ w ∈ kNcs, Cond.not (.castable w.1 w.2) ∈ flatC (Jvm.Cond.and given_1 narrow_1) := by decide +kernel
theorem tb_at {args : Array Value} {s : State} (hts : ∀ w ∈ lw_tbl, w.before args s = true) (i : Nat) {w : Cond} (h : lw_tbl[i]? = some w) : w.before args s = true := hts w (List.mem_of_getElem? h)
/-- what goes along: names, texts, what may not be cast -/
theorem tx_start {args : Array Value} {s : State} (hts : ∀ w ∈ lw_tbl, w.before args s = true) (hgv : ∀ c ∈ flatC (Jvm.Cond.and given_1 narrow_1), c.before args s = true) : ∃ mi : Nat, tx mi s := by
  obtain ⟨mi, hmi⟩ := va_Mi.of (hgv (.isRef (.mirror "[Ljava/lang/Object;")) (by decide +kernel))
  refine ⟨mi, fun w hw => ?_, fun w hw => ?_, fun w hw => va_Nc.of (hgv _ (ncs_flat w hw)), va_AO.of (tb_at hts 640 (by decide +kernel)), hmi⟩
  · obtain ⟨a, b⟩ := List.mem_filter.mp hw
    exact va_Nw.of (nWord_tab b) (hts w a)
  · obtain ⟨a, c, cell, k, h1, _⟩ := Cond.exactly_spec (hgv _ (str_flat w hw))
    exact ⟨a, vk_R.of (hts _ (str_tbl w hw)) h1⟩
theorem sx_start {args : Array Value} {s : State} (hts : ∀ w ∈ lw_tbl, w.before args s = true) (hgv : ∀ c ∈ flatC (Jvm.Cond.and given_1 narrow_1), c.before args s = true) : ∃ t : Nat, sx t (fun q : Nat => s.heap.size ≤ q) s s.heap := by
  have hA : ∀ a : Nat, a < s.heap.size → ¬ (fun q : Nat => s.heap.size ≤ q) a := fun a h h2 => absurd h2 (by dsimp only; omega)
  obtain ⟨t, ht, hT⟩ := va_Tof (args := args) (s := s) (tm := .static "java/util/ArrayList" "DEFAULTCAPACITY_EMPTY_ELEMENTDATA" "[Ljava/lang/Object;") (ty := .object "java/lang/Object") (N := 0) (f := fun _ => .null) (by decide) (hgv _ (by decide +kernel)) (va_eqt (hgv (.eq (.length (.static "java/util/ArrayList" "DEFAULTCAPACITY_EMPTY_ELEMENTDATA" "[Ljava/lang/Object;")) (.int 0)) (by decide +kernel))) (fun j hj => absurd hj (by omega)) hA
  refine ⟨t, va_Zof (tb_at hts 113 (by decide +kernel)) (tb_at hts 59 (by decide +kernel)) ht hA, hT, vx_Zqof (tb_at hts 500 (by decide +kernel)) (tb_at hts 65 (by decide +kernel)) (hgv _ (by decide +kernel)) hA, vx_Zqof (tb_at hts 502 (by decide +kernel)) (tb_at hts 65 (by decide +kernel)) (hgv _ (by decide +kernel)) hA⟩
theorem K_start {args : Array Value} {s : State} (hts : ∀ w ∈ TB, w.before args s = true) (hob : (Cond.arrayOver (.object "java/lang/Object")).before args s = true) : ∃ (D : va_G) (y : YE), va_K D kC (tys y) s := by
  obtain ⟨c0, s0, k0⟩ := u_known (C := RJx4a65c) (T := TJx4a65c) (N := 3) (n := 3) hts in0 (hts _ q101)
  obtain ⟨c1, s1, k1⟩ := u_known (C := RX0) (T := TX0) (N := 7) (n := 7) hts in1 (hts _ q158)
  obtain ⟨c2, s2, k2⟩ := u_known (C := RX1) (T := TX1) (N := 1) (n := 1) hts in2 (hts _ q145)
  obtain ⟨c3, s3, k3⟩ := u_known (C := RX2) (T := TX2) (N := 7) (n := 7) hts in3 (hts _ q855)
  obtain ⟨c4, s4, k4⟩ := u_known (C := RX3) (T := TX3) (N := 1) (n := 1) hts in4 (hts _ q95)
  obtain ⟨c5, s5, k5⟩ := u_known (C := RX4) (T := TX4) (N := 4) (n := 4) hts in5 (hts _ q725)
  obtain ⟨c6, s6, k6⟩ := u_known (C := RX5) (T := TX5) (N := 5) (n := 5) hts in6 (hts _ q188)
  obtain ⟨c7, s7, k7⟩ := u_known (C := RX6) (T := TX6) (N := 4) (n := 4) hts in7 (hts _ q562)
  obtain ⟨c8, s8, k8⟩ := u_known (C := RX7) (T := TX7) (N := 1) (n := 1) hts in8 (hts _ q134)
  obtain ⟨c9, s9, k9⟩ := u_known (C := RX8) (T := TX8) (N := 7) (n := 7) hts in9 (hts _ q759)
  obtain ⟨c10, s10, k10⟩ := u_known (C := RX9) (T := TX9) (N := 8) (n := 8) hts in10 (hts _ q87)
  obtain ⟨c11, s11, k11⟩ := u_known (C := RX10) (T := TX10) (N := 29) (n := 29) hts in11 (hts _ q1167)
  obtain ⟨y0, u0⟩ := arr_K (hts _ q143) (fun C h => by cases h)
  obtain ⟨y1, u1⟩ := arr_K (hts _ q186) (fun C h => by cases h)
  obtain ⟨y2, u2⟩ := arr_O hob
  obtain ⟨y3, u3⟩ := arr_K (hts _ q1500) (fun C h => by cases h)
  obtain ⟨y4, u4⟩ := arr_K (hts _ q1501) (fun C h => by cases h)
  refine ⟨(fun k => [c0, c1, c2, c3, c4, c5, c6, c7, c8, c9, c10, c11].getD k c0, fun k => [s0, s1, s2, s3, s4, s5, s6, s7, s8, s9, s10, s11].getD k s0), (y0, y1, y2, y3, y4), fun k q hq => ?_, fun k q hq => ?_⟩
  · match k, hq with
    | 0, hq => cases hq; exact k0
    | 1, hq => cases hq; exact k1
    | 2, hq => cases hq; exact k2
    | 3, hq => cases hq; exact k3
    | 4, hq => cases hq; exact k4
    | 5, hq => cases hq; exact k5
    | 6, hq => cases hq; exact k6
    | 7, hq => cases hq; exact k7
    | 8, hq => cases hq; exact k8
    | 9, hq => cases hq; exact k9
    | 10, hq => cases hq; exact k10
    | 11, hq => cases hq; exact k11
    | k + 12, hq => simp at hq
  · match k, hq with
    | 0, hq => cases hq; exact u0
    | 1, hq => cases hq; exact u1
    | 2, hq => cases hq; exact u2
    | 3, hq => cases hq; exact u3
    | 4, hq => cases hq; exact u4
    | k + 5, hq => simp [tys] at hq
set_option maxRecDepth 100000 in
set_option maxHeartbeats 4000000 in
/-- THE LAW, from its entry -/
theorem whole_start {p : Program} {e : Env} {s : State} {m : MethodId} {below : List Frame} {meth : Method} {c : Code} (l : Launch) (hflags : l.flags = flags0) {b L : Nat} {xs : Nat → Int32} (hL : L ≤ 3584) (htab : c.exceptionTable.toList = []) (hname : meth.name = "law") (C0 : lw_At p s m meth c b L xs) : W p l e room_1 s m #[Value.ref b] below meth c s.heap [] 0 0 (lw_Z below #[Value.ref b] s) (entryFrame m ([Value.ref b] : List Value).toArray 9) := by
  obtain ⟨hx, hb, hr, hml, hown, hts, hX, hbl, hlocks, hgv⟩ := C0
  have hfl := flat_of_before _ hgv
  have htb : ∀ w ∈ TB, w.before #[Value.ref b] s = true := fun w hw => hts w (TB_tbl hw)
  have hstk : l.stackTraces = false := by
    unfold Launch.stackTraces
    rw [hflags]
    decide +kernel
  obtain ⟨mi, htx⟩ := tx_start hts hfl
  obtain ⟨t, hsx⟩ := sx_start hts hfl
  obtain ⟨D, y, hK⟩ := K_start htb (tb_at hts 640 (by decide +kernel))
  have h : cy (p, l, e, room_1, s, m, #[Value.ref b], below, meth, c, (fun q : Nat => s.heap.size ≤ q), (D, y, t, mi), lw_Z below #[Value.ref b] s) RL "law" cL_law 9 (some .boolean) room_1 [] :=
    ⟨hx, hb, hr, hml, hown, htb, hlocks, rfl, htab, hK, fun q h => h, hsx, htx, hstk, hname⟩
  have hsc : scr (p, l, e, room_1, s, m, #[Value.ref b], below, meth, c, (fun q : Nat => s.heap.size ≤ q), (D, y, t, mi), lw_Z below #[Value.ref b] s) b L xs := ⟨hX, hbl, fun h => absurd hbl (by dsimp only at h; omega)⟩
  have hend : ∀ (cells slots : Nat) (S : St) (vs : List (Nat × Value)), cells ≤ 603072 → slots ≤ 7186538 → pw (p, l, e, room_1, s, m, #[Value.ref b], below, meth, c, (fun q : Nat => s.heap.size ≤ q), (D, y, t, mi), lw_Z below #[Value.ref b] s) cells slots S 2061 vs [] := by
    intro cells slots S vs h1 h2 H locs ls hl hP hD hS
    refine lv_iconst hx hb dL_law_2061 (v := 1) (by decide) ?_
    refine va_forget (fun q hq => hS.2.2 q hq) ?_
    refine W.widen h1 h2 ?_
    have hd0 := Drawn.sameBut.refl s.drawn lw_cs
    refine W.base ?_
    exact lw_ret hd0 hx hb hr hlocks dL_law_2062
  have hB : Bd (([], fun _ => 0, fun _ => 0, fun _ _ => 0, fun _ _ => none, fun _ _ => 0, fun _ _ => 0, t, mi) : St) t [] := ⟨rfl, fun n e h => by simp at h, fun n m e e' h => by simp at h⟩
  have hst := init_ok (K := LI) hB (fun q0 q1 q2 q3 q4 q5 q6 q7 q8 q9 q10 q11 q12 q13 q14 q15 q16 q17 q18 q19 q20 q21 q22 q23 q24 q25 q26 q27 q28 q29 q30 q31 q32 q33 q34 q35 q36 q37 q38 q39 q40 q41 q42 q43 q44 S' B' => init_LI B')
  have hbody := lc_start (b := b) h (fun a1 a2 a3 a4 S hl => law_loop h hsc hL hend (L + 1) 0 S (Nat.zero_le _) (by omega) hl) hst
  have hl0 := lv_entry ([.ref b]) (n := 9) (Nat.le_of_ble_eq_true rfl)
  rw [lg_entry_eq]
  exact hbody s.heap [] _ (hml ▸ hl0) ⟨fun k q hq => by simp [pl, va_pl, sL] at hq, rfl, rfl⟩ ⟨fun i j p q hp => by simp [pl, va_pl, sL] at hp, fun k q hq => by simp [pl, va_pl, sL] at hq⟩ va_S.rf
