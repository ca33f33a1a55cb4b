/-! ===== the words that every contract takes along ===== -/
def TB : List Cond := lw_tbl.filter goodWord
theorem TB_tbl {w : Cond} (h : w ∈ TB) : w ∈ lw_tbl := (List.mem_filter.mp h).1
theorem TB_good {w : Cond} (h : w ∈ TB) : goodWord w = true := (List.mem_filter.mp h).2
theorem tb {w : Cond} (i : Nat) (h : lw_tbl[i]? = some w) (g : goodWord w = true) : w ∈ TB := List.mem_filter.mpr ⟨List.mem_of_getElem? h, g⟩
def nWord : Cond → Bool
  | .fieldLinkNest .. => true
  | .methodLinkNest .. => true
  | .declares _ => true
  | .castable .. => true
  | _ => false
def NW : List Cond := lw_tbl.filter nWord
theorem nw {w : Cond} (i : Nat) (h : lw_tbl[i]? = some w) (g : nWord w = true) : w ∈ NW := List.mem_filter.mpr ⟨List.mem_of_getElem? h, g⟩
theorem nWord_tab {w : Cond} (g : nWord w = true) : w.onTables = true := by
  cases w <;> first | rfl | (simp [nWord] at g)
theorem nWord_warm {w : Cond} (g : nWord w = true) {s U : State} (hW : s.WarmedH U.vm) (h : va_Nw w s) : va_Nw w U := by
  cases w <;> first | exact va_Nw.warmF hW h | exact va_Nw.warmM hW h | exact va_Nw.warmD hW h | exact va_Nw.warmC hW h | (simp [nWord] at g)
/-! ===== the store: what the objects hold, by their addresses ===== -/
abbrev St : Type := (List Nat) × (Nat → Nat) × (Nat → Nat) × (Nat → Nat → Int32) × (Nat → Nat → Option Nat) × (Nat → Nat → Int64) × (Nat → Nat → UInt64) × Nat × Nat
def sL (S : St) : List Nat := S.1
def sK (S : St) : Nat → Nat := S.2.1
def sN (S : St) : Nat → Nat := S.2.2.1
def sI (S : St) : Nat → Nat → Int32 := S.2.2.2.1
def sP (S : St) : Nat → Nat → Option Nat := S.2.2.2.2.1
def sJ (S : St) : Nat → Nat → Int64 := S.2.2.2.2.2.1
def sE (S : St) : Nat → Nat → UInt64 := S.2.2.2.2.2.2.1
/-- where the static empty array of ArrayList lies -/
def sT (S : St) : Nat := S.2.2.2.2.2.2.2.1
/-- where the Class object of Object[] lies -/
def sM (S : St) : Nat := S.2.2.2.2.2.2.2.2
def updJ (f : Nat → Int64) (k : Nat) (x : Int64) : Nat → Int64 := fun j => if j = k then x else f j
def updE (f : Nat → UInt64) (k : Nat) (x : UInt64) : Nat → UInt64 := fun j => if j = k then x else f j
def setI (S : St) (a k : Nat) (v : Int32) : St := (sL S, sK S, sN S, va_up (sI S) a (upd (sI S a) k v), sP S, sJ S, sE S, sT S, sM S)
def setP (S : St) (a k : Nat) (v : Option Nat) : St := (sL S, sK S, sN S, sI S, va_up (sP S) a (va_up (sP S a) k v), sJ S, sE S, sT S, sM S)
def setJ (S : St) (a k : Nat) (v : Int64) : St := (sL S, sK S, sN S, sI S, sP S, va_up (sJ S) a (updJ (sJ S a) k v), sE S, sT S, sM S)
def setE (S : St) (a k : Nat) (v : UInt64) : St := (sL S, sK S, sN S, sI S, sP S, sJ S, va_up (sE S) a (updE (sE S a) k v), sT S, sM S)
def setPs (S : St) (a : Nat) (f : Nat → Option Nat) : St := (sL S, sK S, sN S, sI S, va_up (sP S) a f, sJ S, sE S, sT S, sM S)
def newO (S : St) (q c : Nat) : St := (sL S ++ [q], va_up (sK S) q c, sN S, va_up (sI S) q (fun _ => 0), va_up (sP S) q (fun _ => none), sJ S, sE S, sT S, sM S)
def newA (S : St) (q c n : Nat) : St := (sL S ++ [q], va_up (sK S) q c, va_up (sN S) q n, va_up (sI S) q (fun _ => 0), va_up (sP S) q (fun _ => none), va_up (sJ S) q (fun _ => 0), va_up (sE S) q (fun _ => 0), sT S, sM S)
def ok (S : St) (a c : Nat) : Prop := a ∈ sL S ∧ sK S a = c
/-! the classes: 0 ArrayList, 1 Board, 2 Calendar, 3 Exhibition, 4 House, 5 Lender, 6 Loads, 7 Room, 8 Separations, 9 Work, 10 LoggiaPlanner, 11 the reference; arrays: 100 char, 101 int, 102 references, 103 long, 104 double -/
abbrev kC : List vw_C := [(RJx4a65c, TJx4a65c, 3), (RX0, TX0, 7), (RX1, TX1, 1), (RX2, TX2, 7), (RX3, TX3, 1), (RX4, TX4, 4), (RX5, TX5, 5), (RX6, TX6, 4), (RX7, TX7, 1), (RX8, TX8, 7), (RX9, TX9, 8), (RX10, TX10, 29)]
def kR : List (List Bool) := [[false, true, false], [false, false, true, true, true, true, true], [true], [false, false, false, false, true, true, false], [true], [false, false, false, false], [false, false, true, true, true], [false, false, false, false], [true], [false, false, false, false, false, false, true], [true, true, true, true, true, true, true, false], [true, true, true, true, true, true, true, true, true, true, true, true, true, true, true, true, true, true, true, true, true, true, true, false, false, false, false, false, false]]
def nF (c : Nat) : Nat := (kR.getD c []).length
def rF (c k : Nat) : Bool := (kR.getD c []).getD k false
def flds (c : Nat) (i : Nat → Int32) (p : Nat → Option Nat) : List Value := (List.range (nF c)).map (fun k => if rF c k then va_rf (p k) else .int (i k))
theorem flds_i {c k : Nat} {i : Nat → Int32} {p : Nat → Option Nat} (hk : k < nF c) (hr : rF c k = false) : (flds c i p)[k]? = some (.int (i k)) := by simp [flds, hk, hr]
theorem flds_p {c k : Nat} {i : Nat → Int32} {p : Nat → Option Nat} (hk : k < nF c) (hr : rF c k = true) : (flds c i p)[k]? = some (va_rf (p k)) := by simp [flds, hk, hr]
theorem flds_len {c : Nat} {i : Nat → Int32} {p : Nat → Option Nat} : (flds c i p).length = nF c := by simp [flds]
theorem flds_setI {c k : Nat} {i : Nat → Int32} {p : Nat → Option Nat} {v : Int32} (hk : k < nF c) (hr : rF c k = false) : (flds c i p).set k (.int v) = flds c (upd i k v) p := by
  apply List.ext_getElem?
  intro j
  by_cases hj : j = k
  · subst hj
    rw [List.getElem?_set_self (by rw [flds_len]; exact hk), flds_i hk hr]
    simp [upd]
  · rw [List.getElem?_set_ne (Ne.symm hj)]
    by_cases hl : j < nF c
    · simp [flds, upd, hj, hl]
    · simp [flds, hl]
theorem flds_setP {c k : Nat} {i : Nat → Int32} {p : Nat → Option Nat} {v : Option Nat} (hk : k < nF c) (hr : rF c k = true) : (flds c i p).set k (va_rf v) = flds c i (va_up p k v) := by
  apply List.ext_getElem?
  intro j
  by_cases hj : j = k
  · subst hj
    rw [List.getElem?_set_self (by rw [flds_len]; exact hk), flds_p hk hr]
    simp [va_up]
  · rw [List.getElem?_set_ne (Ne.symm hj)]
    by_cases hl : j < nF c
    · simp [flds, va_up, hj, hl]
    · simp [flds, hl]
abbrev YE : Type := ClassId × ClassId × ClassId × ClassId × ClassId
def pE (y : YE) (S : St) (a : Nat) : va_E :=
  if sK S a = 100 then .inl (y.1, sN S a, .inl (sI S a))
  else if sK S a = 101 then .inl (y.2.1, sN S a, .inl (sI S a))
  else if sK S a = 102 then .inl (y.2.2.1, sN S a, .inr (.inr (.inr (.inr (sP S a)))))
  else if sK S a = 103 then .inl (y.2.2.2.1, sN S a, .inr (.inl (sJ S a)))
  else if sK S a = 104 then .inl (y.2.2.2.2, sN S a, .inr (.inr (.inr (.inl (sE S a)))))
  else .inr (sK S a, flds (sK S a) (sI S a) (sP S a))
theorem pE_o (y : YE) {S : St} {a c : Nat} (h : sK S a = c) (hc : c < 100) : pE y S a = .inr (c, flds c (sI S a) (sP S a)) := by
  subst h
  unfold pE
  rw [if_neg (by omega), if_neg (by omega), if_neg (by omega), if_neg (by omega), if_neg (by omega)]
theorem pE_c (y : YE) {S : St} {a : Nat} (h : sK S a = 100) : pE y S a = .inl (y.1, sN S a, .inl (sI S a)) := by unfold pE; rw [if_pos h]
theorem pE_i (y : YE) {S : St} {a : Nat} (h : sK S a = 101) : pE y S a = .inl (y.2.1, sN S a, .inl (sI S a)) := by unfold pE; rw [if_neg (by omega), if_pos h]
theorem pE_q (y : YE) {S : St} {a : Nat} (h : sK S a = 102) : pE y S a = .inl (y.2.2.1, sN S a, .inr (.inr (.inr (.inr (sP S a))))) := by unfold pE; rw [if_neg (by omega), if_neg (by omega), if_pos h]
theorem pE_j (y : YE) {S : St} {a : Nat} (h : sK S a = 103) : pE y S a = .inl (y.2.2.2.1, sN S a, .inr (.inl (sJ S a))) := by unfold pE; rw [if_neg (by omega), if_neg (by omega), if_neg (by omega), if_pos h]
theorem pE_d (y : YE) {S : St} {a : Nat} (h : sK S a = 104) : pE y S a = .inl (y.2.2.2.2, sN S a, .inr (.inr (.inr (.inl (sE S a))))) := by unfold pE; rw [if_neg (by omega), if_neg (by omega), if_neg (by omega), if_neg (by omega), if_pos h]
def pl (y : YE) (S : St) : va_W := [] ++ va_pl (sL S) (pE y S)
theorem pl_get {y : YE} {S : St} {a : Nat} {e : va_E} (h : a ∈ sL S) (he : pE y S a = e) : ∃ k : Nat, (pl y S)[k]? = some (a, e) := by
  obtain ⟨k, hk⟩ := va_pl_get (X := []) (f := pE y S) h
  exact ⟨k, by rw [← he]; exact hk⟩
/-- what is written at one address -/
theorem pl_set {y : YE} {A : Nat → Prop} {S S' : St} {a k : Nat} {e e0 : va_E} (hD : va_D A (pl y S)) (h : a ∈ sL S) (hk : (pl y S)[k]? = some (a, e0)) (h0 : pE y S a = e0) (hL : sL S' = sL S) (ha : pE y S' a = e) (ho : ∀ b, b ≠ a → pE y S' b = pE y S b) : (pl y S).set k (a, e) = pl y S' := by
  unfold pl at hD hk ⊢
  rw [va_pl_set hD h (by rw [h0]; exact hk), hL]
  refine congrArg (fun l => [] ++ l) (va_pl_congr fun b => ?_)
  by_cases hb : b = a
  · subst hb
    rw [va_up_self, ha]
  · rw [va_up_ne _ _ hb, ho b hb]
theorem pl_push {y : YE} {S S' : St} {q : Nat} {e : va_E} (hq : q ∉ sL S) (hL : sL S' = sL S ++ [q]) (he : pE y S' q = e) (ho : ∀ b, b ≠ q → pE y S' b = pE y S b) : pl y S ++ [(q, e)] = pl y S' := by
  unfold pl
  rw [List.append_assoc, va_pl_push hq, hL]
  refine congrArg (fun l => [] ++ l) (va_pl_congr fun b => ?_)
  by_cases hb : b = q
  · subst hb
    rw [va_up_self, he]
  · rw [va_up_ne _ _ hb, ho b hb]
theorem pE_eq {y : YE} {S S' : St} {b : Nat} (hK : sK S' b = sK S b) (hN : sN S' b = sN S b) (hI : sI S' b = sI S b) (hP : sP S' b = sP S b) (hJ : sJ S' b = sJ S b) (hE : sE S' b = sE S b) : pE y S' b = pE y S b := by
  unfold pE
  rw [hK, hN, hI, hP, hJ, hE]
/-! ===== facts of the tables and of static fields that go along ===== -/
def tys (y : YE) : List (ClassId × FieldType) := [(y.1, .char), (y.2.1, .int), (y.2.2.1, .object "java/lang/Object"), (y.2.2.2.1, .long), (y.2.2.2.2, .double)]
def txS : List (Nat × String) := kStrs
def txN : List (String × String) := kNcs
def tx (mi : Nat) (U : State) : Prop := (∀ w ∈ NW, va_Nw w U) ∧ (∀ w ∈ txS, ∃ a : Nat, vk_R RX9 w.1 w.2 a U) ∧ (∀ w ∈ txN, va_Nc w.1 w.2 U) ∧ va_AO "java/lang/Object" U ∧ va_Mi "[Ljava/lang/Object;" mi U
theorem tx_warm {mi : Nat} {s U : State} (hW : s.WarmedH U.vm) (h : tx mi s) : tx mi U := by
  obtain ⟨h1, h2, h3, h4, h5⟩ := h
  refine ⟨fun w hw => nWord_warm (List.mem_filter.mp hw).2 hW (h1 w hw), fun w hw => ?_, fun w hw => (h3 w hw).moved hW.alike, h4.moved hW.alike, h5.moved hW.alike⟩
  obtain ⟨a, ha⟩ := h2 w hw
  exact ⟨a, ha.warm hW⟩
theorem tx_same {mi : Nat} {u U : State} (hv : U.vm = u.vm) (h : tx mi u) : tx mi U := by
  obtain ⟨h1, h2, h3, h4, h5⟩ := h
  have hal : u.vm.Alike U.vm := by rw [hv]; exact Vm.Alike.refl _
  refine ⟨fun w hw => (h1 w hw).same (nWord_tab (List.mem_filter.mp hw).2) hv.symm, fun w hw => ?_, fun w hw => (h3 w hw).moved hal, h4.moved hal, h5.moved hal⟩
  obtain ⟨a, ha⟩ := h2 w hw
  exact ⟨a, ha.same hv⟩
def sx (t : Nat) (A : Nat → Prop) (U : State) (H : Heap) : Prop :=
  va_Z "java/util/ArrayList" "DEFAULTCAPACITY_EMPTY_ELEMENTDATA" "[Ljava/lang/Object;" (.ref t) A U H ∧ va_T (.object "java/lang/Object") t 0 (fun _ => .null) A U H ∧ vx_Zq Bundle.tN "UNASSIGNED_STACK" Bundle.steD A U H ∧ vx_Zq Bundle.tN "SUPPRESSED_SENTINEL" Bundle.listD A U H
theorem sx_moved {t : Nat} {A : Nat → Prop} {u U : State} {H : Heap} (hvm : u.vm.Alike U.vm) (h : sx t A u H) : sx t A U H := ⟨h.1.moved hvm, h.2.1.moved hvm, h.2.2.1.moved hvm, h.2.2.2.moved hvm⟩
theorem sx_kept {t : Nat} {A : Nat → Prop} {U : State} {H H1 : Heap} (h : sx t A U H) (hq : ∀ a : Nat, a < H.size → ¬ A a → H1[a]? = H[a]?) : sx t A U H1 := ⟨h.1.kept hq, h.2.1.kept hq, h.2.2.1.kept hq, h.2.2.2.kept hq⟩
theorem sx_narrow {t : Nat} {A B : Nat → Prop} {U : State} {H : Heap} (h : sx t A U H) (hAB : ∀ q, B q → A q) : sx t B U H := ⟨h.1.narrow hAB, h.2.1.narrow hAB, h.2.2.1.narrow hAB, h.2.2.2.narrow hAB⟩
/-! ===== contracts ===== -/
abbrev GE : Type := va_G × YE × Nat × Nat
/-- the heap holds the store -/
def wP (G : GE) (S : St) (H : Heap) : Prop := va_P G.1 kC (pl G.2.1 S) H ∧ sT S = G.2.2.1 ∧ sM S = G.2.2.2
def wPre (G : GE) (S : St) (sz : Nat) (U : State) : Prop := U.heap.size = sz ∧ wP G S U.heap ∧ va_K G.1 kC (tys G.2.1) U ∧ va_D (fun _ => True) (pl G.2.1 S) ∧ sx G.2.2.1 (va_A (pl G.2.1 S) sz) U U.heap ∧ tx G.2.2.2 U
def wQ (G : GE) (post : Option Value → St → Prop) (A : Nat → Prop) : Array Value → State → Outcome → State → Prop := fun _ st oc t => (∃ (v : Option Value) (S : St), oc = .returned v ∧ post v S ∧ wP G S t.heap ∧ va_D A (pl G.2.1 S)) ∧ va_F A st t
def wX (G : GE) (exc : String → St → Prop) (A : Nat → Prop) : String → State → State → Prop := fun E st t => (∃ S : St, exc E S ∧ wP G S t.heap ∧ va_D A (pl G.2.1 S)) ∧ va_F A st t
def Ct (l : Launch) (y : MethodName) (w0 : Cond) (rm : Room) (mc ms : Nat) (S : St) (as : List Value) (post : Option Value → St → Prop) (exc : String → St → Prop) : Prop :=
  l.stackTraces = false → ∀ (G : GE) (sz : Nat), vx_Met l y (w0 :: TB) rm (va_Pc as (wPre G S sz)) (wQ G post (va_A (pl G.2.1 S) sz)) (wX G exc (va_A (pl G.2.1 S) sz)) mc ms (va_A (pl G.2.1 S) sz)
/-- where a method's body stands -/
abbrev XE : Type := Program × Launch × Env × Room × State × MethodId × Array Value × List Frame × Method × Code × (Nat → Prop) × GE × (State → Prop)
def pw (X : XE) (cells slots : Nat) (S : St) (pc : Nat) (vs : List (Nat × Value)) (st : List Value) : Prop :=
  match X with
  | (p, l, e, R, s, m, args, below, meth, c, A, G, Q) => ∀ (H : Heap) (locs : List Loc) (ls : Array Slot), lv_has ls c.maxLocals vs → wP G S H → va_D A (pl G.2.1 S) → va_S A s.heap H locs → W p l e R s m args below meth c H locs cells slots Q (F0 m pc ls st)
/-- .. with an exception of class E thrown over it -/
def px (X : XE) (cells slots : Nat) (S : St) (pc : Nat) (vs : List (Nat × Value)) (st : List Value) (E : String) : Prop :=
  match X with
  | (p, l, e, R, s, m, args, below, meth, c, A, G, Q) => ∀ (H : Heap) (locs : List Loc) (ls : Array Slot) (q : Nat) (ce : Cell), lv_has ls c.maxLocals vs → wP G S H → va_D A (pl G.2.1 S) → va_S A s.heap H locs → H[q]? = some ce → ce.vm = .none → s.vm.findClass E = some ce.cls → vx_W p l e R s m args below meth c H locs cells slots Q (F0 m pc ls st) q
/-- what holds of a body from its entry on -/
def cy (X : XE) (own nm : String) (cc : ByteArray) (nL : Nat) (ret : Option FieldType) (rm : Room) (tab : List (Nat × Nat × Nat × Nat)) : Prop :=
  match X with
  | (p, l, _, R, s, m, args, _, meth, c, A, G, _) => p.tables.exec = Jvm.exec ∧ c.code = cc ∧ meth.sig.returnType = ret ∧ c.maxLocals = nL ∧ s.vm.findClass own = some m.cls ∧ (∀ w ∈ TB, w.before args s = true) ∧ meth.locks = false ∧ R = rm ∧ c.exceptionTable.toList = tableOf tab ∧ va_K G.1 kC (tys G.2.1) s ∧ (∀ q : Nat, s.heap.size ≤ q → A q) ∧ sx G.2.2.1 A s s.heap ∧ tx G.2.2.2 s ∧ l.stackTraces = false ∧ meth.name = nm
/-- what it owes at its end -/
def cq (X : XE) (mc ms : Nat) (post : Option Value → St → Prop) (exc : String → St → Prop) : Prop :=
  match X with
  | (_, _, _, _, s, _, args, below, _, _, A, G, Q) => Q = vx_MQ below (wQ G post A) (wX G exc A) args s mc ms A
