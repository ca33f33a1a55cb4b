theorem q86 : Cond.classLink RL 8 RX9 ∈ TB := tb 86 (by decide +kernel) rfl
theorem q87 : Cond.instantiable RX9 8 ∈ TB := tb 87 (by decide +kernel) rfl
theorem q88 : Cond.methodLink RL 107 yX9_init ∈ TB := tb 88 (by decide +kernel) rfl
theorem q89 : Cond.instanceMethod yX9_init ∈ TB := tb 89 (by decide +kernel) rfl
theorem q90 : Cond.code yX9_init cX9_init 1 none ∈ TB := tb 90 (by decide +kernel) rfl
theorem q1166 : Cond.classLink RL 108 RX10 ∈ TB := tb 1166 (by decide +kernel) rfl
theorem q1167 : Cond.instantiable RX10 29 ∈ TB := tb 1167 (by decide +kernel) rfl
theorem q1168 : Cond.methodLink RL 110 yX10_init ∈ TB := tb 1168 (by decide +kernel) rfl
theorem q1169 : Cond.instanceMethod yX10_init ∈ TB := tb 1169 (by decide +kernel) rfl
theorem q1170 : Cond.code yX10_init cX10_init 1 none ∈ TB := tb 1170 (by decide +kernel) rfl
theorem q1500 : Cond.arrayClass .long ∈ TB := tb 1500 (by decide +kernel) rfl
theorem q1501 : Cond.arrayClass .double ∈ TB := tb 1501 (by decide +kernel) rfl
def lw_start (S : St) (K : Nat → Nat → Nat → Nat → St → Prop) : Prop := ∀ q1 : Nat, q1 ∉ sL S → let S3 : St := newO S q1 10; w_X9_init S3 q1 (fun (S5 : St) => ∀ q7 : Nat, q7 ∉ sL S5 → let S9 : St := newO S5 q7 11; w_X10_init S9 q7 (fun (S11 : St) => ∀ q13 : Nat, q13 ∉ sL S11 → let S15 : St := newA S11 q13 103 1; ∀ q17 : Nat, q17 ∉ sL S15 → let S19 : St := newA S15 q17 104 1; K q1 q7 q13 q17 S19))
set_option maxRecDepth 100000 in
set_option maxHeartbeats 4000000 in
theorem lc_start {X : XE} {b : Nat} (h : cy X RL "law" cL_law 9 (some .boolean) room_1 []) {K : Nat → Nat → Nat → Nat → St → Prop} (hk : ∀ (a1 a2 a3 a4 : Nat) (S : St), K a1 a2 a3 a4 S → pw X 45 741 S 28 [(0, .ref b), (1, .ref a1), (2, .ref a2), (3, .ref a3), (4, .ref a4), (5, .int 0)] []) {S : St} (hw : lw_start S K) : pw X 0 0 S 0 [(0, .ref b)] [] := by
  unfold lw_start at hw
  refine r_new h kci10 in10 tyX9_ok df10 q86 q87 q55 (by first | decide | exact nl rfl) (by first | decide | exact nl rfl) dL_law_0 (fun q1 h2 => ?_)
  replace hw := hw q1 h2
  refine r_dup h rfl dL_law_3 ?_
  refine r_callI h (fun l => c_X9_init l _ _ _ hw) q88 q89 q55 q90 nd_X9_init rfl ⟨by decide, by decide⟩ rfl rfl ⟨by decide, by decide⟩ (as := []) rfl (by first | decide | exact nl rfl) rfl dL_law_4 nxk (kV fun  S5 hw => ?_)
  refine r_astore_n h [1, 0] rfl (by decide) rfl dL_law_7 ?_
  refine r_new h kci11 in11 tyX10_ok df11 q1166 q1167 q64 (by first | decide | exact nl rfl) (by first | decide | exact nl rfl) dL_law_8 (fun q7 h8 => ?_)
  replace hw := hw q7 h8
  refine r_dup h rfl dL_law_11 ?_
  refine r_callI h (fun l => c_X10_init l _ _ _ hw) q1168 q1169 q64 q1170 nd_X10_init rfl ⟨by decide, by decide⟩ rfl rfl ⟨by decide, by decide⟩ (as := []) rfl (by first | decide | exact nl rfl) rfl dL_law_12 nxk (kV fun  S11 hw => ?_)
  refine r_astore_n h [1, 2, 0] rfl (by decide) rfl dL_law_15 ?_
  refine r_iconst h (v := 1) (by decide) dL_law_16 ?_
  refine r_newJ h (N := 1) q1500 (by first | decide | exact nl rfl) (by first | decide | exact nl rfl) (by first | decide | exact nl rfl) (by first | decide | exact nl rfl) (by first | decide | exact nl rfl) dL_law_17 (fun q13 h14 => ?_)
  replace hw := hw q13 h14
  refine r_astore_n h [1, 2, 3, 0] rfl (by decide) rfl dL_law_19 ?_
  refine r_iconst h (v := 1) (by decide) dL_law_20 ?_
  refine r_newD h (N := 1) q1501 (by first | decide | exact nl rfl) (by first | decide | exact nl rfl) (by first | decide | exact nl rfl) (by first | decide | exact nl rfl) (by first | decide | exact nl rfl) dL_law_21 (fun q17 h18 => ?_)
  replace hw := hw q17 h18
  refine r_astore h [1, 2, 3, 4, 0] (by decide) rfl dL_law_23 ?_
  refine r_iconst h (v := 0) (by decide) dL_law_25 ?_
  refine r_istore h [1, 2, 3, 4, 5, 0] (by decide) rfl dL_law_26 ?_
  exact hk _ _ _ _ _ hw
