def wj_X0_opensAWall_65 (f : Int32 → St → Prop) (k6 : St → Nat → Int32 → Nat → Nat → Nat → Nat → Nat → Int32 → Int32 → Prop) (S : St) (a0 : Nat) (x1 : Int32) (a2 : Nat) (a3 : Nat) (a4 : Nat) (a5 : Nat) (a6 : Nat) (x7 : Int32) (x8 : Int32) (t0 : Int32) : Prop := ok S a0 1 ∧ ∃ b11 : Nat, sP S a0 5 = some b11 ∧ (((t0 = 0) → w_X9_putAt S b11 ((x1 * 8) + x8) 0 (fun (S13 : St) => (((¬ x7 = 0) → k6 S13 a0 x1 a2 a3 a4 a5 a6 1 (x8 + 1)) ∧ ((x7 = 0) → (((t0 = 0) → k6 S13 a0 x1 a2 a3 a4 a5 a6 0 (x8 + 1)) ∧ ((¬ t0 = 0) → k6 S13 a0 x1 a2 a3 a4 a5 a6 1 (x8 + 1))))))) ∧ ((¬ t0 = 0) → w_X9_putAt S b11 ((x1 * 8) + x8) 1 (fun (S15 : St) => (((¬ x7 = 0) → k6 S15 a0 x1 a2 a3 a4 a5 a6 1 (x8 + 1)) ∧ ((x7 = 0) → (((t0 = 0) → k6 S15 a0 x1 a2 a3 a4 a5 a6 0 (x8 + 1)) ∧ ((¬ t0 = 0) → k6 S15 a0 x1 a2 a3 a4 a5 a6 1 (x8 + 1))))))))
def wj_X0_opensAWall_64 (f : Int32 → St → Prop) (k6 : St → Nat → Int32 → Nat → Nat → Nat → Nat → Nat → Int32 → Int32 → Prop) (S : St) (a0 : Nat) (x1 : Int32) (a2 : Nat) (a3 : Nat) (a4 : Nat) (a5 : Nat) (a6 : Nat) (x7 : Int32) (x8 : Int32) : Prop := wj_X0_opensAWall_65 f k6 S a0 x1 a2 a3 a4 a5 a6 x7 x8 0
def wl_X0_opensAWall_6 (f : Int32 → St → Prop) : Nat → St → Nat → Int32 → Nat → Nat → Nat → Nat → Nat → Int32 → Int32 → Prop
  | 0, _, _, _, _, _, _, _, _, _, _ => False
  | n + 1, S, a0, x1, a2, a3, a4, a5, a6, x7, x8 => ok S a0 1 ∧ ((((sI S a0 1) ≤ x8) → (x7 = 0 ∨ x7 = 1) ∧ f x7 S) ∧ ((¬ (sI S a0 1) ≤ x8) → ok S a4 4 ∧ w_X3_suits S a4 a2 x8 (fun (r5 : Int32) (S6 : St) => (((r5 = 0) → wj_X0_opensAWall_64 f (wl_X0_opensAWall_6 f n) S6 a0 x1 a2 a3 a4 a5 a6 x7 x8) ∧ ((¬ r5 = 0) → ok S6 a0 1 ∧ ∃ b18 : Nat, sP S6 a0 3 = some b18 ∧ w_X9_numberAt S6 b18 x1 (fun (r20 : Int32) (S21 : St) => ok S21 a0 1 ∧ ∃ b24 : Nat, sP S21 a0 2 = some b24 ∧ w_X9_numberAt S21 b24 x8 (fun (r26 : Int32) (S27 : St) => (((r26 < r20) → wj_X0_opensAWall_64 f (wl_X0_opensAWall_6 f n) S27 a0 x1 a2 a3 a4 a5 a6 x7 x8) ∧ ((¬ r26 < r20) → ok S27 a5 2 ∧ w_X1_isAgainst S27 a5 a6 a3 a2 x8 (fun (r30 : Int32) (S31 : St) => (((¬ r30 = 0) → wj_X0_opensAWall_64 f (wl_X0_opensAWall_6 f n) S31 a0 x1 a2 a3 a4 a5 a6 x7 x8) ∧ ((r30 = 0) → wj_X0_opensAWall_65 f (wl_X0_opensAWall_6 f n) S31 a0 x1 a2 a3 a4 a5 a6 x7 x8 1))))))))))))
def w_X0_opensAWall (S : St) (a0 : Nat) (x1 : Int32) (a2 : Nat) (a3 : Nat) (a4 : Nat) (a5 : Nat) (a6 : Nat) (f : Int32 → St → Prop) : Prop := (∃ m : Nat, wl_X0_opensAWall_6 f m S a0 x1 a2 a3 a4 a5 a6 0 0)
set_option maxRecDepth 100000 in
set_option maxHeartbeats 4000000 in
theorem c_X0_opensAWall (l : Launch) (S : St) (a0 : Nat) (x1 : Int32) (a2 : Nat) (a3 : Nat) (a4 : Nat) (a5 : Nat) (a6 : Nat) (f : Int32 → St → Prop) (hw : w_X0_opensAWall S a0 x1 a2 a3 a4 a5 a6 f) : Ct l yX0_opensAWall (Cond.code yX0_opensAWall cX0_opensAWall 10 (some .boolean)) { frames := 4, cells := 0, slots := 0, locals := 92 } 0 0 S [.ref a0, .int x1, .ref a2, .ref a3, .ref a4, .ref a5, .ref a6] (pI f) nox := by
  refine entry (by decide +kernel) rfl rfl (by first | decide | exact nl rfl) rfl ?_
  intro X h hq
  have L65 : ∀ (k6 : St → Nat → Int32 → Nat → Nat → Nat → Nat → Nat → Int32 → Int32 → Prop), (∀ (S : St) (a0 : Nat) (x1 : Int32) (a2 : Nat) (a3 : Nat) (a4 : Nat) (a5 : Nat) (a6 : Nat) (x7 : Int32) (x8 : Int32), k6 S a0 x1 a2 a3 a4 a5 a6 x7 x8 → pw X 0 0 S 6 [(0, .ref a0), (1, .int x1), (2, .ref a2), (3, .ref a3), (4, .ref a4), (5, .ref a5), (6, .ref a6), (7, .int x7), (8, .int x8)] []) → ∀ (S : St) (a0 : Nat) (x1 : Int32) (a2 : Nat) (a3 : Nat) (a4 : Nat) (a5 : Nat) (a6 : Nat) (x7 : Int32) (x8 : Int32) (t0 : Int32), wj_X0_opensAWall_65 f k6 S a0 x1 a2 a3 a4 a5 a6 x7 x8 t0 → pw X 0 0 S 65 [(0, .ref a0), (1, .int x1), (2, .ref a2), (3, .ref a3), (4, .ref a4), (5, .ref a5), (6, .ref a6), (7, .int x7), (8, .int x8)] [.int t0] := by
    intro k6 hk6 S a0 x1 a2 a3 a4 a5 a6 x7 x8 t0 hw
    unfold wj_X0_opensAWall_65 at hw
    refine r_istore h [1, 2, 3, 4, 5, 6, 7, 8, 9, 0] (by decide) rfl dX0_opensAWall_65 ?_
    refine r_aload_n h 0 rfl rfl dX0_opensAWall_67 ?_
    obtain ⟨h10, hw⟩ := hw
    obtain ⟨b11, h12, hw⟩ := hw
    refine r_getr h kci1 in1 (k := 5) (by decide) rfl rfl q169 h10 h12 dX0_opensAWall_68 ?_
    refine r_iload_n h 1 rfl rfl dX0_opensAWall_71 ?_
    refine r_bipush h (v := 8) (by decide) dX0_opensAWall_72 ?_
    refine r_imul h dX0_opensAWall_74 ?_
    refine r_iload h 8 rfl dX0_opensAWall_75 ?_
    refine r_iadd h dX0_opensAWall_77 ?_
    refine r_iload h 9 rfl dX0_opensAWall_78 ?_
    refine r_if_eq h 87 dX0_opensAWall_80 (by decide) (fun hc => ?_) (fun hc => ?_)
    · replace hw := hw.1 hc
      refine r_iconst h (v := 0) (by decide) dX0_opensAWall_87 ?_
      refine r_callSN h (fun l => c_X9_putAt l _ _ _ _ _ hw) n414 q415 q55 q416 nd_X9_putAt ⟨by decide, by decide⟩ rfl rfl ⟨by decide, by decide⟩ (as := [.ref b11, .int ((x1 * 8) + x8), .int 0]) rfl (by first | decide | exact nl rfl) rfl dX0_opensAWall_88 nxk (kV fun  S13 hw => ?_)
      refine r_iload h 7 rfl dX0_opensAWall_91 ?_
      refine r_if_ne h 101 dX0_opensAWall_93 (by decide) (fun hc => ?_) (fun hc => ?_)
      · replace hw := hw.1 hc
        refine r_iconst h (v := 1) (by decide) dX0_opensAWall_101 ?_
        refine r_goto h 106 dX0_opensAWall_102 (by decide) ?_
        refine r_istore h [1, 2, 3, 4, 5, 6, 7, 0, 8] (by decide) rfl dX0_opensAWall_106 ?_
        refine r_iinc h (j := 8) (v := (x8 + 1)) [1, 2, 3, 4, 5, 6, 7, 8, 0] rfl rfl (by decide) rfl dX0_opensAWall_108 ?_
        refine r_goto h 6 dX0_opensAWall_111 (by decide) ?_
        exact hk6 _ _ _ _ _ _ _ _ _ _ hw
      · replace hw := hw.2 hc
        refine r_iload h 9 rfl dX0_opensAWall_96 ?_
        refine r_if_eq h 105 dX0_opensAWall_98 (by decide) (fun hc => ?_) (fun hc => ?_)
        · replace hw := hw.1 hc
          refine r_iconst h (v := 0) (by decide) dX0_opensAWall_105 ?_
          refine r_istore h [1, 2, 3, 4, 5, 6, 7, 0, 8] (by decide) rfl dX0_opensAWall_106 ?_
          refine r_iinc h (j := 8) (v := (x8 + 1)) [1, 2, 3, 4, 5, 6, 7, 8, 0] rfl rfl (by decide) rfl dX0_opensAWall_108 ?_
          refine r_goto h 6 dX0_opensAWall_111 (by decide) ?_
          exact hk6 _ _ _ _ _ _ _ _ _ _ hw
        · replace hw := hw.2 hc
          refine r_iconst h (v := 1) (by decide) dX0_opensAWall_101 ?_
          refine r_goto h 106 dX0_opensAWall_102 (by decide) ?_
          refine r_istore h [1, 2, 3, 4, 5, 6, 7, 0, 8] (by decide) rfl dX0_opensAWall_106 ?_
          refine r_iinc h (j := 8) (v := (x8 + 1)) [1, 2, 3, 4, 5, 6, 7, 8, 0] rfl rfl (by decide) rfl dX0_opensAWall_108 ?_
          refine r_goto h 6 dX0_opensAWall_111 (by decide) ?_
          exact hk6 _ _ _ _ _ _ _ _ _ _ hw
    · replace hw := hw.2 hc
      refine r_iconst h (v := 1) (by decide) dX0_opensAWall_83 ?_
      refine r_goto h 88 dX0_opensAWall_84 (by decide) ?_
      refine r_callSN h (fun l => c_X9_putAt l _ _ _ _ _ hw) n414 q415 q55 q416 nd_X9_putAt ⟨by decide, by decide⟩ rfl rfl ⟨by decide, by decide⟩ (as := [.ref b11, .int ((x1 * 8) + x8), .int 1]) rfl (by first | decide | exact nl rfl) rfl dX0_opensAWall_88 nxk (kV fun  S15 hw => ?_)
      refine r_iload h 7 rfl dX0_opensAWall_91 ?_
      refine r_if_ne h 101 dX0_opensAWall_93 (by decide) (fun hc => ?_) (fun hc => ?_)
      · replace hw := hw.1 hc
        refine r_iconst h (v := 1) (by decide) dX0_opensAWall_101 ?_
        refine r_goto h 106 dX0_opensAWall_102 (by decide) ?_
        refine r_istore h [1, 2, 3, 4, 5, 6, 7, 0, 8] (by decide) rfl dX0_opensAWall_106 ?_
        refine r_iinc h (j := 8) (v := (x8 + 1)) [1, 2, 3, 4, 5, 6, 7, 8, 0] rfl rfl (by decide) rfl dX0_opensAWall_108 ?_
        refine r_goto h 6 dX0_opensAWall_111 (by decide) ?_
        exact hk6 _ _ _ _ _ _ _ _ _ _ hw
      · replace hw := hw.2 hc
        refine r_iload h 9 rfl dX0_opensAWall_96 ?_
        refine r_if_eq h 105 dX0_opensAWall_98 (by decide) (fun hc => ?_) (fun hc => ?_)
        · replace hw := hw.1 hc
          refine r_iconst h (v := 0) (by decide) dX0_opensAWall_105 ?_
          refine r_istore h [1, 2, 3, 4, 5, 6, 7, 0, 8] (by decide) rfl dX0_opensAWall_106 ?_
          refine r_iinc h (j := 8) (v := (x8 + 1)) [1, 2, 3, 4, 5, 6, 7, 8, 0] rfl rfl (by decide) rfl dX0_opensAWall_108 ?_
          refine r_goto h 6 dX0_opensAWall_111 (by decide) ?_
          exact hk6 _ _ _ _ _ _ _ _ _ _ hw
        · replace hw := hw.2 hc
          refine r_iconst h (v := 1) (by decide) dX0_opensAWall_101 ?_
          refine r_goto h 106 dX0_opensAWall_102 (by decide) ?_
          refine r_istore h [1, 2, 3, 4, 5, 6, 7, 0, 8] (by decide) rfl dX0_opensAWall_106 ?_
          refine r_iinc h (j := 8) (v := (x8 + 1)) [1, 2, 3, 4, 5, 6, 7, 8, 0] rfl rfl (by decide) rfl dX0_opensAWall_108 ?_
          refine r_goto h 6 dX0_opensAWall_111 (by decide) ?_
          exact hk6 _ _ _ _ _ _ _ _ _ _ hw
  have L64 : ∀ (k6 : St → Nat → Int32 → Nat → Nat → Nat → Nat → Nat → Int32 → Int32 → Prop), (∀ (S : St) (a0 : Nat) (x1 : Int32) (a2 : Nat) (a3 : Nat) (a4 : Nat) (a5 : Nat) (a6 : Nat) (x7 : Int32) (x8 : Int32), k6 S a0 x1 a2 a3 a4 a5 a6 x7 x8 → pw X 0 0 S 6 [(0, .ref a0), (1, .int x1), (2, .ref a2), (3, .ref a3), (4, .ref a4), (5, .ref a5), (6, .ref a6), (7, .int x7), (8, .int x8)] []) → ∀ (S : St) (a0 : Nat) (x1 : Int32) (a2 : Nat) (a3 : Nat) (a4 : Nat) (a5 : Nat) (a6 : Nat) (x7 : Int32) (x8 : Int32), wj_X0_opensAWall_64 f k6 S a0 x1 a2 a3 a4 a5 a6 x7 x8 → pw X 0 0 S 64 [(0, .ref a0), (1, .int x1), (2, .ref a2), (3, .ref a3), (4, .ref a4), (5, .ref a5), (6, .ref a6), (7, .int x7), (8, .int x8)] [] := by
    intro k6 hk6 S a0 x1 a2 a3 a4 a5 a6 x7 x8 hw
    unfold wj_X0_opensAWall_64 at hw
    refine r_iconst h (v := 0) (by decide) dX0_opensAWall_64 ?_
    exact L65 _ hk6 _ _ _ _ _ _ _ _ _ _ _ hw
  have L6 : ∀ (n : Nat) (S : St) (a0 : Nat) (x1 : Int32) (a2 : Nat) (a3 : Nat) (a4 : Nat) (a5 : Nat) (a6 : Nat) (x7 : Int32) (x8 : Int32), wl_X0_opensAWall_6 f n S a0 x1 a2 a3 a4 a5 a6 x7 x8 → pw X 0 0 S 6 [(0, .ref a0), (1, .int x1), (2, .ref a2), (3, .ref a3), (4, .ref a4), (5, .ref a5), (6, .ref a6), (7, .int x7), (8, .int x8)] [] := by
    intro n
    induction n with
    | zero => intro S a0 x1 a2 a3 a4 a5 a6 x7 x8 hw; exact hw.elim
    | succ n ih =>
      intro S a0 x1 a2 a3 a4 a5 a6 x7 x8 hw
      unfold wl_X0_opensAWall_6 at hw
      refine r_iload h 8 rfl dX0_opensAWall_6 ?_
      refine r_aload_n h 0 rfl rfl dX0_opensAWall_8 ?_
      obtain ⟨h2, hw⟩ := hw
      refine r_geti h kci1 in1 (k := 1) (by decide) rfl rfl q164 h2 dX0_opensAWall_9 ?_
      refine r_icmp_ge h 114 dX0_opensAWall_12 (by decide) (fun hc => ?_) (fun hc => ?_)
      · replace hw := hw.1 hc
        refine r_iload h 7 rfl dX0_opensAWall_114 ?_
        obtain ⟨h3, hw⟩ := hw
        exact r_zret h hq (ty := .boolean) rfl (lb h3) ⟨_, rfl, hw⟩ (by decide) (by decide) dX0_opensAWall_116
      · replace hw := hw.2 hc
        refine r_aload h 4 rfl dX0_opensAWall_15 ?_
        refine r_aload_n h 2 rfl rfl dX0_opensAWall_17 ?_
        refine r_iload h 8 rfl dX0_opensAWall_18 ?_
        obtain ⟨h4, hw⟩ := hw
        refine r_callV h (fun l => c_X3_suits l _ _ _ _ _ hw) q425 q306 q307 q56 q308 nd_X3_suits ⟨by decide, by decide⟩ rfl rfl ⟨by decide, by decide⟩ kci4 rfl h4 rfl (by first | decide | exact nl rfl) rfl dX0_opensAWall_20 nxk (kI fun r5 S6 hw => ?_)
        refine r_if_eq h 64 dX0_opensAWall_23 (by decide) (fun hc => ?_) (fun hc => ?_)
        · replace hw := hw.1 hc
          exact L64 _ ih _ _ _ _ _ _ _ _ _ _ hw
        · replace hw := hw.2 hc
          refine r_aload_n h 0 rfl rfl dX0_opensAWall_26 ?_
          obtain ⟨h17, hw⟩ := hw
          obtain ⟨b18, h19, hw⟩ := hw
          refine r_getr h kci1 in1 (k := 3) (by decide) rfl rfl q166 h17 h19 dX0_opensAWall_27 ?_
          refine r_iload_n h 1 rfl rfl dX0_opensAWall_30 ?_
          refine r_callSN h (fun l => c_X9_numberAt l _ _ _ _ hw) n426 q303 q55 q304 nd_X9_numberAt ⟨by decide, by decide⟩ rfl rfl ⟨by decide, by decide⟩ (as := [.ref b18, .int x1]) rfl (by first | decide | exact nl rfl) rfl dX0_opensAWall_31 nxk (kI fun r20 S21 hw => ?_)
          refine r_aload_n h 0 rfl rfl dX0_opensAWall_34 ?_
          obtain ⟨h23, hw⟩ := hw
          obtain ⟨b24, h25, hw⟩ := hw
          refine r_getr h kci1 in1 (k := 2) (by decide) rfl rfl q165 h23 h25 dX0_opensAWall_35 ?_
          refine r_iload h 8 rfl dX0_opensAWall_38 ?_
          refine r_callSN h (fun l => c_X9_numberAt l _ _ _ _ hw) n426 q303 q55 q304 nd_X9_numberAt ⟨by decide, by decide⟩ rfl rfl ⟨by decide, by decide⟩ (as := [.ref b24, .int x8]) rfl (by first | decide | exact nl rfl) rfl dX0_opensAWall_40 nxk (kI fun r26 S27 hw => ?_)
          refine r_icmp_gt h 64 dX0_opensAWall_43 (by decide) (fun hc => ?_) (fun hc => ?_)
          · replace hw := hw.1 hc
            exact L64 _ ih _ _ _ _ _ _ _ _ _ _ hw
          · replace hw := hw.2 hc
            refine r_aload h 5 rfl dX0_opensAWall_46 ?_
            refine r_aload h 6 rfl dX0_opensAWall_48 ?_
            refine r_aload_n h 3 rfl rfl dX0_opensAWall_50 ?_
            refine r_aload_n h 2 rfl rfl dX0_opensAWall_51 ?_
            refine r_iload h 8 rfl dX0_opensAWall_52 ?_
            obtain ⟨h29, hw⟩ := hw
            refine r_callV h (fun l => c_X1_isAgainst l _ _ _ _ _ _ _ hw) q427 q328 q329 q61 q330 nd_X1_isAgainst ⟨by decide, by decide⟩ rfl rfl ⟨by decide, by decide⟩ kci2 rfl h29 rfl (by first | decide | exact nl rfl) rfl dX0_opensAWall_54 nxk (kI fun r30 S31 hw => ?_)
            refine r_if_ne h 64 dX0_opensAWall_57 (by decide) (fun hc => ?_) (fun hc => ?_)
            · replace hw := hw.1 hc
              exact L64 _ ih _ _ _ _ _ _ _ _ _ _ hw
            · replace hw := hw.2 hc
              refine r_iconst h (v := 1) (by decide) dX0_opensAWall_60 ?_
              refine r_goto h 65 dX0_opensAWall_61 (by decide) ?_
              exact L65 _ ih _ _ _ _ _ _ _ _ _ _ _ hw
  unfold w_X0_opensAWall at hw
  refine r_iconst h (v := 0) (by decide) dX0_opensAWall_0 ?_
  refine r_istore h [1, 2, 3, 4, 5, 6, 7, 0] (by decide) rfl dX0_opensAWall_1 ?_
  refine r_iconst h (v := 0) (by decide) dX0_opensAWall_3 ?_
  refine r_istore h [1, 2, 3, 4, 5, 6, 7, 8, 0] (by decide) rfl dX0_opensAWall_4 ?_
  obtain ⟨m, hw⟩ := hw
  exact L6 m _ _ _ _ _ _ _ _ _ _ hw

def wl_X0_prepare_111 (f : Int32 → St → Prop) (k63 : St → Nat → Nat → Nat → Nat → Nat → Int32 → Prop) : Nat → St → Nat → Nat → Nat → Nat → Nat → Int32 → Nat → Int32 → Prop
  | 0, _, _, _, _, _, _, _, _, _ => False
  | n + 1, S, a0, a1, a2, a3, a4, x5, a6, x7 => (((x5 ≤ x7) → ok S a3 2 ∧ w_X1_allowsTaking S a3 a1 a6 (fun (r42 : Int32) (S43 : St) => (((r42 = 0) → f 0 S43) ∧ ((¬ r42 = 0) → ok S43 a0 1 ∧ w_X0_opensAWall S43 a0 x5 a6 a1 a2 a3 a4 (fun (r46 : Int32) (S47 : St) => (((¬ r46 = 0) → k63 S47 a0 a1 a2 a3 a4 (x5 + 1)) ∧ ((r46 = 0) → f 0 S47))))))) ∧ ((¬ x5 ≤ x7) → ok S a6 9 ∧ ok S a1 3 ∧ ∃ b51 : Nat, sP S a1 4 = some b51 ∧ ok S b51 0 ∧ w_Jx4a65c_get_915e3 S b51 x7 (fun (b54 : Nat) (S55 : St) => ok S55 b54 9 ∧ ok S55 a4 8 ∧ w_X7_kindOf S55 a4 (sI S a6 0) (sI S55 b54 0) (fun (r59 : Int32) (S60 : St) => ok S60 a0 1 ∧ ∃ b63 : Nat, sP S60 a0 6 = some b63 ∧ w_X9_putAt S60 b63 ((x5 * 5) + x7) r59 (fun (S65 : St) => wl_X0_prepare_111 f k63 n S65 a0 a1 a2 a3 a4 x5 a6 (x7 + 1))))))
def wl_X0_prepare_63 (f : Int32 → St → Prop) : Nat → St → Nat → Nat → Nat → Nat → Nat → Int32 → Prop
  | 0, _, _, _, _, _, _, _ => False
  | n + 1, S, a0, a1, a2, a3, a4, x5 => ok S a1 3 ∧ ∃ b20 : Nat, sP S a1 4 = some b20 ∧ ok S b20 0 ∧ w_Jx4a65c_size_8abf5 S b20 (fun (r23 : Int32) (S24 : St) => (((r23 ≤ x5) → f 1 S24) ∧ ((¬ r23 ≤ x5) → ok S24 a1 3 ∧ ∃ b27 : Nat, sP S24 a1 4 = some b27 ∧ ok S24 b27 0 ∧ w_Jx4a65c_get_915e3 S24 b27 x5 (fun (b30 : Nat) (S31 : St) => ok S31 b30 9 ∧ ok S31 a0 1 ∧ ∃ b35 : Nat, sP S31 a0 3 = some b35 ∧ ok S31 a1 3 ∧ w_X9_putAt S31 b35 x5 ((sI S31 b30 1) + (sI S31 a1 3)) (fun (S38 : St) => (∃ m : Nat, wl_X0_prepare_111 f (wl_X0_prepare_63 f n) m S38 a0 a1 a2 a3 a4 x5 b30 0))))))
def wl_X0_prepare_22 (f : Int32 → St → Prop) : Nat → St → Nat → Nat → Nat → Nat → Nat → Int32 → Prop
  | 0, _, _, _, _, _, _, _ => False
  | n + 1, S, a0, a1, a2, a3, a4, x5 => ok S a0 1 ∧ ((((sI S a0 1) ≤ x5) → (∃ m : Nat, wl_X0_prepare_63 f m S a0 a1 a2 a3 a4 0)) ∧ ((¬ (sI S a0 1) ≤ x5) → ∃ b67 : Nat, sP S a0 2 = some b67 ∧ ok S a2 4 ∧ w_X3_lengthOf S a2 x5 (fun (r70 : Int32) (S71 : St) => ok S71 a3 2 ∧ w_X1_mostTakenDuring S71 a3 a1 x5 (fun (r74 : Int32) (S75 : St) => w_X9_putAt S75 b67 x5 (r70 - r74) (fun (S77 : St) => wl_X0_prepare_22 f n S77 a0 a1 a2 a3 a4 (x5 + 1))))))
def w_X0_prepare (S : St) (a0 : Nat) (a1 : Nat) (a2 : Nat) (a3 : Nat) (a4 : Nat) (f : Int32 → St → Prop) : Prop := ok S a1 3 ∧ ∃ b2 : Nat, sP S a1 4 = some b2 ∧ ok S b2 0 ∧ w_Jx4a65c_size_8abf5 S b2 (fun (r5 : Int32) (S6 : St) => ok S6 a0 1 ∧ let S9 : St := setI S6 a0 0 r5; ok S9 a2 4 ∧ w_X3_walls S9 a2 (fun (r11 : Int32) (S12 : St) => ok S12 a0 1 ∧ let S15 : St := setI S12 a0 1 r11; (∃ m : Nat, wl_X0_prepare_22 f m S15 a0 a1 a2 a3 a4 0)))
set_option maxRecDepth 100000 in
set_option maxHeartbeats 4000000 in
theorem c_X0_prepare (l : Launch) (S : St) (a0 : Nat) (a1 : Nat) (a2 : Nat) (a3 : Nat) (a4 : Nat) (f : Int32 → St → Prop) (hw : w_X0_prepare S a0 a1 a2 a3 a4 f) : Ct l yX0_prepare (Cond.code yX0_prepare cX0_prepare 9 (some .boolean)) { frames := 6, cells := 0, slots := 0, locals := 137 } 0 0 S [.ref a0, .ref a1, .ref a2, .ref a3, .ref a4] (pI f) nox := by
  refine entry (by decide +kernel) rfl rfl (by first | decide | exact nl rfl) rfl ?_
  intro X h hq
  have L111 : ∀ (k63 : St → Nat → Nat → Nat → Nat → Nat → Int32 → Prop), (∀ (S : St) (a0 : Nat) (a1 : Nat) (a2 : Nat) (a3 : Nat) (a4 : Nat) (x5 : Int32), k63 S a0 a1 a2 a3 a4 x5 → pw X 0 0 S 63 [(0, .ref a0), (1, .ref a1), (2, .ref a2), (3, .ref a3), (4, .ref a4), (5, .int x5)] []) → ∀ (n : Nat) (S : St) (a0 : Nat) (a1 : Nat) (a2 : Nat) (a3 : Nat) (a4 : Nat) (x5 : Int32) (a6 : Nat) (x7 : Int32), wl_X0_prepare_111 f k63 n S a0 a1 a2 a3 a4 x5 a6 x7 → pw X 0 0 S 111 [(0, .ref a0), (1, .ref a1), (2, .ref a2), (3, .ref a3), (4, .ref a4), (5, .int x5), (6, .ref a6), (7, .int x7)] [] := by
    intro k63 hk63 n
    induction n with
    | zero => intro S a0 a1 a2 a3 a4 x5 a6 x7 hw; exact hw.elim
    | succ n ih =>
      intro S a0 a1 a2 a3 a4 x5 a6 x7 hw
      unfold wl_X0_prepare_111 at hw
      refine r_iload h 7 rfl dX0_prepare_111 ?_
      refine r_iload h 5 rfl dX0_prepare_113 ?_
      refine r_icmp_ge h 167 dX0_prepare_115 (by decide) (fun hc => ?_) (fun hc => ?_)
      · replace hw := hw.1 hc
        refine r_aload_n h 3 rfl rfl dX0_prepare_167 ?_
        refine r_aload_n h 1 rfl rfl dX0_prepare_168 ?_
        refine r_aload h 6 rfl dX0_prepare_169 ?_
        obtain ⟨h41, hw⟩ := hw
        refine r_callV h (fun l => c_X1_allowsTaking l _ _ _ _ _ hw) q420 q372 q373 q61 q374 nd_X1_allowsTaking ⟨by decide, by decide⟩ rfl rfl ⟨by decide, by decide⟩ kci2 rfl h41 rfl (by first | decide | exact nl rfl) rfl dX0_prepare_171 nxk (kI fun r42 S43 hw => ?_)
        refine r_if_eq h 193 dX0_prepare_174 (by decide) (fun hc => ?_) (fun hc => ?_)
        · replace hw := hw.1 hc
          refine r_iconst h (v := 0) (by decide) dX0_prepare_193 ?_
          exact r_zret h hq (ty := .boolean) rfl rfl ⟨_, rfl, hw⟩ (by decide) (by decide) dX0_prepare_194
        · replace hw := hw.2 hc
          refine r_aload_n h 0 rfl rfl dX0_prepare_177 ?_
          refine r_iload h 5 rfl dX0_prepare_178 ?_
          refine r_aload h 6 rfl dX0_prepare_180 ?_
          refine r_aload_n h 1 rfl rfl dX0_prepare_182 ?_
          refine r_aload_n h 2 rfl rfl dX0_prepare_183 ?_
          refine r_aload_n h 3 rfl rfl dX0_prepare_184 ?_
          refine r_aload h 4 rfl dX0_prepare_185 ?_
          obtain ⟨h45, hw⟩ := hw
          refine r_callV h (fun l => c_X0_opensAWall l _ _ _ _ _ _ _ _ _ hw) q421 q423 q5 q62 q424 nd_X0_opensAWall ⟨by decide, by decide⟩ rfl rfl ⟨by decide, by decide⟩ kci1 rfl h45 rfl (by first | decide | exact nl rfl) rfl dX0_prepare_187 nxk (kI fun r46 S47 hw => ?_)
          refine r_if_ne h 195 dX0_prepare_190 (by decide) (fun hc => ?_) (fun hc => ?_)
          · replace hw := hw.1 hc
            refine r_iinc h (j := 5) (v := (x5 + 1)) [1, 2, 3, 4, 5, 0, 6, 7] rfl rfl (by decide) rfl dX0_prepare_195 ?_
            refine r_goto h 63 dX0_prepare_198 (by decide) ?_
            refine r_vs [0, 1, 2, 3, 4, 5] rfl ?_
            exact hk63 _ _ _ _ _ _ _ hw
          · replace hw := hw.2 hc
            refine r_iconst h (v := 0) (by decide) dX0_prepare_193 ?_
            exact r_zret h hq (ty := .boolean) rfl rfl ⟨_, rfl, hw⟩ (by decide) (by decide) dX0_prepare_194
      · replace hw := hw.2 hc
        refine r_aload h 4 rfl dX0_prepare_118 ?_
        refine r_aload h 6 rfl dX0_prepare_120 ?_
        obtain ⟨h49, hw⟩ := hw
        refine r_getiN h kci9 in9 (k := 0) (by decide) rfl rfl n765 h49 dX0_prepare_122 ?_
        refine r_aload_n h 1 rfl rfl dX0_prepare_125 ?_
        obtain ⟨h50, hw⟩ := hw
        obtain ⟨b51, h52, hw⟩ := hw
        refine r_getrN h kci3 in3 (k := 4) (by decide) rfl rfl n873 h50 h52 dX0_prepare_126 ?_
        refine r_iload h 7 rfl dX0_prepare_129 ?_
        obtain ⟨h53, hw⟩ := hw
        refine r_callV h (fun l => c_Jx4a65c_get_915e3 l _ _ _ _ hw) q417 q260 q261 q59 q262 nd_Jx4a65c_get_915e3 ⟨by decide, by decide⟩ rfl rfl ⟨by decide, by decide⟩ kci0 rfl h53 rfl (by first | decide | exact nl rfl) rfl dX0_prepare_131 nxk (kA fun b54 S55 hw => ?_)
        obtain ⟨h57, hw⟩ := hw
        refine r_castS h kci9 q418 h57 dX0_prepare_134 ?_
        refine r_getiN h kci9 in9 (k := 0) (by decide) rfl rfl n765 h57 dX0_prepare_137 ?_
        obtain ⟨h58, hw⟩ := hw
        refine r_callV h (fun l => c_X7_kindOf l _ _ _ _ _ hw) q419 q336 q337 q60 q338 nd_X7_kindOf ⟨by decide, by decide⟩ rfl rfl ⟨by decide, by decide⟩ kci8 rfl h58 rfl (by first | decide | exact nl rfl) rfl dX0_prepare_140 nxk (kI fun r59 S60 hw => ?_)
        refine r_istore h [1, 2, 3, 4, 5, 6, 7, 8, 0] (by decide) rfl dX0_prepare_143 ?_
        refine r_aload_n h 0 rfl rfl dX0_prepare_145 ?_
        obtain ⟨h62, hw⟩ := hw
        obtain ⟨b63, h64, hw⟩ := hw
        refine r_getr h kci1 in1 (k := 6) (by decide) rfl rfl q170 h62 h64 dX0_prepare_146 ?_
        refine r_iload h 5 rfl dX0_prepare_149 ?_
        refine r_iconst h (v := 5) (by decide) dX0_prepare_151 ?_
        refine r_imul h dX0_prepare_152 ?_
        refine r_iload h 7 rfl dX0_prepare_153 ?_
        refine r_iadd h dX0_prepare_155 ?_
        refine r_iload h 8 rfl dX0_prepare_156 ?_
        refine r_callSN h (fun l => c_X9_putAt l _ _ _ _ _ hw) n414 q415 q55 q416 nd_X9_putAt ⟨by decide, by decide⟩ rfl rfl ⟨by decide, by decide⟩ (as := [.ref b63, .int ((x5 * 5) + x7), .int r59]) rfl (by first | decide | exact nl rfl) rfl dX0_prepare_158 nxk (kV fun  S65 hw => ?_)
        refine r_iinc h (j := 7) (v := (x7 + 1)) [1, 2, 3, 4, 5, 6, 7, 0, 8] rfl rfl (by decide) rfl dX0_prepare_161 ?_
        refine r_goto h 111 dX0_prepare_164 (by decide) ?_
        refine r_vs [0, 1, 2, 3, 4, 5, 6, 7] rfl ?_
        exact ih _ _ _ _ _ _ _ _ _ hw
  have L63 : ∀ (n : Nat) (S : St) (a0 : Nat) (a1 : Nat) (a2 : Nat) (a3 : Nat) (a4 : Nat) (x5 : Int32), wl_X0_prepare_63 f n S a0 a1 a2 a3 a4 x5 → pw X 0 0 S 63 [(0, .ref a0), (1, .ref a1), (2, .ref a2), (3, .ref a3), (4, .ref a4), (5, .int x5)] [] := by
    intro n
    induction n with
    | zero => intro S a0 a1 a2 a3 a4 x5 hw; exact hw.elim
    | succ n ih =>
      intro S a0 a1 a2 a3 a4 x5 hw
      unfold wl_X0_prepare_63 at hw
      refine r_iload h 5 rfl dX0_prepare_63 ?_
      refine r_aload_n h 1 rfl rfl dX0_prepare_65 ?_
      obtain ⟨h19, hw⟩ := hw
      obtain ⟨b20, h21, hw⟩ := hw
      refine r_getrN h kci3 in3 (k := 4) (by decide) rfl rfl n873 h19 h21 dX0_prepare_66 ?_
      obtain ⟨h22, hw⟩ := hw
      refine r_callV h (fun l => c_Jx4a65c_size_8abf5 l _ _ _ hw) q403 q239 q240 q59 q241 nd_Jx4a65c_size_8abf5 ⟨by decide, by decide⟩ rfl rfl ⟨by decide, by decide⟩ kci0 rfl h22 rfl (by first | decide | exact nl rfl) rfl dX0_prepare_69 nxk (kI fun r23 S24 hw => ?_)
      refine r_icmp_ge h 201 dX0_prepare_72 (by decide) (fun hc => ?_) (fun hc => ?_)
      · replace hw := hw.1 hc
        refine r_iconst h (v := 1) (by decide) dX0_prepare_201 ?_
        exact r_zret h hq (ty := .boolean) rfl rfl ⟨_, rfl, hw⟩ (by decide) (by decide) dX0_prepare_202
      · replace hw := hw.2 hc
        refine r_aload_n h 1 rfl rfl dX0_prepare_75 ?_
        obtain ⟨h26, hw⟩ := hw
        obtain ⟨b27, h28, hw⟩ := hw
        refine r_getrN h kci3 in3 (k := 4) (by decide) rfl rfl n873 h26 h28 dX0_prepare_76 ?_
        refine r_iload h 5 rfl dX0_prepare_79 ?_
        obtain ⟨h29, hw⟩ := hw
        refine r_callV h (fun l => c_Jx4a65c_get_915e3 l _ _ _ _ hw) q417 q260 q261 q59 q262 nd_Jx4a65c_get_915e3 ⟨by decide, by decide⟩ rfl rfl ⟨by decide, by decide⟩ kci0 rfl h29 rfl (by first | decide | exact nl rfl) rfl dX0_prepare_81 nxk (kA fun b30 S31 hw => ?_)
        obtain ⟨h33, hw⟩ := hw
        refine r_castS h kci9 q418 h33 dX0_prepare_84 ?_
        refine r_astore h [1, 2, 3, 4, 5, 6, 0] (by decide) rfl dX0_prepare_87 ?_
        refine r_aload_n h 0 rfl rfl dX0_prepare_89 ?_
        obtain ⟨h34, hw⟩ := hw
        obtain ⟨b35, h36, hw⟩ := hw
        refine r_getr h kci1 in1 (k := 3) (by decide) rfl rfl q166 h34 h36 dX0_prepare_90 ?_
        refine r_iload h 5 rfl dX0_prepare_93 ?_
        refine r_aload h 6 rfl dX0_prepare_95 ?_
        refine r_getiN h kci9 in9 (k := 1) (by decide) rfl rfl n770 h33 dX0_prepare_97 ?_
        refine r_aload_n h 1 rfl rfl dX0_prepare_100 ?_
        obtain ⟨h37, hw⟩ := hw
        refine r_getiN h kci3 in3 (k := 3) (by decide) rfl rfl n871 h37 dX0_prepare_101 ?_
        refine r_iadd h dX0_prepare_104 ?_
        refine r_callSN h (fun l => c_X9_putAt l _ _ _ _ _ hw) n414 q415 q55 q416 nd_X9_putAt ⟨by decide, by decide⟩ rfl rfl ⟨by decide, by decide⟩ (as := [.ref b35, .int x5, .int ((sI S31 b30 1) + (sI S31 a1 3))]) rfl (by first | decide | exact nl rfl) rfl dX0_prepare_105 nxk (kV fun  S38 hw => ?_)
        refine r_iconst h (v := 0) (by decide) dX0_prepare_108 ?_
        refine r_istore h [1, 2, 3, 4, 5, 6, 7, 0] (by decide) rfl dX0_prepare_109 ?_
        obtain ⟨m, hw⟩ := hw
        exact L111 _ ih m _ _ _ _ _ _ _ _ _ hw
  have L22 : ∀ (n : Nat) (S : St) (a0 : Nat) (a1 : Nat) (a2 : Nat) (a3 : Nat) (a4 : Nat) (x5 : Int32), wl_X0_prepare_22 f n S a0 a1 a2 a3 a4 x5 → pw X 0 0 S 22 [(0, .ref a0), (1, .ref a1), (2, .ref a2), (3, .ref a3), (4, .ref a4), (5, .int x5)] [] := by
    intro n
    induction n with
    | zero => intro S a0 a1 a2 a3 a4 x5 hw; exact hw.elim
    | succ n ih =>
      intro S a0 a1 a2 a3 a4 x5 hw
      unfold wl_X0_prepare_22 at hw
      refine r_iload h 5 rfl dX0_prepare_22 ?_
      refine r_aload_n h 0 rfl rfl dX0_prepare_24 ?_
      obtain ⟨h17, hw⟩ := hw
      refine r_geti h kci1 in1 (k := 1) (by decide) rfl rfl q164 h17 dX0_prepare_25 ?_
      refine r_icmp_ge h 60 dX0_prepare_28 (by decide) (fun hc => ?_) (fun hc => ?_)
      · replace hw := hw.1 hc
        refine r_iconst h (v := 0) (by decide) dX0_prepare_60 ?_
        refine r_istore h [1, 2, 3, 4, 5, 0] (by decide) rfl dX0_prepare_61 ?_
        obtain ⟨m, hw⟩ := hw
        exact L63 m _ _ _ _ _ _ _ hw
      · replace hw := hw.2 hc
        refine r_aload_n h 0 rfl rfl dX0_prepare_31 ?_
        obtain ⟨b67, h68, hw⟩ := hw
        refine r_getr h kci1 in1 (k := 2) (by decide) rfl rfl q165 h17 h68 dX0_prepare_32 ?_
        refine r_iload h 5 rfl dX0_prepare_35 ?_
        refine r_aload_n h 2 rfl rfl dX0_prepare_37 ?_
        refine r_iload h 5 rfl dX0_prepare_38 ?_
        obtain ⟨h69, hw⟩ := hw
        refine r_callV h (fun l => c_X3_lengthOf l _ _ _ _ hw) q405 q360 q361 q56 q362 nd_X3_lengthOf ⟨by decide, by decide⟩ rfl rfl ⟨by decide, by decide⟩ kci4 rfl h69 rfl (by first | decide | exact nl rfl) rfl dX0_prepare_40 nxk (kI fun r70 S71 hw => ?_)
        refine r_aload_n h 3 rfl rfl dX0_prepare_43 ?_
        refine r_aload_n h 1 rfl rfl dX0_prepare_44 ?_
        refine r_iload h 5 rfl dX0_prepare_45 ?_
        obtain ⟨h73, hw⟩ := hw
        refine r_callV h (fun l => c_X1_mostTakenDuring l _ _ _ _ _ hw) q406 q407 q408 q61 q409 nd_X1_mostTakenDuring ⟨by decide, by decide⟩ rfl rfl ⟨by decide, by decide⟩ kci2 rfl h73 rfl (by first | decide | exact nl rfl) rfl dX0_prepare_47 nxk (kI fun r74 S75 hw => ?_)
        refine r_isub h dX0_prepare_50 ?_
        refine r_callSN h (fun l => c_X9_putAt l _ _ _ _ _ hw) n414 q415 q55 q416 nd_X9_putAt ⟨by decide, by decide⟩ rfl rfl ⟨by decide, by decide⟩ (as := [.ref b67, .int x5, .int (r70 - r74)]) rfl (by first | decide | exact nl rfl) rfl dX0_prepare_51 nxk (kV fun  S77 hw => ?_)
        refine r_iinc h (j := 5) (v := (x5 + 1)) [1, 2, 3, 4, 5, 0] rfl rfl (by decide) rfl dX0_prepare_54 ?_
        refine r_goto h 22 dX0_prepare_57 (by decide) ?_
        exact ih _ _ _ _ _ _ _ hw
  unfold w_X0_prepare at hw
  refine r_aload_n h 0 rfl rfl dX0_prepare_0 ?_
  refine r_aload_n h 1 rfl rfl dX0_prepare_1 ?_
  obtain ⟨h1, hw⟩ := hw
  obtain ⟨b2, h3, hw⟩ := hw
  refine r_getrN h kci3 in3 (k := 4) (by decide) rfl rfl n873 h1 h3 dX0_prepare_2 ?_
  obtain ⟨h4, hw⟩ := hw
  refine r_callV h (fun l => c_Jx4a65c_size_8abf5 l _ _ _ hw) q403 q239 q240 q59 q241 nd_Jx4a65c_size_8abf5 ⟨by decide, by decide⟩ rfl rfl ⟨by decide, by decide⟩ kci0 rfl h4 rfl (by first | decide | exact nl rfl) rfl dX0_prepare_5 nxk (kI fun r5 S6 hw => ?_)
  obtain ⟨h8, hw⟩ := hw
  refine r_puti h kci1 in1 tyX0_ok nmX0 (k := 0) (by decide) rfl rfl rfl rfl rfl rfl q163 h8 dX0_prepare_8 ?_
  refine r_aload_n h 0 rfl rfl dX0_prepare_11 ?_
  refine r_aload_n h 2 rfl rfl dX0_prepare_12 ?_
  obtain ⟨h10, hw⟩ := hw
  refine r_callV h (fun l => c_X3_walls l _ _ _ hw) q404 q310 q311 q56 q312 nd_X3_walls ⟨by decide, by decide⟩ rfl rfl ⟨by decide, by decide⟩ kci4 rfl h10 rfl (by first | decide | exact nl rfl) rfl dX0_prepare_13 nxk (kI fun r11 S12 hw => ?_)
  obtain ⟨h14, hw⟩ := hw
  refine r_puti h kci1 in1 tyX0_ok nmX0 (k := 1) (by decide) rfl rfl rfl rfl rfl rfl q164 h14 dX0_prepare_16 ?_
  refine r_iconst h (v := 0) (by decide) dX0_prepare_19 ?_
  refine r_istore h [1, 2, 3, 4, 5, 0] (by decide) rfl dX0_prepare_20 ?_
  obtain ⟨m, hw⟩ := hw
  exact L22 m _ _ _ _ _ _ _ hw

def wl_X0_fitsToThoseBefore_39 (f : Int32 → St → Prop) : Nat → St → Nat → Int32 → Int32 → Int32 → Int32 → Prop
  | 0, _, _, _, _, _, _ => False
  | n + 1, S, a0, x1, x2, x3, x4 => (((x1 ≤ x4) → ok S a0 1 ∧ ∃ b21 : Nat, sP S a0 2 = some b21 ∧ w_X9_numberAt S b21 x2 (fun (r23 : Int32) (S24 : St) => (((r23 < x3) → f 0 S24) ∧ ((¬ r23 < x3) → f 1 S24)))) ∧ ((¬ x1 ≤ x4) → ok S a0 1 ∧ ∃ b27 : Nat, sP S a0 4 = some b27 ∧ w_X9_numberAt S b27 x4 (fun (r29 : Int32) (S30 : St) => ok S30 a0 1 ∧ ∃ b33 : Nat, sP S30 a0 6 = some b33 ∧ w_X9_numberAt S30 b33 ((x1 * 5) + x4) (fun (r35 : Int32) (S36 : St) => w_X9_isBroken S36 (cof r35) x2 r29 (fun (r38 : Int32) (S39 : St) => (((r38 = 0) → (((¬ r29 = x2) → wl_X0_fitsToThoseBefore_39 f n S39 a0 x1 x2 (x3 + 0) (x4 + 1)) ∧ ((r29 = x2) → ok S39 a0 1 ∧ ∃ b42 : Nat, sP S39 a0 3 = some b42 ∧ w_X9_numberAt S39 b42 x4 (fun (r44 : Int32) (S45 : St) => wl_X0_fitsToThoseBefore_39 f n S45 a0 x1 x2 (x3 + r44) (x4 + 1))))) ∧ ((¬ r38 = 0) → f 0 S39)))))))
def w_X0_fitsToThoseBefore (S : St) (a0 : Nat) (x1 : Int32) (f : Int32 → St → Prop) : Prop := ok S a0 1 ∧ ∃ b2 : Nat, sP S a0 4 = some b2 ∧ w_X9_numberAt S b2 x1 (fun (r4 : Int32) (S5 : St) => ok S5 a0 1 ∧ ∃ b8 : Nat, sP S5 a0 5 = some b8 ∧ w_X9_numberAt S5 b8 ((x1 * 8) + r4) (fun (r10 : Int32) (S11 : St) => (((¬ r10 = 0) → ok S11 a0 1 ∧ ∃ b14 : Nat, sP S11 a0 3 = some b14 ∧ w_X9_numberAt S11 b14 x1 (fun (r16 : Int32) (S17 : St) => (∃ m : Nat, wl_X0_fitsToThoseBefore_39 f m S17 a0 x1 r4 r16 0))) ∧ ((r10 = 0) → f 0 S11))))
set_option maxRecDepth 100000 in
set_option maxHeartbeats 4000000 in
theorem c_X0_fitsToThoseBefore (l : Launch) (S : St) (a0 : Nat) (x1 : Int32) (f : Int32 → St → Prop) (hw : w_X0_fitsToThoseBefore S a0 x1 f) : Ct l yX0_fitsToThoseBefore (Cond.code yX0_fitsToThoseBefore cX0_fitsToThoseBefore 6 (some .boolean)) { frames := 1, cells := 0, slots := 0, locals := 22 } 0 0 S [.ref a0, .int x1] (pI f) nox := by
  refine entry (by decide +kernel) rfl rfl (by first | decide | exact nl rfl) rfl ?_
  intro X h hq
  have L39 : ∀ (n : Nat) (S : St) (a0 : Nat) (x1 : Int32) (x2 : Int32) (x3 : Int32) (x4 : Int32), wl_X0_fitsToThoseBefore_39 f n S a0 x1 x2 x3 x4 → pw X 0 0 S 39 [(0, .ref a0), (1, .int x1), (2, .int x2), (3, .int x3), (4, .int x4)] [] := by
    intro n
    induction n with
    | zero => intro S a0 x1 x2 x3 x4 hw; exact hw.elim
    | succ n ih =>
      intro S a0 x1 x2 x3 x4 hw
      unfold wl_X0_fitsToThoseBefore_39 at hw
      refine r_iload h 4 rfl dX0_fitsToThoseBefore_39 ?_
      refine r_iload_n h 1 rfl rfl dX0_fitsToThoseBefore_41 ?_
      refine r_icmp_ge h 109 dX0_fitsToThoseBefore_42 (by decide) (fun hc => ?_) (fun hc => ?_)
      · replace hw := hw.1 hc
        refine r_iload_n h 3 rfl rfl dX0_fitsToThoseBefore_109 ?_
        refine r_aload_n h 0 rfl rfl dX0_fitsToThoseBefore_110 ?_
        obtain ⟨h20, hw⟩ := hw
        obtain ⟨b21, h22, hw⟩ := hw
        refine r_getr h kci1 in1 (k := 2) (by decide) rfl rfl q165 h20 h22 dX0_fitsToThoseBefore_111 ?_
        refine r_iload_n h 2 rfl rfl dX0_fitsToThoseBefore_114 ?_
        refine r_callSN h (fun l => c_X9_numberAt l _ _ _ _ hw) n426 q303 q55 q304 nd_X9_numberAt ⟨by decide, by decide⟩ rfl rfl ⟨by decide, by decide⟩ (as := [.ref b21, .int x2]) rfl (by first | decide | exact nl rfl) rfl dX0_fitsToThoseBefore_115 nxk (kI fun r23 S24 hw => ?_)
        refine r_icmp_gt h 125 dX0_fitsToThoseBefore_118 (by decide) (fun hc => ?_) (fun hc => ?_)
        · replace hw := hw.1 hc
          refine r_iconst h (v := 0) (by decide) dX0_fitsToThoseBefore_125 ?_
          exact r_zret h hq (ty := .boolean) rfl rfl ⟨_, rfl, hw⟩ (by decide) (by decide) dX0_fitsToThoseBefore_126
        · replace hw := hw.2 hc
          refine r_iconst h (v := 1) (by decide) dX0_fitsToThoseBefore_121 ?_
          refine r_goto h 126 dX0_fitsToThoseBefore_122 (by decide) ?_
          exact r_zret h hq (ty := .boolean) rfl rfl ⟨_, rfl, hw⟩ (by decide) (by decide) dX0_fitsToThoseBefore_126
      · replace hw := hw.2 hc
        refine r_aload_n h 0 rfl rfl dX0_fitsToThoseBefore_45 ?_
        obtain ⟨h26, hw⟩ := hw
        obtain ⟨b27, h28, hw⟩ := hw
        refine r_getr h kci1 in1 (k := 4) (by decide) rfl rfl q167 h26 h28 dX0_fitsToThoseBefore_46 ?_
        refine r_iload h 4 rfl dX0_fitsToThoseBefore_49 ?_
        refine r_callSN h (fun l => c_X9_numberAt l _ _ _ _ hw) n426 q303 q55 q304 nd_X9_numberAt ⟨by decide, by decide⟩ rfl rfl ⟨by decide, by decide⟩ (as := [.ref b27, .int x4]) rfl (by first | decide | exact nl rfl) rfl dX0_fitsToThoseBefore_51 nxk (kI fun r29 S30 hw => ?_)
        refine r_istore h [1, 2, 3, 4, 5, 0] (by decide) rfl dX0_fitsToThoseBefore_54 ?_
        refine r_aload_n h 0 rfl rfl dX0_fitsToThoseBefore_56 ?_
        obtain ⟨h32, hw⟩ := hw
        obtain ⟨b33, h34, hw⟩ := hw
        refine r_getr h kci1 in1 (k := 6) (by decide) rfl rfl q170 h32 h34 dX0_fitsToThoseBefore_57 ?_
        refine r_iload_n h 1 rfl rfl dX0_fitsToThoseBefore_60 ?_
        refine r_iconst h (v := 5) (by decide) dX0_fitsToThoseBefore_61 ?_
        refine r_imul h dX0_fitsToThoseBefore_62 ?_
        refine r_iload h 4 rfl dX0_fitsToThoseBefore_63 ?_
        refine r_iadd h dX0_fitsToThoseBefore_65 ?_
        refine r_callSN h (fun l => c_X9_numberAt l _ _ _ _ hw) n426 q303 q55 q304 nd_X9_numberAt ⟨by decide, by decide⟩ rfl rfl ⟨by decide, by decide⟩ (as := [.ref b33, .int ((x1 * 5) + x4)]) rfl (by first | decide | exact nl rfl) rfl dX0_fitsToThoseBefore_66 nxk (kI fun r35 S36 hw => ?_)
        refine r_i2c h dX0_fitsToThoseBefore_69 ?_
        refine r_iload_n h 2 rfl rfl dX0_fitsToThoseBefore_70 ?_
        refine r_iload h 5 rfl dX0_fitsToThoseBefore_71 ?_
        refine r_callSN h (fun l => c_X9_isBroken l _ _ _ _ _ hw) n439 q340 q55 q341 nd_X9_isBroken ⟨by decide, by decide⟩ rfl rfl ⟨by decide, by decide⟩ (as := [.int (cof r35), .int x2, .int r29]) rfl (by first | decide | exact nl rfl) rfl dX0_fitsToThoseBefore_73 nxk (kI fun r38 S39 hw => ?_)
        refine r_if_eq h 81 dX0_fitsToThoseBefore_76 (by decide) (fun hc => ?_) (fun hc => ?_)
        · replace hw := hw.1 hc
          refine r_iload_n h 3 rfl rfl dX0_fitsToThoseBefore_81 ?_
          refine r_iload h 5 rfl dX0_fitsToThoseBefore_82 ?_
          refine r_iload_n h 2 rfl rfl dX0_fitsToThoseBefore_84 ?_
          refine r_icmp_ne h 100 dX0_fitsToThoseBefore_85 (by decide) (fun hc => ?_) (fun hc => ?_)
          · replace hw := hw.1 hc
            refine r_iconst h (v := 0) (by decide) dX0_fitsToThoseBefore_100 ?_
            refine r_iadd h dX0_fitsToThoseBefore_101 ?_
            refine r_istore_n h [1, 2, 3, 0, 4] rfl (by decide) rfl dX0_fitsToThoseBefore_102 ?_
            refine r_iinc h (j := 4) (v := (x4 + 1)) [1, 2, 3, 4, 0] rfl rfl (by decide) rfl dX0_fitsToThoseBefore_103 ?_
            refine r_goto h 39 dX0_fitsToThoseBefore_106 (by decide) ?_
            exact ih _ _ _ _ _ _ hw
          · replace hw := hw.2 hc
            refine r_aload_n h 0 rfl rfl dX0_fitsToThoseBefore_88 ?_
            obtain ⟨h41, hw⟩ := hw
            obtain ⟨b42, h43, hw⟩ := hw
            refine r_getr h kci1 in1 (k := 3) (by decide) rfl rfl q166 h41 h43 dX0_fitsToThoseBefore_89 ?_
            refine r_iload h 4 rfl dX0_fitsToThoseBefore_92 ?_
            refine r_callSN h (fun l => c_X9_numberAt l _ _ _ _ hw) n426 q303 q55 q304 nd_X9_numberAt ⟨by decide, by decide⟩ rfl rfl ⟨by decide, by decide⟩ (as := [.ref b42, .int x4]) rfl (by first | decide | exact nl rfl) rfl dX0_fitsToThoseBefore_94 nxk (kI fun r44 S45 hw => ?_)
            refine r_goto h 101 dX0_fitsToThoseBefore_97 (by decide) ?_
            refine r_iadd h dX0_fitsToThoseBefore_101 ?_
            refine r_istore_n h [1, 2, 3, 0, 4] rfl (by decide) rfl dX0_fitsToThoseBefore_102 ?_
            refine r_iinc h (j := 4) (v := (x4 + 1)) [1, 2, 3, 4, 0] rfl rfl (by decide) rfl dX0_fitsToThoseBefore_103 ?_
            refine r_goto h 39 dX0_fitsToThoseBefore_106 (by decide) ?_
            exact ih _ _ _ _ _ _ hw
        · replace hw := hw.2 hc
          refine r_iconst h (v := 0) (by decide) dX0_fitsToThoseBefore_79 ?_
          exact r_zret h hq (ty := .boolean) rfl rfl ⟨_, rfl, hw⟩ (by decide) (by decide) dX0_fitsToThoseBefore_80
  unfold w_X0_fitsToThoseBefore at hw
  refine r_aload_n h 0 rfl rfl dX0_fitsToThoseBefore_0 ?_
  obtain ⟨h1, hw⟩ := hw
  obtain ⟨b2, h3, hw⟩ := hw
  refine r_getr h kci1 in1 (k := 4) (by decide) rfl rfl q167 h1 h3 dX0_fitsToThoseBefore_1 ?_
  refine r_iload_n h 1 rfl rfl dX0_fitsToThoseBefore_4 ?_
  refine r_callSN h (fun l => c_X9_numberAt l _ _ _ _ hw) n426 q303 q55 q304 nd_X9_numberAt ⟨by decide, by decide⟩ rfl rfl ⟨by decide, by decide⟩ (as := [.ref b2, .int x1]) rfl (by first | decide | exact nl rfl) rfl dX0_fitsToThoseBefore_5 nxk (kI fun r4 S5 hw => ?_)
  refine r_istore_n h [1, 2, 0] rfl (by decide) rfl dX0_fitsToThoseBefore_8 ?_
  refine r_aload_n h 0 rfl rfl dX0_fitsToThoseBefore_9 ?_
  obtain ⟨h7, hw⟩ := hw
  obtain ⟨b8, h9, hw⟩ := hw
  refine r_getr h kci1 in1 (k := 5) (by decide) rfl rfl q169 h7 h9 dX0_fitsToThoseBefore_10 ?_
  refine r_iload_n h 1 rfl rfl dX0_fitsToThoseBefore_13 ?_
  refine r_bipush h (v := 8) (by decide) dX0_fitsToThoseBefore_14 ?_
  refine r_imul h dX0_fitsToThoseBefore_16 ?_
  refine r_iload_n h 2 rfl rfl dX0_fitsToThoseBefore_17 ?_
  refine r_iadd h dX0_fitsToThoseBefore_18 ?_
  refine r_callSN h (fun l => c_X9_numberAt l _ _ _ _ hw) n426 q303 q55 q304 nd_X9_numberAt ⟨by decide, by decide⟩ rfl rfl ⟨by decide, by decide⟩ (as := [.ref b8, .int ((x1 * 8) + r4)]) rfl (by first | decide | exact nl rfl) rfl dX0_fitsToThoseBefore_19 nxk (kI fun r10 S11 hw => ?_)
  refine r_if_ne h 27 dX0_fitsToThoseBefore_22 (by decide) (fun hc => ?_) (fun hc => ?_)
  · replace hw := hw.1 hc
    refine r_aload_n h 0 rfl rfl dX0_fitsToThoseBefore_27 ?_
    obtain ⟨h13, hw⟩ := hw
    obtain ⟨b14, h15, hw⟩ := hw
    refine r_getr h kci1 in1 (k := 3) (by decide) rfl rfl q166 h13 h15 dX0_fitsToThoseBefore_28 ?_
    refine r_iload_n h 1 rfl rfl dX0_fitsToThoseBefore_31 ?_
    refine r_callSN h (fun l => c_X9_numberAt l _ _ _ _ hw) n426 q303 q55 q304 nd_X9_numberAt ⟨by decide, by decide⟩ rfl rfl ⟨by decide, by decide⟩ (as := [.ref b14, .int x1]) rfl (by first | decide | exact nl rfl) rfl dX0_fitsToThoseBefore_32 nxk (kI fun r16 S17 hw => ?_)
    refine r_istore_n h [1, 2, 3, 0] rfl (by decide) rfl dX0_fitsToThoseBefore_35 ?_
    refine r_iconst h (v := 0) (by decide) dX0_fitsToThoseBefore_36 ?_
    refine r_istore h [1, 2, 3, 4, 0] (by decide) rfl dX0_fitsToThoseBefore_37 ?_
    obtain ⟨m, hw⟩ := hw
    exact L39 m _ _ _ _ _ _ hw
  · replace hw := hw.2 hc
    refine r_iconst h (v := 0) (by decide) dX0_fitsToThoseBefore_25 ?_
    exact r_zret h hq (ty := .boolean) rfl rfl ⟨_, rfl, hw⟩ (by decide) (by decide) dX0_fitsToThoseBefore_26

def wl_X0_hangFrom_17 (f : Int32 → St → Prop) (re : St → Nat → Int32 → (Int32 → St → Prop) → Prop) : Nat → St → Nat → Int32 → Int32 → Prop
  | 0, _, _, _, _ => False
  | n + 1, S, a0, x1, x2 => ok S a0 1 ∧ ((((sI S a0 1) ≤ x2) → f 0 S) ∧ ((¬ (sI S a0 1) ≤ x2) → ∃ b4 : Nat, sP S a0 4 = some b4 ∧ w_X9_putAt S b4 x1 x2 (fun (S6 : St) => ok S6 a0 1 ∧ w_X0_fitsToThoseBefore S6 a0 x1 (fun (r9 : Int32) (S10 : St) => (((r9 = 0) → wl_X0_hangFrom_17 f re n S10 a0 x1 (x2 + 1)) ∧ ((¬ r9 = 0) → re S10 a0 (x1 + 1) (fun (r12 : Int32) (S13 : St) => (((r12 = 0) → wl_X0_hangFrom_17 f re n S13 a0 x1 (x2 + 1)) ∧ ((¬ r12 = 0) → f 1 S13)))))))))
def w_X0_hangFrom : Nat → St → Nat → Int32 → (Int32 → St → Prop) → Prop
  | 0, _, _, _, _ => False
  | n + 1, S, a0, x1, f => ok S a0 1 ∧ ((((sI S a0 0) ≤ x1) → f 1 S) ∧ ((¬ (sI S a0 0) ≤ x1) → (((x1 < 5) → (∃ m : Nat, wl_X0_hangFrom_17 f (w_X0_hangFrom n) m S a0 x1 0)) ∧ ((¬ x1 < 5) → f 1 S))))
set_option maxRecDepth 100000 in
set_option maxHeartbeats 4000000 in
theorem c_X0_hangFrom (l : Launch) (n : Nat) : ∀ (S : St) (a0 : Nat) (x1 : Int32) (f : Int32 → St → Prop), w_X0_hangFrom n S a0 x1 f → Ct l yX0_hangFrom (Cond.code yX0_hangFrom cX0_hangFrom 3 (some .boolean)) { frames := 2 + n * 1, cells := 0, slots := 0, locals := 47 + n * 22 } 0 0 S [.ref a0, .int x1] (pI f) nox := by
  revert l
  induction n with
  | zero => intro l S a0 x1 f hw; exact hw.elim
  | succ n ihd =>
  intro l S a0 x1 f hw
  refine entry (by decide +kernel) rfl rfl (by first | decide | exact nl rfl) rfl ?_
  intro X h hq
  have L17 : ∀ (re : St → Nat → Int32 → (Int32 → St → Prop) → Prop), (∀ (l : Launch) (S : St) (a0 : Nat) (x1 : Int32) (f : Int32 → St → Prop), re S a0 x1 f → Ct l yX0_hangFrom (Cond.code yX0_hangFrom cX0_hangFrom 3 (some .boolean)) { frames := 2 + n * 1, cells := 0, slots := 0, locals := 47 + n * 22 } 0 0 S [.ref a0, .int x1] (pI f) nox) → ∀ (n : Nat) (S : St) (a0 : Nat) (x1 : Int32) (x2 : Int32), wl_X0_hangFrom_17 f re n S a0 x1 x2 → pw X 0 0 S 17 [(0, .ref a0), (1, .int x1), (2, .int x2)] [] := by
    intro re hre n
    induction n with
    | zero => intro S a0 x1 x2 hw; exact hw.elim
    | succ n ih =>
      intro S a0 x1 x2 hw
      unfold wl_X0_hangFrom_17 at hw
      refine r_iload_n h 2 rfl rfl dX0_hangFrom_17 ?_
      refine r_aload_n h 0 rfl rfl dX0_hangFrom_18 ?_
      obtain ⟨h3, hw⟩ := hw
      refine r_geti h kci1 in1 (k := 1) (by decide) rfl rfl q164 h3 dX0_hangFrom_19 ?_
      refine r_icmp_ge h 60 dX0_hangFrom_22 (by decide) (fun hc => ?_) (fun hc => ?_)
      · replace hw := hw.1 hc
        refine r_iconst h (v := 0) (by decide) dX0_hangFrom_60 ?_
        exact r_zret h hq (ty := .boolean) rfl rfl ⟨_, rfl, hw⟩ (by decide) (by decide) dX0_hangFrom_61
      · replace hw := hw.2 hc
        refine r_aload_n h 0 rfl rfl dX0_hangFrom_25 ?_
        obtain ⟨b4, h5, hw⟩ := hw
        refine r_getr h kci1 in1 (k := 4) (by decide) rfl rfl q167 h3 h5 dX0_hangFrom_26 ?_
        refine r_iload_n h 1 rfl rfl dX0_hangFrom_29 ?_
        refine r_iload_n h 2 rfl rfl dX0_hangFrom_30 ?_
        refine r_callSN h (fun l => c_X9_putAt l _ _ _ _ _ hw) n414 q415 q55 q416 nd_X9_putAt ⟨by first | decide | (dsimp only; omega), by first | decide | (dsimp only; omega)⟩ rfl rfl ⟨by first | decide | (dsimp only; omega), by first | decide | (dsimp only; omega)⟩ (as := [.ref b4, .int x1, .int x2]) rfl (by first | decide | exact nl rfl) rfl dX0_hangFrom_31 nxk (kV fun  S6 hw => ?_)
        refine r_aload_n h 0 rfl rfl dX0_hangFrom_34 ?_
        refine r_iload_n h 1 rfl rfl dX0_hangFrom_35 ?_
        obtain ⟨h8, hw⟩ := hw
        refine r_callV h (fun l => c_X0_fitsToThoseBefore l _ _ _ _ hw) q435 q437 q6 q62 q438 nd_X0_fitsToThoseBefore ⟨by first | decide | (dsimp only; omega), by first | decide | (dsimp only; omega)⟩ rfl rfl ⟨by first | decide | (dsimp only; omega), by first | decide | (dsimp only; omega)⟩ kci1 rfl h8 rfl (by first | decide | exact nl rfl) rfl dX0_hangFrom_36 nxk (kI fun r9 S10 hw => ?_)
        refine r_if_eq h 54 dX0_hangFrom_39 (by decide) (fun hc => ?_) (fun hc => ?_)
        · replace hw := hw.1 hc
          refine r_iinc h (j := 2) (v := (x2 + 1)) [1, 2, 0] rfl rfl (by decide) rfl dX0_hangFrom_54 ?_
          refine r_goto h 17 dX0_hangFrom_57 (by decide) ?_
          exact ih _ _ _ _ hw
        · replace hw := hw.2 hc
          refine r_aload_n h 0 rfl rfl dX0_hangFrom_42 ?_
          refine r_iload_n h 1 rfl rfl dX0_hangFrom_43 ?_
          refine r_iconst h (v := 1) (by decide) dX0_hangFrom_44 ?_
          refine r_iadd h dX0_hangFrom_45 ?_
          refine r_callS h (fun l => hre l _ _ _ _ hw) q432 q433 q62 q434 nd_X0_hangFrom ⟨by first | decide | (dsimp only; omega), by first | decide | (dsimp only; omega)⟩ rfl rfl ⟨by first | decide | (dsimp only; omega), by first | decide | (dsimp only; omega)⟩ (as := [.ref a0, .int (x1 + 1)]) rfl (by first | decide | exact nl rfl) rfl dX0_hangFrom_46 nxk (kI fun r12 S13 hw => ?_)
          refine r_if_eq h 54 dX0_hangFrom_49 (by decide) (fun hc => ?_) (fun hc => ?_)
          · replace hw := hw.1 hc
            refine r_iinc h (j := 2) (v := (x2 + 1)) [1, 2, 0] rfl rfl (by decide) rfl dX0_hangFrom_54 ?_
            refine r_goto h 17 dX0_hangFrom_57 (by decide) ?_
            exact ih _ _ _ _ hw
          · replace hw := hw.2 hc
            refine r_iconst h (v := 1) (by decide) dX0_hangFrom_52 ?_
            exact r_zret h hq (ty := .boolean) rfl rfl ⟨_, rfl, hw⟩ (by decide) (by decide) dX0_hangFrom_53
  unfold w_X0_hangFrom at hw
  refine r_iload_n h 1 rfl rfl dX0_hangFrom_0 ?_
  refine r_aload_n h 0 rfl rfl dX0_hangFrom_1 ?_
  obtain ⟨h1, hw⟩ := hw
  refine r_geti h kci1 in1 (k := 0) (by decide) rfl rfl q163 h1 dX0_hangFrom_2 ?_
  refine r_icmp_ge h 13 dX0_hangFrom_5 (by decide) (fun hc => ?_) (fun hc => ?_)
  · replace hw := hw.1 hc
    refine r_iconst h (v := 1) (by decide) dX0_hangFrom_13 ?_
    exact r_zret h hq (ty := .boolean) rfl rfl ⟨_, rfl, hw⟩ (by decide) (by decide) dX0_hangFrom_14
  · replace hw := hw.2 hc
    refine r_iload_n h 1 rfl rfl dX0_hangFrom_8 ?_
    refine r_iconst h (v := 5) (by decide) dX0_hangFrom_9 ?_
    refine r_icmp_lt h 15 dX0_hangFrom_10 (by decide) (fun hc => ?_) (fun hc => ?_)
    · replace hw := hw.1 hc
      refine r_iconst h (v := 0) (by decide) dX0_hangFrom_15 ?_
      refine r_istore_n h [1, 2, 0] rfl (by decide) rfl dX0_hangFrom_16 ?_
      obtain ⟨m, hw⟩ := hw
      exact L17 _ ihd m _ _ _ _ hw
    · replace hw := hw.2 hc
      refine r_iconst h (v := 1) (by decide) dX0_hangFrom_13 ?_
      exact r_zret h hq (ty := .boolean) rfl rfl ⟨_, rfl, hw⟩ (by decide) (by decide) dX0_hangFrom_14

def w_X0_hangWorkByWork (S : St) (a0 : Nat) (f : Int32 → St → Prop) : Prop := w_X0_hangFrom 7 S a0 0 (fun (r1 : Int32) (S2 : St) => (r1 = 0 ∨ r1 = 1) ∧ f r1 S2)
set_option maxRecDepth 100000 in
set_option maxHeartbeats 4000000 in
theorem c_X0_hangWorkByWork (l : Launch) (S : St) (a0 : Nat) (f : Int32 → St → Prop) (hw : w_X0_hangWorkByWork S a0 f) : Ct l yX0_hangWorkByWork (Cond.code yX0_hangWorkByWork cX0_hangWorkByWork 1 (some .boolean)) { frames := 10, cells := 0, slots := 0, locals := 223 } 0 0 S [.ref a0] (pI f) nox := by
  refine entry (by decide +kernel) rfl rfl (by first | decide | exact nl rfl) rfl ?_
  intro X h hq
  unfold w_X0_hangWorkByWork at hw
  refine r_aload_n h 0 rfl rfl dX0_hangWorkByWork_0 ?_
  refine r_iconst h (v := 0) (by decide) dX0_hangWorkByWork_1 ?_
  refine r_callS h (fun l => c_X0_hangFrom l 7 _ _ _ _ hw) q432 q433 q62 q434 nd_X0_hangFrom ⟨by decide, by decide⟩ rfl rfl ⟨by decide, by decide⟩ (as := [.ref a0, .int 0]) rfl (by first | decide | exact nl rfl) rfl dX0_hangWorkByWork_2 nxk (kI fun r1 S2 hw => ?_)
  obtain ⟨h4, hw⟩ := hw
  exact r_zret h hq (ty := .boolean) rfl (lb h4) ⟨_, rfl, hw⟩ (by decide) (by decide) dX0_hangWorkByWork_5

def wl_X5_collect_15 (f : Int32 → St → Prop) : Nat → St → Nat → Nat → Nat → Int32 → Prop
  | 0, _, _, _, _, _ => False
  | n + 1, S, a0, a1, a2, x3 => ok S a1 3 ∧ ∃ b7 : Nat, sP S a1 4 = some b7 ∧ ok S b7 0 ∧ w_Jx4a65c_size_8abf5 S b7 (fun (r10 : Int32) (S11 : St) => (((r10 ≤ x3) → f 1 S11) ∧ ((¬ r10 ≤ x3) → ok S11 a1 3 ∧ ∃ b14 : Nat, sP S11 a1 4 = some b14 ∧ ok S11 b14 0 ∧ w_Jx4a65c_get_915e3 S11 b14 x3 (fun (b17 : Nat) (S18 : St) => ok S18 b17 9 ∧ w_X8_isFrom S18 b17 a2 (fun (r21 : Int32) (S22 : St) => (((r21 = 0) → wl_X5_collect_15 f n S22 a0 a1 a2 (x3 + 1)) ∧ ((¬ r21 = 0) → ok S22 b17 9 ∧ ok S22 a0 6 ∧ ((((sI S22 b17 5) ≤ (sI S22 a0 0)) → ∃ b26 : Nat, sP S22 a0 2 = some b26 ∧ w_X9_putAt S22 b26 (sI S22 a0 1) (sI S22 b17 5) (fun (S28 : St) => ok S28 a0 6 ∧ let S31 : St := setI S28 a0 1 ((sI S28 a0 1) + 1); wl_X5_collect_15 f n S31 a0 a1 a2 (x3 + 1))) ∧ ((¬ (sI S22 b17 5) ≤ (sI S22 a0 0)) → f 0 S22)))))))))
def w_X5_collect (S : St) (a0 : Nat) (a1 : Nat) (a2 : Nat) (f : Int32 → St → Prop) : Prop := ok S a2 5 ∧ ok S a0 6 ∧ let S3 : St := setI S a0 0 (sI S a2 1); let S4 : St := setI S3 a0 1 0; (∃ m : Nat, wl_X5_collect_15 f m S4 a0 a1 a2 0)
set_option maxRecDepth 100000 in
set_option maxHeartbeats 4000000 in
theorem c_X5_collect (l : Launch) (S : St) (a0 : Nat) (a1 : Nat) (a2 : Nat) (f : Int32 → St → Prop) (hw : w_X5_collect S a0 a1 a2 f) : Ct l yX5_collect (Cond.code yX5_collect cX5_collect 5 (some .boolean)) { frames := 3, cells := 0, slots := 0, locals := 64 } 0 0 S [.ref a0, .ref a1, .ref a2] (pI f) nox := by
  refine entry (by decide +kernel) rfl rfl (by first | decide | exact nl rfl) rfl ?_
  intro X h hq
  have L15 : ∀ (n : Nat) (S : St) (a0 : Nat) (a1 : Nat) (a2 : Nat) (x3 : Int32), wl_X5_collect_15 f n S a0 a1 a2 x3 → pw X 0 0 S 15 [(0, .ref a0), (1, .ref a1), (2, .ref a2), (3, .int x3)] [] := by
    intro n
    induction n with
    | zero => intro S a0 a1 a2 x3 hw; exact hw.elim
    | succ n ih =>
      intro S a0 a1 a2 x3 hw
      unfold wl_X5_collect_15 at hw
      refine r_iload_n h 3 rfl rfl dX5_collect_15 ?_
      refine r_aload_n h 1 rfl rfl dX5_collect_16 ?_
      obtain ⟨h6, hw⟩ := hw
      obtain ⟨b7, h8, hw⟩ := hw
      refine r_getrN h kci3 in3 (k := 4) (by decide) rfl rfl n874 h6 h8 dX5_collect_17 ?_
      obtain ⟨h9, hw⟩ := hw
      refine r_callV h (fun l => c_Jx4a65c_size_8abf5 l _ _ _ hw) q1045 q239 q240 q59 q241 nd_Jx4a65c_size_8abf5 ⟨by decide, by decide⟩ rfl rfl ⟨by decide, by decide⟩ kci0 rfl h9 rfl (by first | decide | exact nl rfl) rfl dX5_collect_20 nxk (kI fun r10 S11 hw => ?_)
      refine r_icmp_ge h 94 dX5_collect_23 (by decide) (fun hc => ?_) (fun hc => ?_)
      · replace hw := hw.1 hc
        refine r_iconst h (v := 1) (by decide) dX5_collect_94 ?_
        exact r_zret h hq (ty := .boolean) rfl rfl ⟨_, rfl, hw⟩ (by decide) (by decide) dX5_collect_95
      · replace hw := hw.2 hc
        refine r_aload_n h 1 rfl rfl dX5_collect_26 ?_
        obtain ⟨h13, hw⟩ := hw
        obtain ⟨b14, h15, hw⟩ := hw
        refine r_getrN h kci3 in3 (k := 4) (by decide) rfl rfl n874 h13 h15 dX5_collect_27 ?_
        refine r_iload_n h 3 rfl rfl dX5_collect_30 ?_
        obtain ⟨h16, hw⟩ := hw
        refine r_callV h (fun l => c_Jx4a65c_get_915e3 l _ _ _ _ hw) q1046 q260 q261 q59 q262 nd_Jx4a65c_get_915e3 ⟨by decide, by decide⟩ rfl rfl ⟨by decide, by decide⟩ kci0 rfl h16 rfl (by first | decide | exact nl rfl) rfl dX5_collect_31 nxk (kA fun b17 S18 hw => ?_)
        obtain ⟨h20, hw⟩ := hw
        refine r_castS h kci9 q1047 h20 dX5_collect_34 ?_
        refine r_astore h [1, 2, 3, 4, 0] (by decide) rfl dX5_collect_37 ?_
        refine r_aload h 4 rfl dX5_collect_39 ?_
        refine r_aload_n h 2 rfl rfl dX5_collect_41 ?_
        refine r_callV h (fun l => c_X8_isFrom l _ _ _ _ hw) q1048 q1049 q1050 q81 q1051 nd_X8_isFrom ⟨by decide, by decide⟩ rfl rfl ⟨by decide, by decide⟩ kci9 rfl h20 rfl (by first | decide | exact nl rfl) rfl dX5_collect_42 nxk (kI fun r21 S22 hw => ?_)
        refine r_if_eq h 88 dX5_collect_45 (by decide) (fun hc => ?_) (fun hc => ?_)
        · replace hw := hw.1 hc
          refine r_iinc h (j := 3) (v := (x3 + 1)) [1, 2, 3, 0, 4] rfl rfl (by decide) rfl dX5_collect_88 ?_
          refine r_goto h 15 dX5_collect_91 (by decide) ?_
          refine r_vs [0, 1, 2, 3] rfl ?_
          exact ih _ _ _ _ _ hw
        · replace hw := hw.2 hc
          refine r_aload h 4 rfl dX5_collect_48 ?_
          obtain ⟨h24, hw⟩ := hw
          refine r_getiN h kci9 in9 (k := 5) (by decide) rfl rfl n776 h24 dX5_collect_50 ?_
          refine r_aload_n h 0 rfl rfl dX5_collect_53 ?_
          obtain ⟨h25, hw⟩ := hw
          refine r_geti h kci6 in6 (k := 0) (by decide) rfl rfl q193 h25 dX5_collect_54 ?_
          refine r_icmp_le h 62 dX5_collect_57 (by decide) (fun hc => ?_) (fun hc => ?_)
          · replace hw := hw.1 hc
            refine r_aload_n h 0 rfl rfl dX5_collect_62 ?_
            obtain ⟨b26, h27, hw⟩ := hw
            refine r_getr h kci6 in6 (k := 2) (by decide) rfl rfl q195 h25 h27 dX5_collect_63 ?_
            refine r_aload_n h 0 rfl rfl dX5_collect_66 ?_
            refine r_geti h kci6 in6 (k := 1) (by decide) rfl rfl q194 h25 dX5_collect_67 ?_
            refine r_aload h 4 rfl dX5_collect_70 ?_
            refine r_getiN h kci9 in9 (k := 5) (by decide) rfl rfl n776 h24 dX5_collect_72 ?_
            refine r_callSN h (fun l => c_X9_putAt l _ _ _ _ _ hw) n1052 q415 q55 q416 nd_X9_putAt ⟨by decide, by decide⟩ rfl rfl ⟨by decide, by decide⟩ (as := [.ref b26, .int (sI S22 a0 1), .int (sI S22 b17 5)]) rfl (by first | decide | exact nl rfl) rfl dX5_collect_75 nxk (kV fun  S28 hw => ?_)
            refine r_aload_n h 0 rfl rfl dX5_collect_78 ?_
            refine r_dup h rfl dX5_collect_79 ?_
            obtain ⟨h30, hw⟩ := hw
            refine r_geti h kci6 in6 (k := 1) (by decide) rfl rfl q194 h30 dX5_collect_80 ?_
            refine r_iconst h (v := 1) (by decide) dX5_collect_83 ?_
            refine r_iadd h dX5_collect_84 ?_
            refine r_puti h kci6 in6 tyX5_ok nmX5 (k := 1) (by decide) rfl rfl rfl rfl rfl rfl q194 h30 dX5_collect_85 ?_
            refine r_iinc h (j := 3) (v := (x3 + 1)) [1, 2, 3, 0, 4] rfl rfl (by decide) rfl dX5_collect_88 ?_
            refine r_goto h 15 dX5_collect_91 (by decide) ?_
            refine r_vs [0, 1, 2, 3] rfl ?_
            exact ih _ _ _ _ _ hw
          · replace hw := hw.2 hc
            refine r_iconst h (v := 0) (by decide) dX5_collect_60 ?_
            exact r_zret h hq (ty := .boolean) rfl rfl ⟨_, rfl, hw⟩ (by decide) (by decide) dX5_collect_61
  unfold w_X5_collect at hw
  refine r_aload_n h 0 rfl rfl dX5_collect_0 ?_
  refine r_aload_n h 2 rfl rfl dX5_collect_1 ?_
  obtain ⟨h1, hw⟩ := hw
  refine r_getiN h kci5 in5 (k := 1) (by decide) rfl rfl n734 h1 dX5_collect_2 ?_
  obtain ⟨h2, hw⟩ := hw
  refine r_puti h kci6 in6 tyX5_ok nmX5 (k := 0) (by decide) rfl rfl rfl rfl rfl rfl q193 h2 dX5_collect_5 ?_
  refine r_aload_n h 0 rfl rfl dX5_collect_8 ?_
  refine r_iconst h (v := 0) (by decide) dX5_collect_9 ?_
  refine r_puti h kci6 in6 tyX5_ok nmX5 (k := 1) (by decide) rfl rfl rfl rfl rfl rfl q194 h2 dX5_collect_10 ?_
  refine r_iconst h (v := 0) (by decide) dX5_collect_13 ?_
  refine r_istore_n h [1, 2, 3, 0] rfl (by decide) rfl dX5_collect_14 ?_
  obtain ⟨m, hw⟩ := hw
  exact L15 m _ _ _ _ _ hw

def wl_X5_valueOf_4 (f : Int32 → St → Prop) : Nat → St → Nat → Int32 → Int32 → Int32 → Prop
  | 0, _, _, _, _, _ => False
  | n + 1, S, a0, x1, x2, x3 => ok S a0 6 ∧ ((((sI S a0 1) ≤ x3) → f x2 S) ∧ ((¬ (sI S a0 1) ≤ x3) → (((¬ ((x1 >>> (x3 &&& 31)) &&& 1) = 1) → wl_X5_valueOf_4 f n S a0 x1 (x2 + 0) (x3 + 1)) ∧ ((((x1 >>> (x3 &&& 31)) &&& 1) = 1) → ∃ b3 : Nat, sP S a0 2 = some b3 ∧ w_X9_numberAt S b3 x3 (fun (r5 : Int32) (S6 : St) => wl_X5_valueOf_4 f n S6 a0 x1 (x2 + r5) (x3 + 1))))))
def w_X5_valueOf (S : St) (a0 : Nat) (x1 : Int32) (f : Int32 → St → Prop) : Prop := (∃ m : Nat, wl_X5_valueOf_4 f m S a0 x1 0 0)
set_option maxRecDepth 100000 in
set_option maxHeartbeats 4000000 in
theorem c_X5_valueOf (l : Launch) (S : St) (a0 : Nat) (x1 : Int32) (f : Int32 → St → Prop) (hw : w_X5_valueOf S a0 x1 f) : Ct l yX5_valueOf (Cond.code yX5_valueOf cX5_valueOf 4 (some .int)) { frames := 1, cells := 0, slots := 0, locals := 21 } 0 0 S [.ref a0, .int x1] (pI f) nox := by
  refine entry (by decide +kernel) rfl rfl (by first | decide | exact nl rfl) rfl ?_
  intro X h hq
  have L4 : ∀ (n : Nat) (S : St) (a0 : Nat) (x1 : Int32) (x2 : Int32) (x3 : Int32), wl_X5_valueOf_4 f n S a0 x1 x2 x3 → pw X 0 0 S 4 [(0, .ref a0), (1, .int x1), (2, .int x2), (3, .int x3)] [] := by
    intro n
    induction n with
    | zero => intro S a0 x1 x2 x3 hw; exact hw.elim
    | succ n ih =>
      intro S a0 x1 x2 x3 hw
      unfold wl_X5_valueOf_4 at hw
      refine r_iload_n h 3 rfl rfl dX5_valueOf_4 ?_
      refine r_aload_n h 0 rfl rfl dX5_valueOf_5 ?_
      obtain ⟨h2, hw⟩ := hw
      refine r_geti h kci6 in6 (k := 1) (by decide) rfl rfl q194 h2 dX5_valueOf_6 ?_
      refine r_icmp_ge h 42 dX5_valueOf_9 (by decide) (fun hc => ?_) (fun hc => ?_)
      · replace hw := hw.1 hc
        refine r_iload_n h 2 rfl rfl dX5_valueOf_42 ?_
        exact r_iret h hq rfl ⟨_, rfl, hw⟩ (by decide) (by decide) dX5_valueOf_43
      · replace hw := hw.2 hc
        refine r_iload_n h 2 rfl rfl dX5_valueOf_12 ?_
        refine r_iload_n h 1 rfl rfl dX5_valueOf_13 ?_
        refine r_iload_n h 3 rfl rfl dX5_valueOf_14 ?_
        refine r_ishr h dX5_valueOf_15 ?_
        refine r_iconst h (v := 1) (by decide) dX5_valueOf_16 ?_
        refine r_iand h dX5_valueOf_17 ?_
        refine r_iconst h (v := 1) (by decide) dX5_valueOf_18 ?_
        refine r_icmp_ne h 33 dX5_valueOf_19 (by decide) (fun hc => ?_) (fun hc => ?_)
        · replace hw := hw.1 hc
          refine r_iconst h (v := 0) (by decide) dX5_valueOf_33 ?_
          refine r_iadd h dX5_valueOf_34 ?_
          refine r_istore_n h [1, 2, 0, 3] rfl (by decide) rfl dX5_valueOf_35 ?_
          refine r_iinc h (j := 3) (v := (x3 + 1)) [1, 2, 3, 0] rfl rfl (by decide) rfl dX5_valueOf_36 ?_
          refine r_goto h 4 dX5_valueOf_39 (by decide) ?_
          exact ih _ _ _ _ _ hw
        · replace hw := hw.2 hc
          refine r_aload_n h 0 rfl rfl dX5_valueOf_22 ?_
          obtain ⟨b3, h4, hw⟩ := hw
          refine r_getr h kci6 in6 (k := 2) (by decide) rfl rfl q195 h2 h4 dX5_valueOf_23 ?_
          refine r_iload_n h 3 rfl rfl dX5_valueOf_26 ?_
          refine r_callSN h (fun l => c_X9_numberAt l _ _ _ _ hw) n1062 q303 q55 q304 nd_X9_numberAt ⟨by decide, by decide⟩ rfl rfl ⟨by decide, by decide⟩ (as := [.ref b3, .int x3]) rfl (by first | decide | exact nl rfl) rfl dX5_valueOf_27 nxk (kI fun r5 S6 hw => ?_)
          refine r_goto h 34 dX5_valueOf_30 (by decide) ?_
          refine r_iadd h dX5_valueOf_34 ?_
          refine r_istore_n h [1, 2, 0, 3] rfl (by decide) rfl dX5_valueOf_35 ?_
          refine r_iinc h (j := 3) (v := (x3 + 1)) [1, 2, 3, 0] rfl rfl (by decide) rfl dX5_valueOf_36 ?_
          refine r_goto h 4 dX5_valueOf_39 (by decide) ?_
          exact ih _ _ _ _ _ hw
  unfold w_X5_valueOf at hw
  refine r_iconst h (v := 0) (by decide) dX5_valueOf_0 ?_
  refine r_istore_n h [1, 2, 0] rfl (by decide) rfl dX5_valueOf_1 ?_
  refine r_iconst h (v := 0) (by decide) dX5_valueOf_2 ?_
  refine r_istore_n h [1, 2, 3, 0] rfl (by decide) rfl dX5_valueOf_3 ?_
  obtain ⟨m, hw⟩ := hw
  exact L4 m _ _ _ _ _ hw

def wl_X5_needOfParts_7 (f : Int32 → St → Prop) : Nat → St → Nat → Int32 → Int32 → Int32 → Prop
  | 0, _, _, _, _, _ => False
  | n + 1, S, a0, x1, x2, x3 => (((x1 ≤ x3) → f x2 S) ∧ ((¬ x1 ≤ x3) → (((¬ (x3 &&& x1) = x3) → wl_X5_needOfParts_7 f n S a0 x1 x2 (x3 + 1)) ∧ (((x3 &&& x1) = x3) → ok S a0 6 ∧ ∃ b4 : Nat, sP S a0 4 = some b4 ∧ w_X9_numberAt S b4 x3 (fun (r6 : Int32) (S7 : St) => ok S7 a0 6 ∧ ∃ b10 : Nat, sP S7 a0 4 = some b10 ∧ w_X9_numberAt S7 b10 (x1 ^^^ x3) (fun (r12 : Int32) (S13 : St) => wl_X5_needOfParts_7 f n S13 a0 x1 (if (r6 + r12) < x2 then (r6 + r12) else x2) (x3 + 1)))))))
def w_X5_needOfParts (S : St) (a0 : Nat) (x1 : Int32) (f : Int32 → St → Prop) : Prop := ok S a0 6 ∧ (∃ m : Nat, wl_X5_needOfParts_7 f m S a0 x1 (sI S a0 1) 1)
set_option maxRecDepth 100000 in
set_option maxHeartbeats 4000000 in
theorem c_X5_needOfParts (l : Launch) (S : St) (a0 : Nat) (x1 : Int32) (f : Int32 → St → Prop) (hw : w_X5_needOfParts S a0 x1 f) : Ct l yX5_needOfParts (Cond.code yX5_needOfParts cX5_needOfParts 4 (some .int)) { frames := 1, cells := 0, slots := 0, locals := 21 } 0 0 S [.ref a0, .int x1] (pI f) nox := by
  refine entry (by decide +kernel) rfl rfl (by first | decide | exact nl rfl) rfl ?_
  intro X h hq
  have L7 : ∀ (n : Nat) (S : St) (a0 : Nat) (x1 : Int32) (x2 : Int32) (x3 : Int32), wl_X5_needOfParts_7 f n S a0 x1 x2 x3 → pw X 0 0 S 7 [(0, .ref a0), (1, .int x1), (2, .int x2), (3, .int x3)] [] := by
    intro n
    induction n with
    | zero => intro S a0 x1 x2 x3 hw; exact hw.elim
    | succ n ih =>
      intro S a0 x1 x2 x3 hw
      unfold wl_X5_needOfParts_7 at hw
      refine r_iload_n h 3 rfl rfl dX5_needOfParts_7 ?_
      refine r_iload_n h 1 rfl rfl dX5_needOfParts_8 ?_
      refine r_icmp_ge h 49 dX5_needOfParts_9 (by decide) (fun hc => ?_) (fun hc => ?_)
      · replace hw := hw.1 hc
        refine r_iload_n h 2 rfl rfl dX5_needOfParts_49 ?_
        exact r_iret h hq rfl ⟨_, rfl, hw⟩ (by decide) (by decide) dX5_needOfParts_50
      · replace hw := hw.2 hc
        refine r_iload_n h 3 rfl rfl dX5_needOfParts_12 ?_
        refine r_iload_n h 1 rfl rfl dX5_needOfParts_13 ?_
        refine r_iand h dX5_needOfParts_14 ?_
        refine r_iload_n h 3 rfl rfl dX5_needOfParts_15 ?_
        refine r_icmp_ne h 43 dX5_needOfParts_16 (by decide) (fun hc => ?_) (fun hc => ?_)
        · replace hw := hw.1 hc
          refine r_iinc h (j := 3) (v := (x3 + 1)) [1, 2, 3, 0] rfl rfl (by decide) rfl dX5_needOfParts_43 ?_
          refine r_goto h 7 dX5_needOfParts_46 (by decide) ?_
          exact ih _ _ _ _ _ hw
        · replace hw := hw.2 hc
          refine r_iload_n h 2 rfl rfl dX5_needOfParts_19 ?_
          refine r_aload_n h 0 rfl rfl dX5_needOfParts_20 ?_
          obtain ⟨h3, hw⟩ := hw
          obtain ⟨b4, h5, hw⟩ := hw
          refine r_getr h kci6 in6 (k := 4) (by decide) rfl rfl q197 h3 h5 dX5_needOfParts_21 ?_
          refine r_iload_n h 3 rfl rfl dX5_needOfParts_24 ?_
          refine r_callSN h (fun l => c_X9_numberAt l _ _ _ _ hw) n1062 q303 q55 q304 nd_X9_numberAt ⟨by decide, by decide⟩ rfl rfl ⟨by decide, by decide⟩ (as := [.ref b4, .int x3]) rfl (by first | decide | exact nl rfl) rfl dX5_needOfParts_25 nxk (kI fun r6 S7 hw => ?_)
          refine r_aload_n h 0 rfl rfl dX5_needOfParts_28 ?_
          obtain ⟨h9, hw⟩ := hw
          obtain ⟨b10, h11, hw⟩ := hw
          refine r_getr h kci6 in6 (k := 4) (by decide) rfl rfl q197 h9 h11 dX5_needOfParts_29 ?_
          refine r_iload_n h 1 rfl rfl dX5_needOfParts_32 ?_
          refine r_iload_n h 3 rfl rfl dX5_needOfParts_33 ?_
          refine r_ixor h dX5_needOfParts_34 ?_
          refine r_callSN h (fun l => c_X9_numberAt l _ _ _ _ hw) n1062 q303 q55 q304 nd_X9_numberAt ⟨by decide, by decide⟩ rfl rfl ⟨by decide, by decide⟩ (as := [.ref b10, .int (x1 ^^^ x3)]) rfl (by first | decide | exact nl rfl) rfl dX5_needOfParts_35 nxk (kI fun r12 S13 hw => ?_)
          refine r_iadd h dX5_needOfParts_38 ?_
          refine r_min h q1067 q643 q72 q644 (by first | decide | exact nl rfl) (by first | decide | exact nl rfl) (by first | decide | exact nl rfl) (by first | decide | exact nl rfl) dX5_needOfParts_39 ?_
          refine r_istore_n h [1, 2, 0, 3] rfl (by decide) rfl dX5_needOfParts_42 ?_
          refine r_iinc h (j := 3) (v := (x3 + 1)) [1, 2, 3, 0] rfl rfl (by decide) rfl dX5_needOfParts_43 ?_
          refine r_goto h 7 dX5_needOfParts_46 (by decide) ?_
          exact ih _ _ _ _ _ hw
  unfold w_X5_needOfParts at hw
  refine r_aload_n h 0 rfl rfl dX5_needOfParts_0 ?_
  obtain ⟨h1, hw⟩ := hw
  refine r_geti h kci6 in6 (k := 1) (by decide) rfl rfl q194 h1 dX5_needOfParts_1 ?_
  refine r_istore_n h [1, 2, 0] rfl (by decide) rfl dX5_needOfParts_4 ?_
  refine r_iconst h (v := 1) (by decide) dX5_needOfParts_5 ?_
  refine r_istore_n h [1, 2, 3, 0] rfl (by decide) rfl dX5_needOfParts_6 ?_
  obtain ⟨m, hw⟩ := hw
  exact L7 m _ _ _ _ _ hw

def wl_X5_leastByGroups_9 (f : Int32 → St → Prop) : Nat → St → Nat → Int32 → Int32 → Prop
  | 0, _, _, _, _ => False
  | n + 1, S, a0, x1, x2 => (((x1 ≤ x2) → ok S a0 6 ∧ ∃ b4 : Nat, sP S a0 4 = some b4 ∧ w_X9_numberAt S b4 (x1 - 1) (fun (r6 : Int32) (S7 : St) => f r6 S7)) ∧ ((¬ x1 ≤ x2) → ok S a0 6 ∧ ∃ b10 : Nat, sP S a0 4 = some b10 ∧ w_X5_valueOf S a0 x2 (fun (r12 : Int32) (S13 : St) => ok S13 a0 6 ∧ ((((sI S13 a0 0) < r12) → w_X5_needOfParts S13 a0 x2 (fun (r16 : Int32) (S17 : St) => w_X9_putAt S17 b10 x2 r16 (fun (S19 : St) => wl_X5_leastByGroups_9 f n S19 a0 x1 (x2 + 1)))) ∧ ((¬ (sI S13 a0 0) < r12) → w_X9_putAt S13 b10 x2 1 (fun (S21 : St) => wl_X5_leastByGroups_9 f n S21 a0 x1 (x2 + 1)))))))
def w_X5_leastByGroups (S : St) (a0 : Nat) (f : Int32 → St → Prop) : Prop := ok S a0 6 ∧ (∃ m : Nat, wl_X5_leastByGroups_9 f m S a0 (1 <<< ((sI S a0 1) &&& 31)) 1)
set_option maxRecDepth 100000 in
set_option maxHeartbeats 4000000 in
theorem c_X5_leastByGroups (l : Launch) (S : St) (a0 : Nat) (f : Int32 → St → Prop) (hw : w_X5_leastByGroups S a0 f) : Ct l yX5_leastByGroups (Cond.code yX5_leastByGroups cX5_leastByGroups 3 (some .int)) { frames := 2, cells := 0, slots := 0, locals := 44 } 0 0 S [.ref a0] (pI f) nox := by
  refine entry (by decide +kernel) rfl rfl (by first | decide | exact nl rfl) rfl ?_
  intro X h hq
  have L9 : ∀ (n : Nat) (S : St) (a0 : Nat) (x1 : Int32) (x2 : Int32), wl_X5_leastByGroups_9 f n S a0 x1 x2 → pw X 0 0 S 9 [(0, .ref a0), (1, .int x1), (2, .int x2)] [] := by
    intro n
    induction n with
    | zero => intro S a0 x1 x2 hw; exact hw.elim
    | succ n ih =>
      intro S a0 x1 x2 hw
      unfold wl_X5_leastByGroups_9 at hw
      refine r_iload_n h 2 rfl rfl dX5_leastByGroups_9 ?_
      refine r_iload_n h 1 rfl rfl dX5_leastByGroups_10 ?_
      refine r_icmp_ge h 49 dX5_leastByGroups_11 (by decide) (fun hc => ?_) (fun hc => ?_)
      · replace hw := hw.1 hc
        refine r_aload_n h 0 rfl rfl dX5_leastByGroups_49 ?_
        obtain ⟨h3, hw⟩ := hw
        obtain ⟨b4, h5, hw⟩ := hw
        refine r_getr h kci6 in6 (k := 4) (by decide) rfl rfl q197 h3 h5 dX5_leastByGroups_50 ?_
        refine r_iload_n h 1 rfl rfl dX5_leastByGroups_53 ?_
        refine r_iconst h (v := 1) (by decide) dX5_leastByGroups_54 ?_
        refine r_isub h dX5_leastByGroups_55 ?_
        refine r_callSN h (fun l => c_X9_numberAt l _ _ _ _ hw) n1062 q303 q55 q304 nd_X9_numberAt ⟨by decide, by decide⟩ rfl rfl ⟨by decide, by decide⟩ (as := [.ref b4, .int (x1 - 1)]) rfl (by first | decide | exact nl rfl) rfl dX5_leastByGroups_56 nxk (kI fun r6 S7 hw => ?_)
        exact r_iret h hq rfl ⟨_, rfl, hw⟩ (by decide) (by decide) dX5_leastByGroups_59
      · replace hw := hw.2 hc
        refine r_aload_n h 0 rfl rfl dX5_leastByGroups_14 ?_
        obtain ⟨h9, hw⟩ := hw
        obtain ⟨b10, h11, hw⟩ := hw
        refine r_getr h kci6 in6 (k := 4) (by decide) rfl rfl q197 h9 h11 dX5_leastByGroups_15 ?_
        refine r_iload_n h 2 rfl rfl dX5_leastByGroups_18 ?_
        refine r_aload_n h 0 rfl rfl dX5_leastByGroups_19 ?_
        refine r_iload_n h 2 rfl rfl dX5_leastByGroups_20 ?_
        refine r_callV h (fun l => c_X5_valueOf l _ _ _ _ hw) q1058 q1060 q24 q63 q1061 nd_X5_valueOf ⟨by decide, by decide⟩ rfl rfl ⟨by decide, by decide⟩ kci6 rfl h9 rfl (by first | decide | exact nl rfl) rfl dX5_leastByGroups_21 nxk (kI fun r12 S13 hw => ?_)
        refine r_aload_n h 0 rfl rfl dX5_leastByGroups_24 ?_
        obtain ⟨h15, hw⟩ := hw
        refine r_geti h kci6 in6 (k := 0) (by decide) rfl rfl q193 h15 dX5_leastByGroups_25 ?_
        refine r_icmp_gt h 35 dX5_leastByGroups_28 (by decide) (fun hc => ?_) (fun hc => ?_)
        · replace hw := hw.1 hc
          refine r_aload_n h 0 rfl rfl dX5_leastByGroups_35 ?_
          refine r_iload_n h 2 rfl rfl dX5_leastByGroups_36 ?_
          refine r_callV h (fun l => c_X5_needOfParts l _ _ _ _ hw) q1063 q1065 q25 q63 q1066 nd_X5_needOfParts ⟨by decide, by decide⟩ rfl rfl ⟨by decide, by decide⟩ kci6 rfl h15 rfl (by first | decide | exact nl rfl) rfl dX5_leastByGroups_37 nxk (kI fun r16 S17 hw => ?_)
          refine r_callSN h (fun l => c_X9_putAt l _ _ _ _ _ hw) n1052 q415 q55 q416 nd_X9_putAt ⟨by decide, by decide⟩ rfl rfl ⟨by decide, by decide⟩ (as := [.ref b10, .int x2, .int r16]) rfl (by first | decide | exact nl rfl) rfl dX5_leastByGroups_40 nxk (kV fun  S19 hw => ?_)
          refine r_iinc h (j := 2) (v := (x2 + 1)) [1, 2, 0] rfl rfl (by decide) rfl dX5_leastByGroups_43 ?_
          refine r_goto h 9 dX5_leastByGroups_46 (by decide) ?_
          exact ih _ _ _ _ hw
        · replace hw := hw.2 hc
          refine r_iconst h (v := 1) (by decide) dX5_leastByGroups_31 ?_
          refine r_goto h 40 dX5_leastByGroups_32 (by decide) ?_
          refine r_callSN h (fun l => c_X9_putAt l _ _ _ _ _ hw) n1052 q415 q55 q416 nd_X9_putAt ⟨by decide, by decide⟩ rfl rfl ⟨by decide, by decide⟩ (as := [.ref b10, .int x2, .int 1]) rfl (by first | decide | exact nl rfl) rfl dX5_leastByGroups_40 nxk (kV fun  S21 hw => ?_)
          refine r_iinc h (j := 2) (v := (x2 + 1)) [1, 2, 0] rfl rfl (by decide) rfl dX5_leastByGroups_43 ?_
          refine r_goto h 9 dX5_leastByGroups_46 (by decide) ?_
          exact ih _ _ _ _ hw
  unfold w_X5_leastByGroups at hw
  refine r_iconst h (v := 1) (by decide) dX5_leastByGroups_0 ?_
  refine r_aload_n h 0 rfl rfl dX5_leastByGroups_1 ?_
  obtain ⟨h1, hw⟩ := hw
  refine r_geti h kci6 in6 (k := 1) (by decide) rfl rfl q194 h1 dX5_leastByGroups_2 ?_
  refine r_ishl h dX5_leastByGroups_5 ?_
  refine r_istore_n h [1, 0] rfl (by decide) rfl dX5_leastByGroups_6 ?_
  refine r_iconst h (v := 1) (by decide) dX5_leastByGroups_7 ?_
  refine r_istore_n h [1, 2, 0] rfl (by decide) rfl dX5_leastByGroups_8 ?_
  obtain ⟨m, hw⟩ := hw
  exact L9 m _ _ _ _ hw

def wl_X5_putFrom_30 (f : Int32 → St → Prop) (re : St → Nat → Int32 → Int32 → (Int32 → St → Prop) → Prop) : Nat → St → Nat → Int32 → Int32 → Int32 → Int32 → Int32 → Prop
  | 0, _, _, _, _, _, _, _ => False
  | n + 1, S, a0, x1, x2, x3, x4, x5 => (((x2 < x5) → f x3 S) ∧ ((¬ x2 < x5) → (((5 ≤ x5) → f x3 S) ∧ ((¬ 5 ≤ x5) → ok S a0 6 ∧ ∃ b9 : Nat, sP S a0 3 = some b9 ∧ w_X9_numberAt S b9 x5 (fun (r11 : Int32) (S12 : St) => ok S12 a0 6 ∧ ((((sI S12 a0 0) < (r11 + x4)) → wl_X5_putFrom_30 f re n S12 a0 x1 x2 x3 x4 (x5 + 1)) ∧ ((¬ (sI S12 a0 0) < (r11 + x4)) → ∃ b15 : Nat, sP S12 a0 3 = some b15 ∧ w_X9_putAt S12 b15 x5 (r11 + x4) (fun (S17 : St) => re S17 a0 (x1 + 1) (if x2 < (x5 + 1) then (x5 + 1) else x2) (fun (r19 : Int32) (S20 : St) => ok S20 a0 6 ∧ ∃ b23 : Nat, sP S20 a0 3 = some b23 ∧ w_X9_putAt S20 b23 x5 r11 (fun (S25 : St) => wl_X5_putFrom_30 f re n S25 a0 x1 x2 (if r19 < x3 then r19 else x3) x4 (x5 + 1)))))))))))
def w_X5_putFrom : Nat → St → Nat → Int32 → Int32 → (Int32 → St → Prop) → Prop
  | 0, _, _, _, _, _ => False
  | n + 1, S, a0, x1, x2, f => ok S a0 6 ∧ ((((sI S a0 1) ≤ x1) → f x2 S) ∧ ((¬ (sI S a0 1) ≤ x1) → (((x1 < 5) → ∃ b2 : Nat, sP S a0 2 = some b2 ∧ w_X9_numberAt S b2 x1 (fun (r4 : Int32) (S5 : St) => (∃ m : Nat, wl_X5_putFrom_30 f (w_X5_putFrom n) m S5 a0 x1 x2 5 r4 0))) ∧ ((¬ x1 < 5) → f x2 S))))
set_option maxRecDepth 100000 in
set_option maxHeartbeats 4000000 in
theorem c_X5_putFrom (l : Launch) (n : Nat) : ∀ (S : St) (a0 : Nat) (x1 : Int32) (x2 : Int32) (f : Int32 → St → Prop), w_X5_putFrom n S a0 x1 x2 f → Ct l yX5_putFrom (Cond.code yX5_putFrom cX5_putFrom 7 (some .int)) { frames := 1 + n * 1, cells := 0, slots := 0, locals := 22 + n * 26 } 0 0 S [.ref a0, .int x1, .int x2] (pI f) nox := by
  revert l
  induction n with
  | zero => intro l S a0 x1 x2 f hw; exact hw.elim
  | succ n ihd =>
  intro l S a0 x1 x2 f hw
  refine entry (by decide +kernel) rfl rfl (by first | decide | exact nl rfl) rfl ?_
  intro X h hq
  have L30 : ∀ (re : St → Nat → Int32 → Int32 → (Int32 → St → Prop) → Prop), (∀ (l : Launch) (S : St) (a0 : Nat) (x1 : Int32) (x2 : Int32) (f : Int32 → St → Prop), re S a0 x1 x2 f → Ct l yX5_putFrom (Cond.code yX5_putFrom cX5_putFrom 7 (some .int)) { frames := 1 + n * 1, cells := 0, slots := 0, locals := 22 + n * 26 } 0 0 S [.ref a0, .int x1, .int x2] (pI f) nox) → ∀ (n : Nat) (S : St) (a0 : Nat) (x1 : Int32) (x2 : Int32) (x3 : Int32) (x4 : Int32) (x5 : Int32), wl_X5_putFrom_30 f re n S a0 x1 x2 x3 x4 x5 → pw X 0 0 S 30 [(0, .ref a0), (1, .int x1), (2, .int x2), (3, .int x3), (4, .int x4), (5, .int x5)] [] := by
    intro re hre n
    induction n with
    | zero => intro S a0 x1 x2 x3 x4 x5 hw; exact hw.elim
    | succ n ih =>
      intro S a0 x1 x2 x3 x4 x5 hw
      unfold wl_X5_putFrom_30 at hw
      refine r_iload h 5 rfl dX5_putFrom_30 ?_
      refine r_iload_n h 2 rfl rfl dX5_putFrom_32 ?_
      refine r_icmp_gt h 116 dX5_putFrom_33 (by decide) (fun hc => ?_) (fun hc => ?_)
      · replace hw := hw.1 hc
        refine r_iload_n h 3 rfl rfl dX5_putFrom_116 ?_
        exact r_iret h hq rfl ⟨_, rfl, hw⟩ (by decide) (by decide) dX5_putFrom_117
      · replace hw := hw.2 hc
        refine r_iload h 5 rfl dX5_putFrom_36 ?_
        refine r_iconst h (v := 5) (by decide) dX5_putFrom_38 ?_
        refine r_icmp_ge h 116 dX5_putFrom_39 (by decide) (fun hc => ?_) (fun hc => ?_)
        · replace hw := hw.1 hc
          refine r_iload_n h 3 rfl rfl dX5_putFrom_116 ?_
          exact r_iret h hq rfl ⟨_, rfl, hw⟩ (by decide) (by decide) dX5_putFrom_117
        · replace hw := hw.2 hc
          refine r_aload_n h 0 rfl rfl dX5_putFrom_42 ?_
          obtain ⟨h8, hw⟩ := hw
          obtain ⟨b9, h10, hw⟩ := hw
          refine r_getr h kci6 in6 (k := 3) (by decide) rfl rfl q196 h8 h10 dX5_putFrom_43 ?_
          refine r_iload h 5 rfl dX5_putFrom_46 ?_
          refine r_callSN h (fun l => c_X9_numberAt l _ _ _ _ hw) n1062 q303 q55 q304 nd_X9_numberAt ⟨by first | decide | (dsimp only; omega), by first | decide | (dsimp only; omega)⟩ rfl rfl ⟨by first | decide | (dsimp only; omega), by first | decide | (dsimp only; omega)⟩ (as := [.ref b9, .int x5]) rfl (by first | decide | exact nl rfl) rfl dX5_putFrom_48 nxk (kI fun r11 S12 hw => ?_)
          refine r_istore h [1, 2, 3, 4, 5, 6, 0] (by decide) rfl dX5_putFrom_51 ?_
          refine r_iload h 6 rfl dX5_putFrom_53 ?_
          refine r_iload h 4 rfl dX5_putFrom_55 ?_
          refine r_iadd h dX5_putFrom_57 ?_
          refine r_aload_n h 0 rfl rfl dX5_putFrom_58 ?_
          obtain ⟨h14, hw⟩ := hw
          refine r_geti h kci6 in6 (k := 0) (by decide) rfl rfl q193 h14 dX5_putFrom_59 ?_
          refine r_icmp_gt h 110 dX5_putFrom_62 (by decide) (fun hc => ?_) (fun hc => ?_)
          · replace hw := hw.1 hc
            refine r_iinc h (j := 5) (v := (x5 + 1)) [1, 2, 3, 4, 5, 0, 6] rfl rfl (by decide) rfl dX5_putFrom_110 ?_
            refine r_goto h 30 dX5_putFrom_113 (by decide) ?_
            refine r_vs [0, 1, 2, 3, 4, 5] rfl ?_
            exact ih _ _ _ _ _ _ _ hw
          · replace hw := hw.2 hc
            refine r_aload_n h 0 rfl rfl dX5_putFrom_65 ?_
            obtain ⟨b15, h16, hw⟩ := hw
            refine r_getr h kci6 in6 (k := 3) (by decide) rfl rfl q196 h14 h16 dX5_putFrom_66 ?_
            refine r_iload h 5 rfl dX5_putFrom_69 ?_
            refine r_iload h 6 rfl dX5_putFrom_71 ?_
            refine r_iload h 4 rfl dX5_putFrom_73 ?_
            refine r_iadd h dX5_putFrom_75 ?_
            refine r_callSN h (fun l => c_X9_putAt l _ _ _ _ _ hw) n1052 q415 q55 q416 nd_X9_putAt ⟨by first | decide | (dsimp only; omega), by first | decide | (dsimp only; omega)⟩ rfl rfl ⟨by first | decide | (dsimp only; omega), by first | decide | (dsimp only; omega)⟩ (as := [.ref b15, .int x5, .int (r11 + x4)]) rfl (by first | decide | exact nl rfl) rfl dX5_putFrom_76 nxk (kV fun  S17 hw => ?_)
            refine r_iload_n h 3 rfl rfl dX5_putFrom_79 ?_
            refine r_aload_n h 0 rfl rfl dX5_putFrom_80 ?_
            refine r_iload_n h 1 rfl rfl dX5_putFrom_81 ?_
            refine r_iconst h (v := 1) (by decide) dX5_putFrom_82 ?_
            refine r_iadd h dX5_putFrom_83 ?_
            refine r_iload_n h 2 rfl rfl dX5_putFrom_84 ?_
            refine r_iload h 5 rfl dX5_putFrom_85 ?_
            refine r_iconst h (v := 1) (by decide) dX5_putFrom_87 ?_
            refine r_iadd h dX5_putFrom_88 ?_
            refine r_max h q1082 q412 q72 q413 (by first | decide | (dsimp only; omega) | (simp only [List.map_cons, List.map_nil, List.sum_cons, List.sum_nil, Value.category]; omega)) (by first | decide | (dsimp only; omega) | (simp only [List.map_cons, List.map_nil, List.sum_cons, List.sum_nil, Value.category]; omega)) (by first | decide | (dsimp only; omega) | (simp only [List.map_cons, List.map_nil, List.sum_cons, List.sum_nil, Value.category]; omega)) (by first | decide | (dsimp only; omega) | (simp only [List.map_cons, List.map_nil, List.sum_cons, List.sum_nil, Value.category]; omega)) dX5_putFrom_89 ?_
            refine r_callS h (fun l => hre l _ _ _ _ _ hw) q1079 q1080 q63 q1081 nd_X5_putFrom ⟨by first | decide | (dsimp only; omega), by first | decide | (dsimp only; omega)⟩ rfl rfl ⟨by first | decide | (dsimp only; omega), by first | decide | (dsimp only; omega)⟩ (as := [.ref a0, .int (x1 + 1), .int (if x2 < (x5 + 1) then (x5 + 1) else x2)]) rfl (by first | decide | exact nl rfl) rfl dX5_putFrom_92 nxk (kI fun r19 S20 hw => ?_)
            refine r_min h q1067 q643 q72 q644 (by first | decide | (dsimp only; omega) | (simp only [List.map_cons, List.map_nil, List.sum_cons, List.sum_nil, Value.category]; omega)) (by first | decide | (dsimp only; omega) | (simp only [List.map_cons, List.map_nil, List.sum_cons, List.sum_nil, Value.category]; omega)) (by first | decide | (dsimp only; omega) | (simp only [List.map_cons, List.map_nil, List.sum_cons, List.sum_nil, Value.category]; omega)) (by first | decide | (dsimp only; omega) | (simp only [List.map_cons, List.map_nil, List.sum_cons, List.sum_nil, Value.category]; omega)) dX5_putFrom_95 ?_
            refine r_istore_n h [1, 2, 3, 0, 4, 5, 6] rfl (by decide) rfl dX5_putFrom_98 ?_
            refine r_aload_n h 0 rfl rfl dX5_putFrom_99 ?_
            obtain ⟨h22, hw⟩ := hw
            obtain ⟨b23, h24, hw⟩ := hw
            refine r_getr h kci6 in6 (k := 3) (by decide) rfl rfl q196 h22 h24 dX5_putFrom_100 ?_
            refine r_iload h 5 rfl dX5_putFrom_103 ?_
            refine r_iload h 6 rfl dX5_putFrom_105 ?_
            refine r_callSN h (fun l => c_X9_putAt l _ _ _ _ _ hw) n1052 q415 q55 q416 nd_X9_putAt ⟨by first | decide | (dsimp only; omega), by first | decide | (dsimp only; omega)⟩ rfl rfl ⟨by first | decide | (dsimp only; omega), by first | decide | (dsimp only; omega)⟩ (as := [.ref b23, .int x5, .int r11]) rfl (by first | decide | exact nl rfl) rfl dX5_putFrom_107 nxk (kV fun  S25 hw => ?_)
            refine r_iinc h (j := 5) (v := (x5 + 1)) [1, 2, 3, 4, 5, 0, 6] rfl rfl (by decide) rfl dX5_putFrom_110 ?_
            refine r_goto h 30 dX5_putFrom_113 (by decide) ?_
            refine r_vs [0, 1, 2, 3, 4, 5] rfl ?_
            exact ih _ _ _ _ _ _ _ hw
  unfold w_X5_putFrom at hw
  refine r_iload_n h 1 rfl rfl dX5_putFrom_0 ?_
  refine r_aload_n h 0 rfl rfl dX5_putFrom_1 ?_
  obtain ⟨h1, hw⟩ := hw
  refine r_geti h kci6 in6 (k := 1) (by decide) rfl rfl q194 h1 dX5_putFrom_2 ?_
  refine r_icmp_ge h 13 dX5_putFrom_5 (by decide) (fun hc => ?_) (fun hc => ?_)
  · replace hw := hw.1 hc
    refine r_iload_n h 2 rfl rfl dX5_putFrom_13 ?_
    exact r_iret h hq rfl ⟨_, rfl, hw⟩ (by decide) (by decide) dX5_putFrom_14
  · replace hw := hw.2 hc
    refine r_iload_n h 1 rfl rfl dX5_putFrom_8 ?_
    refine r_iconst h (v := 5) (by decide) dX5_putFrom_9 ?_
    refine r_icmp_lt h 15 dX5_putFrom_10 (by decide) (fun hc => ?_) (fun hc => ?_)
    · replace hw := hw.1 hc
      refine r_iconst h (v := 5) (by decide) dX5_putFrom_15 ?_
      refine r_istore_n h [1, 2, 3, 0] rfl (by decide) rfl dX5_putFrom_16 ?_
      refine r_aload_n h 0 rfl rfl dX5_putFrom_17 ?_
      obtain ⟨b2, h3, hw⟩ := hw
      refine r_getr h kci6 in6 (k := 2) (by decide) rfl rfl q195 h1 h3 dX5_putFrom_18 ?_
      refine r_iload_n h 1 rfl rfl dX5_putFrom_21 ?_
      refine r_callSN h (fun l => c_X9_numberAt l _ _ _ _ hw) n1062 q303 q55 q304 nd_X9_numberAt ⟨by first | decide | (dsimp only; omega), by first | decide | (dsimp only; omega)⟩ rfl rfl ⟨by first | decide | (dsimp only; omega), by first | decide | (dsimp only; omega)⟩ (as := [.ref b2, .int x1]) rfl (by first | decide | exact nl rfl) rfl dX5_putFrom_22 nxk (kI fun r4 S5 hw => ?_)
      refine r_istore h [1, 2, 3, 4, 0] (by decide) rfl dX5_putFrom_25 ?_
      refine r_iconst h (v := 0) (by decide) dX5_putFrom_27 ?_
      refine r_istore h [1, 2, 3, 4, 5, 0] (by decide) rfl dX5_putFrom_28 ?_
      obtain ⟨m, hw⟩ := hw
      exact L30 _ ihd m _ _ _ _ _ _ _ hw
    · replace hw := hw.2 hc
      refine r_iload_n h 2 rfl rfl dX5_putFrom_13 ?_
      exact r_iret h hq rfl ⟨_, rfl, hw⟩ (by decide) (by decide) dX5_putFrom_14

def w_X5_leastByTrying (S : St) (a0 : Nat) (f : Int32 → St → Prop) : Prop := w_X5_putFrom 7 S a0 0 0 (fun (r1 : Int32) (S2 : St) => f r1 S2)
set_option maxRecDepth 100000 in
set_option maxHeartbeats 4000000 in
theorem c_X5_leastByTrying (l : Launch) (S : St) (a0 : Nat) (f : Int32 → St → Prop) (hw : w_X5_leastByTrying S a0 f) : Ct l yX5_leastByTrying (Cond.code yX5_leastByTrying cX5_leastByTrying 1 (some .int)) { frames := 9, cells := 0, slots := 0, locals := 230 } 0 0 S [.ref a0] (pI f) nox := by
  refine entry (by decide +kernel) rfl rfl (by first | decide | exact nl rfl) rfl ?_
  intro X h hq
  unfold w_X5_leastByTrying at hw
  refine r_aload_n h 0 rfl rfl dX5_leastByTrying_0 ?_
  refine r_iconst h (v := 0) (by decide) dX5_leastByTrying_1 ?_
  refine r_iconst h (v := 0) (by decide) dX5_leastByTrying_2 ?_
  refine r_callS h (fun l => c_X5_putFrom l 7 _ _ _ _ _ hw) q1079 q1080 q63 q1081 nd_X5_putFrom ⟨by decide, by decide⟩ rfl rfl ⟨by decide, by decide⟩ (as := [.ref a0, .int 0, .int 0]) rfl (by first | decide | exact nl rfl) rfl dX5_leastByTrying_3 nxk (kI fun r1 S2 hw => ?_)
  exact r_iret h hq rfl ⟨_, rfl, hw⟩ (by decide) (by decide) dX5_leastByTrying_6

def wl_X0_power_4 (f : Int32 → St → Prop) : Nat → St → Int32 → Int32 → Int32 → Int32 → Prop
  | 0, _, _, _, _, _ => False
  | n + 1, S, x0, x1, x2, x3 => (((x1 ≤ x3) → f x2 S) ∧ ((¬ x1 ≤ x3) → wl_X0_power_4 f n S x0 x1 (x2 * x0) (x3 + 1)))
def w_X0_power (S : St) (x0 : Int32) (x1 : Int32) (f : Int32 → St → Prop) : Prop := (∃ m : Nat, wl_X0_power_4 f m S x0 x1 1 0)
set_option maxRecDepth 100000 in
set_option maxHeartbeats 4000000 in
theorem c_X0_power (l : Launch) (S : St) (x0 : Int32) (x1 : Int32) (f : Int32 → St → Prop) (hw : w_X0_power S x0 x1 f) : Ct l yX0_power (Cond.code yX0_power cX0_power 4 (some .int)) { frames := 0, cells := 0, slots := 0, locals := 0 } 0 0 S [.int x0, .int x1] (pI f) nox := by
  refine entry (by decide +kernel) rfl rfl (by first | decide | exact nl rfl) rfl ?_
  intro X h hq
  have L4 : ∀ (n : Nat) (S : St) (x0 : Int32) (x1 : Int32) (x2 : Int32) (x3 : Int32), wl_X0_power_4 f n S x0 x1 x2 x3 → pw X 0 0 S 4 [(0, .int x0), (1, .int x1), (2, .int x2), (3, .int x3)] [] := by
    intro n
    induction n with
    | zero => intro S x0 x1 x2 x3 hw; exact hw.elim
    | succ n ih =>
      intro S x0 x1 x2 x3 hw
      unfold wl_X0_power_4 at hw
      refine r_iload_n h 3 rfl rfl dX0_power_4 ?_
      refine r_iload_n h 1 rfl rfl dX0_power_5 ?_
      refine r_icmp_ge h 19 dX0_power_6 (by decide) (fun hc => ?_) (fun hc => ?_)
      · replace hw := hw.1 hc
        refine r_iload_n h 2 rfl rfl dX0_power_19 ?_
        exact r_iret h hq rfl ⟨_, rfl, hw⟩ (by decide) (by decide) dX0_power_20
      · replace hw := hw.2 hc
        refine r_iload_n h 2 rfl rfl dX0_power_9 ?_
        refine r_iload_n h 0 rfl rfl dX0_power_10 ?_
        refine r_imul h dX0_power_11 ?_
        refine r_istore_n h [1, 2, 0, 3] rfl (by decide) rfl dX0_power_12 ?_
        refine r_iinc h (j := 3) (v := (x3 + 1)) [1, 2, 3, 0] rfl rfl (by decide) rfl dX0_power_13 ?_
        refine r_goto h 4 dX0_power_16 (by decide) ?_
        exact ih _ _ _ _ _ hw
  unfold w_X0_power at hw
  refine r_iconst h (v := 1) (by decide) dX0_power_0 ?_
  refine r_istore_n h [1, 2, 0] rfl (by decide) rfl dX0_power_1 ?_
  refine r_iconst h (v := 0) (by decide) dX0_power_2 ?_
  refine r_istore_n h [1, 2, 3, 0] rfl (by decide) rfl dX0_power_3 ?_
  obtain ⟨m, hw⟩ := hw
  exact L4 m _ _ _ _ _ hw

def wl_X0_chooseAsIn_9 (f : St → Prop) : Nat → St → Nat → Int32 → Int32 → Prop
  | 0, _, _, _, _ => False
  | n + 1, S, a0, x2, x3 => (((x3 < 0) → f S) ∧ ((¬ x3 < 0) → ok S a0 1 ∧ ((((sI S a0 1) ≤ 0) → f S) ∧ ((¬ (sI S a0 1) ≤ 0) → ∃ b4 : Nat, sP S a0 4 = some b4 ∧ (¬ (sI S a0 1) = 0) ∧ w_X9_putAt S b4 x3 (x2 - x2 / (sI S a0 1) * (sI S a0 1)) (fun (S7 : St) => ok S7 a0 1 ∧ (¬ (sI S7 a0 1) = 0) ∧ wl_X0_chooseAsIn_9 f n S7 a0 (x2 / (sI S7 a0 1)) (x3 + (-1)))))))
def w_X0_chooseAsIn (S : St) (a0 : Nat) (x1 : Int32) (f : St → Prop) : Prop := ok S a0 1 ∧ (∃ m : Nat, wl_X0_chooseAsIn_9 f m S a0 x1 ((sI S a0 0) - 1))
set_option maxRecDepth 100000 in
set_option maxHeartbeats 4000000 in
theorem c_X0_chooseAsIn (l : Launch) (S : St) (a0 : Nat) (x1 : Int32) (f : St → Prop) (hw : w_X0_chooseAsIn S a0 x1 f) : Ct l yX0_chooseAsIn (Cond.code yX0_chooseAsIn cX0_chooseAsIn 4 none) { frames := 1, cells := 0, slots := 0, locals := 22 } 0 0 S [.ref a0, .int x1] (pV f) nox := by
  refine entry (by decide +kernel) rfl rfl (by first | decide | exact nl rfl) rfl ?_
  intro X h hq
  have L9 : ∀ (n : Nat) (S : St) (a0 : Nat) (x2 : Int32) (x3 : Int32), wl_X0_chooseAsIn_9 f n S a0 x2 x3 → pw X 0 0 S 9 [(0, .ref a0), (2, .int x2), (3, .int x3)] [] := by
    intro n
    induction n with
    | zero => intro S a0 x2 x3 hw; exact hw.elim
    | succ n ih =>
      intro S a0 x2 x3 hw
      unfold wl_X0_chooseAsIn_9 at hw
      refine r_iload_n h 2 rfl rfl dX0_chooseAsIn_9 ?_
      refine r_if_lt h 47 dX0_chooseAsIn_10 (by decide) (fun hc => ?_) (fun hc => ?_)
      · replace hw := hw.1 hc
        exact r_vret h hq rfl ⟨rfl, hw⟩ (by decide) (by decide) dX0_chooseAsIn_47
      · replace hw := hw.2 hc
        refine r_aload_n h 0 rfl rfl dX0_chooseAsIn_13 ?_
        obtain ⟨h3, hw⟩ := hw
        refine r_geti h kci1 in1 (k := 1) (by decide) rfl rfl q164 h3 dX0_chooseAsIn_14 ?_
        refine r_if_le h 47 dX0_chooseAsIn_17 (by decide) (fun hc => ?_) (fun hc => ?_)
        · replace hw := hw.1 hc
          exact r_vret h hq rfl ⟨rfl, hw⟩ (by decide) (by decide) dX0_chooseAsIn_47
        · replace hw := hw.2 hc
          refine r_aload_n h 0 rfl rfl dX0_chooseAsIn_20 ?_
          obtain ⟨b4, h5, hw⟩ := hw
          refine r_getr h kci1 in1 (k := 4) (by decide) rfl rfl q167 h3 h5 dX0_chooseAsIn_21 ?_
          refine r_iload_n h 2 rfl rfl dX0_chooseAsIn_24 ?_
          refine r_iload_n h 1 rfl rfl dX0_chooseAsIn_25 ?_
          refine r_aload_n h 0 rfl rfl dX0_chooseAsIn_26 ?_
          refine r_geti h kci1 in1 (k := 1) (by decide) rfl rfl q164 h3 dX0_chooseAsIn_27 ?_
          obtain ⟨h6, hw⟩ := hw
          refine r_irem h h6 dX0_chooseAsIn_30 ?_
          refine r_callSN h (fun l => c_X9_putAt l _ _ _ _ _ hw) n414 q415 q55 q416 nd_X9_putAt ⟨by decide, by decide⟩ rfl rfl ⟨by decide, by decide⟩ (as := [.ref b4, .int x3, .int (x2 - x2 / (sI S a0 1) * (sI S a0 1))]) rfl (by first | decide | exact nl rfl) rfl dX0_chooseAsIn_31 nxk (kV fun  S7 hw => ?_)
          refine r_iload_n h 1 rfl rfl dX0_chooseAsIn_34 ?_
          refine r_aload_n h 0 rfl rfl dX0_chooseAsIn_35 ?_
          obtain ⟨h9, hw⟩ := hw
          refine r_geti h kci1 in1 (k := 1) (by decide) rfl rfl q164 h9 dX0_chooseAsIn_36 ?_
          obtain ⟨h10, hw⟩ := hw
          refine r_idiv h h10 dX0_chooseAsIn_39 ?_
          refine r_istore_n h [1, 0, 2] rfl (by decide) rfl dX0_chooseAsIn_40 ?_
          refine r_iinc h (j := 2) (v := (x3 + (-1))) [1, 2, 0] rfl (congrArg (fun q => x3 + q) (show Int32.ofInt (-1) = (-1) from by decide)) (by decide) rfl dX0_chooseAsIn_41 ?_
          refine r_goto h 9 dX0_chooseAsIn_44 (by decide) ?_
          exact ih _ _ _ _ hw
  unfold w_X0_chooseAsIn at hw
  refine r_iload_n h 1 rfl rfl dX0_chooseAsIn_0 ?_
  refine r_istore_n h [1, 0] rfl (by decide) rfl dX0_chooseAsIn_1 ?_
  refine r_aload_n h 0 rfl rfl dX0_chooseAsIn_2 ?_
  obtain ⟨h1, hw⟩ := hw
  refine r_geti h kci1 in1 (k := 0) (by decide) rfl rfl q163 h1 dX0_chooseAsIn_3 ?_
  refine r_iconst h (v := 1) (by decide) dX0_chooseAsIn_6 ?_
  refine r_isub h dX0_chooseAsIn_7 ?_
  refine r_istore_n h [1, 2, 0] rfl (by decide) rfl dX0_chooseAsIn_8 ?_
  obtain ⟨m, hw⟩ := hw
  exact L9 m _ _ _ _ hw

def wl_X0_worksBeforeTheFirstMisfit_2 (f : Int32 → St → Prop) : Nat → St → Nat → Int32 → Prop
  | 0, _, _, _ => False
  | n + 1, S, a0, x1 => ok S a0 1 ∧ ((((sI S a0 0) ≤ x1) → f (sI S a0 0) S) ∧ ((¬ (sI S a0 0) ≤ x1) → w_X0_fitsToThoseBefore S a0 x1 (fun (r3 : Int32) (S4 : St) => (((¬ r3 = 0) → wl_X0_worksBeforeTheFirstMisfit_2 f n S4 a0 (x1 + 1)) ∧ ((r3 = 0) → f x1 S4)))))
def w_X0_worksBeforeTheFirstMisfit (S : St) (a0 : Nat) (f : Int32 → St → Prop) : Prop := (∃ m : Nat, wl_X0_worksBeforeTheFirstMisfit_2 f m S a0 0)
set_option maxRecDepth 100000 in
set_option maxHeartbeats 4000000 in
theorem c_X0_worksBeforeTheFirstMisfit (l : Launch) (S : St) (a0 : Nat) (f : Int32 → St → Prop) (hw : w_X0_worksBeforeTheFirstMisfit S a0 f) : Ct l yX0_worksBeforeTheFirstMisfit (Cond.code yX0_worksBeforeTheFirstMisfit cX0_worksBeforeTheFirstMisfit 2 (some .int)) { frames := 2, cells := 0, slots := 0, locals := 47 } 0 0 S [.ref a0] (pI f) nox := by
  refine entry (by decide +kernel) rfl rfl (by first | decide | exact nl rfl) rfl ?_
  intro X h hq
  have L2 : ∀ (n : Nat) (S : St) (a0 : Nat) (x1 : Int32), wl_X0_worksBeforeTheFirstMisfit_2 f n S a0 x1 → pw X 0 0 S 2 [(0, .ref a0), (1, .int x1)] [] := by
    intro n
    induction n with
    | zero => intro S a0 x1 hw; exact hw.elim
    | succ n ih =>
      intro S a0 x1 hw
      unfold wl_X0_worksBeforeTheFirstMisfit_2 at hw
      refine r_iload_n h 1 rfl rfl dX0_worksBeforeTheFirstMisfit_2 ?_
      refine r_aload_n h 0 rfl rfl dX0_worksBeforeTheFirstMisfit_3 ?_
      obtain ⟨h2, hw⟩ := hw
      refine r_geti h kci1 in1 (k := 0) (by decide) rfl rfl q163 h2 dX0_worksBeforeTheFirstMisfit_4 ?_
      refine r_icmp_ge h 26 dX0_worksBeforeTheFirstMisfit_7 (by decide) (fun hc => ?_) (fun hc => ?_)
      · replace hw := hw.1 hc
        refine r_aload_n h 0 rfl rfl dX0_worksBeforeTheFirstMisfit_26 ?_
        refine r_geti h kci1 in1 (k := 0) (by decide) rfl rfl q163 h2 dX0_worksBeforeTheFirstMisfit_27 ?_
        exact r_iret h hq rfl ⟨_, rfl, hw⟩ (by decide) (by decide) dX0_worksBeforeTheFirstMisfit_30
      · replace hw := hw.2 hc
        refine r_aload_n h 0 rfl rfl dX0_worksBeforeTheFirstMisfit_10 ?_
        refine r_iload_n h 1 rfl rfl dX0_worksBeforeTheFirstMisfit_11 ?_
        refine r_callV h (fun l => c_X0_fitsToThoseBefore l _ _ _ _ hw) q435 q437 q6 q62 q438 nd_X0_fitsToThoseBefore ⟨by decide, by decide⟩ rfl rfl ⟨by decide, by decide⟩ kci1 rfl h2 rfl (by first | decide | exact nl rfl) rfl dX0_worksBeforeTheFirstMisfit_12 nxk (kI fun r3 S4 hw => ?_)
        refine r_if_ne h 20 dX0_worksBeforeTheFirstMisfit_15 (by decide) (fun hc => ?_) (fun hc => ?_)
        · replace hw := hw.1 hc
          refine r_iinc h (j := 1) (v := (x1 + 1)) [1, 0] rfl rfl (by decide) rfl dX0_worksBeforeTheFirstMisfit_20 ?_
          refine r_goto h 2 dX0_worksBeforeTheFirstMisfit_23 (by decide) ?_
          exact ih _ _ _ hw
        · replace hw := hw.2 hc
          refine r_iload_n h 1 rfl rfl dX0_worksBeforeTheFirstMisfit_18 ?_
          exact r_iret h hq rfl ⟨_, rfl, hw⟩ (by decide) (by decide) dX0_worksBeforeTheFirstMisfit_19
  unfold w_X0_worksBeforeTheFirstMisfit at hw
  refine r_iconst h (v := 0) (by decide) dX0_worksBeforeTheFirstMisfit_0 ?_
  refine r_istore_n h [1, 0] rfl (by decide) rfl dX0_worksBeforeTheFirstMisfit_1 ?_
  obtain ⟨m, hw⟩ := hw
  exact L2 m _ _ _ hw

def wl_X0_searchAllWalls_14 (f : Int32 → St → Prop) : Nat → St → Nat → Int32 → Int32 → Prop
  | 0, _, _, _, _ => False
  | n + 1, S, a0, x1, x2 => (((x1 ≤ x2) → f 0 S) ∧ ((¬ x1 ≤ x2) → ok S a0 1 ∧ w_X0_chooseAsIn S a0 x2 (fun (S7 : St) => ok S7 a0 1 ∧ w_X0_worksBeforeTheFirstMisfit S7 a0 (fun (r10 : Int32) (S11 : St) => ok S11 a0 1 ∧ (((r10 < (sI S11 a0 0)) → w_X0_power S11 (sI S11 a0 1) (((sI S11 a0 0) - 1) - r10) (fun (r14 : Int32) (S15 : St) => (¬ (if 1 < r14 then r14 else 1) = 0) ∧ wl_X0_searchAllWalls_14 f n S15 a0 x1 (x2 + ((if 1 < r14 then r14 else 1) - (x2 - x2 / (if 1 < r14 then r14 else 1) * (if 1 < r14 then r14 else 1)))))) ∧ ((¬ r10 < (sI S11 a0 0)) → f 1 S11))))))
def w_X0_searchAllWalls (S : St) (a0 : Nat) (f : Int32 → St → Prop) : Prop := ok S a0 1 ∧ w_X0_power S (sI S a0 1) (sI S a0 0) (fun (r2 : Int32) (S3 : St) => (∃ m : Nat, wl_X0_searchAllWalls_14 f m S3 a0 r2 0))
set_option maxRecDepth 100000 in
set_option maxHeartbeats 4000000 in
theorem c_X0_searchAllWalls (l : Launch) (S : St) (a0 : Nat) (f : Int32 → St → Prop) (hw : w_X0_searchAllWalls S a0 f) : Ct l yX0_searchAllWalls (Cond.code yX0_searchAllWalls cX0_searchAllWalls 5 (some .boolean)) { frames := 3, cells := 0, slots := 0, locals := 68 } 0 0 S [.ref a0] (pI f) nox := by
  refine entry (by decide +kernel) rfl rfl (by first | decide | exact nl rfl) rfl ?_
  intro X h hq
  have L14 : ∀ (n : Nat) (S : St) (a0 : Nat) (x1 : Int32) (x2 : Int32), wl_X0_searchAllWalls_14 f n S a0 x1 x2 → pw X 0 0 S 14 [(0, .ref a0), (1, .int x1), (2, .int x2)] [] := by
    intro n
    induction n with
    | zero => intro S a0 x1 x2 hw; exact hw.elim
    | succ n ih =>
      intro S a0 x1 x2 hw
      unfold wl_X0_searchAllWalls_14 at hw
      refine r_iload_n h 2 rfl rfl dX0_searchAllWalls_14 ?_
      refine r_iload_n h 1 rfl rfl dX0_searchAllWalls_15 ?_
      refine r_icmp_ge h 73 dX0_searchAllWalls_16 (by decide) (fun hc => ?_) (fun hc => ?_)
      · replace hw := hw.1 hc
        refine r_iconst h (v := 0) (by decide) dX0_searchAllWalls_73 ?_
        exact r_zret h hq (ty := .boolean) rfl rfl ⟨_, rfl, hw⟩ (by decide) (by decide) dX0_searchAllWalls_74
      · replace hw := hw.2 hc
        refine r_aload_n h 0 rfl rfl dX0_searchAllWalls_19 ?_
        refine r_iload_n h 2 rfl rfl dX0_searchAllWalls_20 ?_
        obtain ⟨h6, hw⟩ := hw
        refine r_callV h (fun l => c_X0_chooseAsIn l _ _ _ _ hw) q451 q453 q8 q62 q454 nd_X0_chooseAsIn ⟨by decide, by decide⟩ rfl rfl ⟨by decide, by decide⟩ kci1 rfl h6 rfl (by first | decide | exact nl rfl) rfl dX0_searchAllWalls_21 nxk (kV fun  S7 hw => ?_)
        refine r_aload_n h 0 rfl rfl dX0_searchAllWalls_24 ?_
        obtain ⟨h9, hw⟩ := hw
        refine r_callV h (fun l => c_X0_worksBeforeTheFirstMisfit l _ _ _ hw) q455 q457 q9 q62 q458 nd_X0_worksBeforeTheFirstMisfit ⟨by decide, by decide⟩ rfl rfl ⟨by decide, by decide⟩ kci1 rfl h9 rfl (by first | decide | exact nl rfl) rfl dX0_searchAllWalls_25 nxk (kI fun r10 S11 hw => ?_)
        refine r_istore_n h [1, 2, 3, 0] rfl (by decide) rfl dX0_searchAllWalls_28 ?_
        refine r_iload_n h 3 rfl rfl dX0_searchAllWalls_29 ?_
        refine r_aload_n h 0 rfl rfl dX0_searchAllWalls_30 ?_
        obtain ⟨h13, hw⟩ := hw
        refine r_geti h kci1 in1 (k := 0) (by decide) rfl rfl q163 h13 dX0_searchAllWalls_31 ?_
        refine r_icmp_lt h 39 dX0_searchAllWalls_34 (by decide) (fun hc => ?_) (fun hc => ?_)
        · replace hw := hw.1 hc
          refine r_iconst h (v := 1) (by decide) dX0_searchAllWalls_39 ?_
          refine r_aload_n h 0 rfl rfl dX0_searchAllWalls_40 ?_
          refine r_geti h kci1 in1 (k := 1) (by decide) rfl rfl q164 h13 dX0_searchAllWalls_41 ?_
          refine r_aload_n h 0 rfl rfl dX0_searchAllWalls_44 ?_
          refine r_geti h kci1 in1 (k := 0) (by decide) rfl rfl q163 h13 dX0_searchAllWalls_45 ?_
          refine r_iconst h (v := 1) (by decide) dX0_searchAllWalls_48 ?_
          refine r_isub h dX0_searchAllWalls_49 ?_
          refine r_iload_n h 3 rfl rfl dX0_searchAllWalls_50 ?_
          refine r_isub h dX0_searchAllWalls_51 ?_
          refine r_callS h (fun l => c_X0_power l _ _ _ _ hw) q448 q449 q62 q450 nd_X0_power ⟨by decide, by decide⟩ rfl rfl ⟨by decide, by decide⟩ (as := [.int (sI S11 a0 1), .int (((sI S11 a0 0) - 1) - r10)]) rfl (by first | decide | exact nl rfl) rfl dX0_searchAllWalls_52 nxk (kI fun r14 S15 hw => ?_)
          refine r_max h q459 q412 q72 q413 (by first | decide | exact nl rfl) (by first | decide | exact nl rfl) (by first | decide | exact nl rfl) (by first | decide | exact nl rfl) dX0_searchAllWalls_55 ?_
          refine r_istore h [1, 2, 3, 0] (by decide) rfl dX0_searchAllWalls_58 ?_
          refine r_iload_n h 2 rfl rfl dX0_searchAllWalls_60 ?_
          refine r_iload h 3 rfl dX0_searchAllWalls_61 ?_
          refine r_iload_n h 2 rfl rfl dX0_searchAllWalls_63 ?_
          refine r_iload h 3 rfl dX0_searchAllWalls_64 ?_
          obtain ⟨h17, hw⟩ := hw
          refine r_irem h h17 dX0_searchAllWalls_66 ?_
          refine r_isub h dX0_searchAllWalls_67 ?_
          refine r_iadd h dX0_searchAllWalls_68 ?_
          refine r_istore_n h [1, 2, 0] rfl (by decide) rfl dX0_searchAllWalls_69 ?_
          refine r_goto h 14 dX0_searchAllWalls_70 (by decide) ?_
          exact ih _ _ _ _ hw
        · replace hw := hw.2 hc
          refine r_iconst h (v := 1) (by decide) dX0_searchAllWalls_37 ?_
          exact r_zret h hq (ty := .boolean) rfl rfl ⟨_, rfl, hw⟩ (by decide) (by decide) dX0_searchAllWalls_38
  unfold w_X0_searchAllWalls at hw
  refine r_aload_n h 0 rfl rfl dX0_searchAllWalls_0 ?_
  obtain ⟨h1, hw⟩ := hw
  refine r_geti h kci1 in1 (k := 1) (by decide) rfl rfl q164 h1 dX0_searchAllWalls_1 ?_
  refine r_aload_n h 0 rfl rfl dX0_searchAllWalls_4 ?_
  refine r_geti h kci1 in1 (k := 0) (by decide) rfl rfl q163 h1 dX0_searchAllWalls_5 ?_
  refine r_callS h (fun l => c_X0_power l _ _ _ _ hw) q448 q449 q62 q450 nd_X0_power ⟨by decide, by decide⟩ rfl rfl ⟨by decide, by decide⟩ (as := [.int (sI S a0 1), .int (sI S a0 0)]) rfl (by first | decide | exact nl rfl) rfl dX0_searchAllWalls_8 nxk (kI fun r2 S3 hw => ?_)
  refine r_istore_n h [1, 0] rfl (by decide) rfl dX0_searchAllWalls_11 ?_
  refine r_iconst h (v := 0) (by decide) dX0_searchAllWalls_12 ?_
  refine r_istore_n h [1, 2, 0] rfl (by decide) rfl dX0_searchAllWalls_13 ?_
  obtain ⟨m, hw⟩ := hw
  exact L14 m _ _ _ _ hw

def w_X0_init (S : St) (a0 : Nat) (f : St → Prop) : Prop := ∀ q1 : Nat, q1 ∉ sL S → let S3 : St := newA S q1 101 8; ok S3 a0 1 ∧ let S6 : St := setP S3 a0 2 (some q1); ∀ q9 : Nat, q9 ∉ sL S6 → let S11 : St := newA S6 q9 101 5; let S13 : St := setP S11 a0 3 (some q9); ∀ q16 : Nat, q16 ∉ sL S13 → let S18 : St := newA S13 q16 101 5; let S20 : St := setP S18 a0 4 (some q16); ∀ q23 : Nat, q23 ∉ sL S20 → let S25 : St := newA S20 q23 101 40; let S27 : St := setP S25 a0 5 (some q23); ∀ q30 : Nat, q30 ∉ sL S27 → let S32 : St := newA S27 q30 101 25; let S34 : St := setP S32 a0 6 (some q30); f S34
set_option maxRecDepth 100000 in
set_option maxHeartbeats 4000000 in
theorem c_X0_init (l : Launch) (S : St) (a0 : Nat) (f : St → Prop) (hw : w_X0_init S a0 f) : Ct l yX0_init (Cond.code yX0_init cX0_init 1 none) { frames := 1, cells := 5, slots := 83, locals := 12 } 5 83 S [.ref a0] (pV f) nox := by
  refine entry (by decide +kernel) rfl rfl (by first | decide | exact nl rfl) rfl ?_
  intro X h hq
  unfold w_X0_init at hw
  refine r_aload_n h 0 rfl rfl dX0_init_0 ?_
  refine r_objInit h q162 q92 q93 (by first | decide | exact nl rfl) (by first | decide | exact nl rfl) dX0_init_1 ?_
  refine r_aload_n h 0 rfl rfl dX0_init_4 ?_
  refine r_bipush h (v := 8) (by decide) dX0_init_5 ?_
  refine r_newI h (N := 8) q186 (by first | decide | exact nl rfl) (by first | decide | exact nl rfl) (by first | decide | exact nl rfl) (by first | decide | exact nl rfl) (by first | decide | exact nl rfl) dX0_init_7 (fun q1 h2 => ?_)
  replace hw := hw q1 h2
  obtain ⟨h5, hw⟩ := hw
  refine r_putrF h (v := (some q1)) rfl kci1 in1 tyX0_ok nmX0 (k := 2) (by decide) rfl rfl rfl rfl rfl rfl rfl rfl q165 h5 dX0_init_9 ?_
  refine r_aload_n h 0 rfl rfl dX0_init_12 ?_
  refine r_iconst h (v := 5) (by decide) dX0_init_13 ?_
  refine r_newI h (N := 5) q186 (by first | decide | exact nl rfl) (by first | decide | exact nl rfl) (by first | decide | exact nl rfl) (by first | decide | exact nl rfl) (by first | decide | exact nl rfl) dX0_init_14 (fun q9 h10 => ?_)
  replace hw := hw q9 h10
  refine r_putrF h (v := (some q9)) rfl kci1 in1 tyX0_ok nmX0 (k := 3) (by decide) rfl rfl rfl rfl rfl rfl rfl rfl q166 (ok_newa (c := 101) (n := 5) h10 (ok_setP h5)) dX0_init_16 ?_
  refine r_aload_n h 0 rfl rfl dX0_init_19 ?_
  refine r_iconst h (v := 5) (by decide) dX0_init_20 ?_
  refine r_newI h (N := 5) q186 (by first | decide | exact nl rfl) (by first | decide | exact nl rfl) (by first | decide | exact nl rfl) (by first | decide | exact nl rfl) (by first | decide | exact nl rfl) dX0_init_21 (fun q16 h17 => ?_)
  replace hw := hw q16 h17
  refine r_putrF h (v := (some q16)) rfl kci1 in1 tyX0_ok nmX0 (k := 4) (by decide) rfl rfl rfl rfl rfl rfl rfl rfl q167 (ok_newa (c := 101) (n := 5) h17 (ok_setP (ok_newa (c := 101) (n := 5) h10 (ok_setP h5)))) dX0_init_23 ?_
  refine r_aload_n h 0 rfl rfl dX0_init_26 ?_
  refine r_bipush h (v := 40) (by decide) dX0_init_27 ?_
  refine r_newI h (N := 40) q186 (by first | decide | exact nl rfl) (by first | decide | exact nl rfl) (by first | decide | exact nl rfl) (by first | decide | exact nl rfl) (by first | decide | exact nl rfl) dX0_init_29 (fun q23 h24 => ?_)
  replace hw := hw q23 h24
  refine r_putrF h (v := (some q23)) rfl kci1 in1 tyX0_ok nmX0 (k := 5) (by decide) rfl rfl rfl rfl rfl rfl rfl rfl q169 (ok_newa (c := 101) (n := 40) h24 (ok_setP (ok_newa (c := 101) (n := 5) h17 (ok_setP (ok_newa (c := 101) (n := 5) h10 (ok_setP h5)))))) dX0_init_31 ?_
  refine r_aload_n h 0 rfl rfl dX0_init_34 ?_
  refine r_bipush h (v := 25) (by decide) dX0_init_35 ?_
  refine r_newI h (N := 25) q186 (by first | decide | exact nl rfl) (by first | decide | exact nl rfl) (by first | decide | exact nl rfl) (by first | decide | exact nl rfl) (by first | decide | exact nl rfl) dX0_init_37 (fun q30 h31 => ?_)
  replace hw := hw q30 h31
  refine r_putrF h (v := (some q30)) rfl kci1 in1 tyX0_ok nmX0 (k := 6) (by decide) rfl rfl rfl rfl rfl rfl rfl rfl q170 (ok_newa (c := 101) (n := 25) h31 (ok_setP (ok_newa (c := 101) (n := 40) h24 (ok_setP (ok_newa (c := 101) (n := 5) h17 (ok_setP (ok_newa (c := 101) (n := 5) h10 (ok_setP h5)))))))) dX0_init_39 ?_
  exact r_vret h hq rfl ⟨rfl, hw⟩ (by decide) (by decide) dX0_init_42

def w_X5_init (S : St) (a0 : Nat) (f : St → Prop) : Prop := ∀ q1 : Nat, q1 ∉ sL S → let S3 : St := newA S q1 101 5; ok S3 a0 6 ∧ let S6 : St := setP S3 a0 2 (some q1); ∀ q9 : Nat, q9 ∉ sL S6 → let S11 : St := newA S6 q9 101 5; let S13 : St := setP S11 a0 3 (some q9); ∀ q16 : Nat, q16 ∉ sL S13 → let S18 : St := newA S13 q16 101 32; let S20 : St := setP S18 a0 4 (some q16); f S20
set_option maxRecDepth 100000 in
set_option maxHeartbeats 4000000 in
theorem c_X5_init (l : Launch) (S : St) (a0 : Nat) (f : St → Prop) (hw : w_X5_init S a0 f) : Ct l yX5_init (Cond.code yX5_init cX5_init 1 none) { frames := 1, cells := 3, slots := 42, locals := 12 } 3 42 S [.ref a0] (pV f) nox := by
  refine entry (by decide +kernel) rfl rfl (by first | decide | exact nl rfl) rfl ?_
  intro X h hq
  unfold w_X5_init at hw
  refine r_aload_n h 0 rfl rfl dX5_init_0 ?_
  refine r_objInit h q192 q92 q93 (by first | decide | exact nl rfl) (by first | decide | exact nl rfl) dX5_init_1 ?_
  refine r_aload_n h 0 rfl rfl dX5_init_4 ?_
  refine r_iconst h (v := 5) (by decide) dX5_init_5 ?_
  refine r_newI h (N := 5) q186 (by first | decide | exact nl rfl) (by first | decide | exact nl rfl) (by first | decide | exact nl rfl) (by first | decide | exact nl rfl) (by first | decide | exact nl rfl) dX5_init_6 (fun q1 h2 => ?_)
  replace hw := hw q1 h2
  obtain ⟨h5, hw⟩ := hw
  refine r_putrF h (v := (some q1)) rfl kci6 in6 tyX5_ok nmX5 (k := 2) (by decide) rfl rfl rfl rfl rfl rfl rfl rfl q195 h5 dX5_init_8 ?_
  refine r_aload_n h 0 rfl rfl dX5_init_11 ?_
  refine r_iconst h (v := 5) (by decide) dX5_init_12 ?_
  refine r_newI h (N := 5) q186 (by first | decide | exact nl rfl) (by first | decide | exact nl rfl) (by first | decide | exact nl rfl) (by first | decide | exact nl rfl) (by first | decide | exact nl rfl) dX5_init_13 (fun q9 h10 => ?_)
  replace hw := hw q9 h10
  refine r_putrF h (v := (some q9)) rfl kci6 in6 tyX5_ok nmX5 (k := 3) (by decide) rfl rfl rfl rfl rfl rfl rfl rfl q196 (ok_newa (c := 101) (n := 5) h10 (ok_setP h5)) dX5_init_15 ?_
  refine r_aload_n h 0 rfl rfl dX5_init_18 ?_
  refine r_bipush h (v := 32) (by decide) dX5_init_19 ?_
  refine r_newI h (N := 32) q186 (by first | decide | exact nl rfl) (by first | decide | exact nl rfl) (by first | decide | exact nl rfl) (by first | decide | exact nl rfl) (by first | decide | exact nl rfl) dX5_init_21 (fun q16 h17 => ?_)
  replace hw := hw q16 h17
  refine r_putrF h (v := (some q16)) rfl kci6 in6 tyX5_ok nmX5 (k := 4) (by decide) rfl rfl rfl rfl rfl rfl rfl rfl q197 (ok_newa (c := 101) (n := 32) h17 (ok_setP (ok_newa (c := 101) (n := 5) h10 (ok_setP h5)))) dX5_init_23 ?_
  exact r_vret h hq rfl ⟨rfl, hw⟩ (by decide) (by decide) dX5_init_26
