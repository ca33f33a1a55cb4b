def w_X9_isWithin (S : St) (x0 : Int32) (x1 : Int32) (x2 : Int32) (f : Int32 → St → Prop) : Prop := (((x0 < x1) → f 0 S) ∧ ((¬ x0 < x1) → (((x2 < x0) → f 0 S) ∧ ((¬ x2 < x0) → f 1 S))))
set_option maxRecDepth 100000 in
set_option maxHeartbeats 4000000 in
theorem c_X9_isWithin (l : Launch) (S : St) (x0 : Int32) (x1 : Int32) (x2 : Int32) (f : Int32 → St → Prop) (hw : w_X9_isWithin S x0 x1 x2 f) : Ct l yX9_isWithin (Cond.code yX9_isWithin cX9_isWithin 3 (some .boolean)) { frames := 0, cells := 0, slots := 0, locals := 0 } 0 0 S [.int x0, .int x1, .int x2] (pI f) nox := by
  refine entry (by decide +kernel) rfl rfl (by first | decide | exact nl rfl) rfl ?_
  intro X h hq
  unfold w_X9_isWithin at hw
  refine r_iload_n h 0 rfl rfl dX9_isWithin_0 ?_
  refine r_iload_n h 1 rfl rfl dX9_isWithin_1 ?_
  refine r_icmp_lt h 14 dX9_isWithin_2 (by decide) (fun hc => ?_) (fun hc => ?_)
  · replace hw := hw.1 hc
    refine r_iconst h (v := 0) (by decide) dX9_isWithin_14 ?_
    exact r_zret h hq (ty := .boolean) rfl rfl ⟨_, rfl, hw⟩ (by decide) (by decide) dX9_isWithin_15
  · replace hw := hw.2 hc
    refine r_iload_n h 0 rfl rfl dX9_isWithin_5 ?_
    refine r_iload_n h 2 rfl rfl dX9_isWithin_6 ?_
    refine r_icmp_gt h 14 dX9_isWithin_7 (by decide) (fun hc => ?_) (fun hc => ?_)
    · replace hw := hw.1 hc
      refine r_iconst h (v := 0) (by decide) dX9_isWithin_14 ?_
      exact r_zret h hq (ty := .boolean) rfl rfl ⟨_, rfl, hw⟩ (by decide) (by decide) dX9_isWithin_15
    · replace hw := hw.2 hc
      refine r_iconst h (v := 1) (by decide) dX9_isWithin_10 ?_
      refine r_goto h 15 dX9_isWithin_11 (by decide) ?_
      exact r_zret h hq (ty := .boolean) rfl rfl ⟨_, rfl, hw⟩ (by decide) (by decide) dX9_isWithin_15

def w_X2_init (S : St) (a0 : Nat) (x1 : Int32) (x2 : Int32) (x3 : Int32) (x4 : Int32) (f : St → Prop) : Prop := ∀ q1 : Nat, q1 ∉ sL S → let S3 : St := newO S q1 0; w_Jx4a65c_init_da8c8 S3 q1 (fun (S5 : St) => ok S5 a0 3 ∧ let S8 : St := setP S5 a0 4 (some q1); ∀ q10 : Nat, q10 ∉ sL S8 → let S12 : St := newA S8 q10 101 5; let S14 : St := setP S12 a0 5 (some q10); let S16 : St := setI S14 a0 6 100; let S17 : St := setI S16 a0 0 x1; let S18 : St := setI S17 a0 1 x2; let S19 : St := setI S18 a0 2 x3; let S20 : St := setI S19 a0 3 x4; f S20)
set_option maxRecDepth 100000 in
set_option maxHeartbeats 4000000 in
theorem c_X2_init (l : Launch) (S : St) (a0 : Nat) (x1 : Int32) (x2 : Int32) (x3 : Int32) (x4 : Int32) (f : St → Prop) (hw : w_X2_init S a0 x1 x2 x3 x4 f) : Ct l yX2_init (Cond.code yX2_init cX2_init 5 none) { frames := 4, cells := 2, slots := 8, locals := 72 } 2 8 S [.ref a0, .int x1, .int x2, .int x3, .int x4] (pV f) nox := by
  refine entry (by decide +kernel) rfl rfl (by first | decide | exact nl rfl) rfl ?_
  intro X h hq
  unfold w_X2_init at hw
  refine r_aload_n h 0 rfl rfl dX2_init_0 ?_
  refine r_objInit h q859 q92 q93 (by first | decide | exact nl rfl) (by first | decide | exact nl rfl) dX2_init_1 ?_
  refine r_aload_n h 0 rfl rfl dX2_init_4 ?_
  refine r_new h kci0 in0 tyJx4a65c_ok df0 q860 q101 q59 (by first | decide | exact nl rfl) (by first | decide | exact nl rfl) dX2_init_5 (fun q1 h2 => ?_)
  replace hw := hw q1 h2
  refine r_dup h rfl dX2_init_8 ?_
  refine r_callI h (fun l => c_Jx4a65c_init_da8c8 l _ _ _ hw) q861 q103 q59 q104 nd_Jx4a65c_init_da8c8 rfl ⟨by decide, by decide⟩ rfl rfl ⟨by decide, by decide⟩ (as := []) rfl (by first | decide | exact nl rfl) rfl dX2_init_9 nxk (kV fun  S5 hw => ?_)
  obtain ⟨h7, hw⟩ := hw
  refine r_putrF h (v := (some q1)) rfl kci3 in3 tyX2_ok nmX2 (k := 4) (by decide) rfl rfl rfl rfl rfl rfl rfl rfl q872 h7 dX2_init_12 ?_
  refine r_aload_n h 0 rfl rfl dX2_init_15 ?_
  refine r_iconst h (v := 5) (by decide) dX2_init_16 ?_
  refine r_newI h (N := 5) q186 (by first | decide | exact nl rfl) (by first | decide | exact nl rfl) (by first | decide | exact nl rfl) (by first | decide | exact nl rfl) (by first | decide | exact nl rfl) dX2_init_17 (fun q10 h11 => ?_)
  replace hw := hw q10 h11
  refine r_putrF h (v := (some q10)) rfl kci3 in3 tyX2_ok nmX2 (k := 5) (by decide) rfl rfl rfl rfl rfl rfl rfl rfl q877 (ok_newa (c := 101) (n := 5) h11 h7) dX2_init_19 ?_
  refine r_aload_n h 0 rfl rfl dX2_init_22 ?_
  refine r_bipush h (v := 100) (by decide) dX2_init_23 ?_
  refine r_puti h kci3 in3 tyX2_ok nmX2 (k := 6) (by decide) rfl rfl rfl rfl rfl rfl q880 (ok_newa (c := 101) (n := 5) h11 h7) dX2_init_25 ?_
  refine r_aload_n h 0 rfl rfl dX2_init_28 ?_
  refine r_iload_n h 1 rfl rfl dX2_init_29 ?_
  refine r_putiF h kci3 in3 tyX2_ok nmX2 (k := 0) (by decide) rfl rfl rfl rfl rfl rfl rfl rfl q862 (ok_newa (c := 101) (n := 5) h11 h7) dX2_init_30 ?_
  refine r_aload_n h 0 rfl rfl dX2_init_33 ?_
  refine r_iload_n h 2 rfl rfl dX2_init_34 ?_
  refine r_putiF h kci3 in3 tyX2_ok nmX2 (k := 1) (by decide) rfl rfl rfl rfl rfl rfl rfl rfl q865 (ok_newa (c := 101) (n := 5) h11 h7) dX2_init_35 ?_
  refine r_aload_n h 0 rfl rfl dX2_init_38 ?_
  refine r_iload_n h 3 rfl rfl dX2_init_39 ?_
  refine r_putiF h kci3 in3 tyX2_ok nmX2 (k := 2) (by decide) rfl rfl rfl rfl rfl rfl rfl rfl q868 (ok_newa (c := 101) (n := 5) h11 h7) dX2_init_40 ?_
  refine r_aload_n h 0 rfl rfl dX2_init_43 ?_
  refine r_iload h 4 rfl dX2_init_44 ?_
  refine r_putiF h kci3 in3 tyX2_ok nmX2 (k := 3) (by decide) rfl rfl rfl rfl rfl rfl rfl rfl q870 (ok_newa (c := 101) (n := 5) h11 h7) dX2_init_46 ?_
  exact r_vret h hq rfl ⟨rfl, hw⟩ (by decide) (by decide) dX2_init_49

def w_X4_init (S : St) (a0 : Nat) (x1 : Int32) (x2 : Int32) (x3 : Int32) (x4 : Int32) (f : St → Prop) : Prop := ok S a0 5 ∧ let S2 : St := setI S a0 0 x1; let S3 : St := setI S2 a0 1 x2; let S4 : St := setI S3 a0 2 x3; let S5 : St := setI S4 a0 3 x4; f S5
set_option maxRecDepth 100000 in
set_option maxHeartbeats 4000000 in
theorem c_X4_init (l : Launch) (S : St) (a0 : Nat) (x1 : Int32) (x2 : Int32) (x3 : Int32) (x4 : Int32) (f : St → Prop) (hw : w_X4_init S a0 x1 x2 x3 x4 f) : Ct l yX4_init (Cond.code yX4_init cX4_init 5 none) { frames := 1, cells := 0, slots := 0, locals := 12 } 0 0 S [.ref a0, .int x1, .int x2, .int x3, .int x4] (pV f) nox := by
  refine entry (by decide +kernel) rfl rfl (by first | decide | exact nl rfl) rfl ?_
  intro X h hq
  unfold w_X4_init at hw
  refine r_aload_n h 0 rfl rfl dX4_init_0 ?_
  refine r_objInit h q729 q92 q93 (by first | decide | exact nl rfl) (by first | decide | exact nl rfl) dX4_init_1 ?_
  refine r_aload_n h 0 rfl rfl dX4_init_4 ?_
  refine r_iload_n h 1 rfl rfl dX4_init_5 ?_
  obtain ⟨h1, hw⟩ := hw
  refine r_putiF h kci5 in5 tyX4_ok nmX4 (k := 0) (by decide) rfl rfl rfl rfl rfl rfl rfl rfl q730 h1 dX4_init_6 ?_
  refine r_aload_n h 0 rfl rfl dX4_init_9 ?_
  refine r_iload_n h 2 rfl rfl dX4_init_10 ?_
  refine r_putiF h kci5 in5 tyX4_ok nmX4 (k := 1) (by decide) rfl rfl rfl rfl rfl rfl rfl rfl q733 h1 dX4_init_11 ?_
  refine r_aload_n h 0 rfl rfl dX4_init_14 ?_
  refine r_iload_n h 3 rfl rfl dX4_init_15 ?_
  refine r_putiF h kci5 in5 tyX4_ok nmX4 (k := 2) (by decide) rfl rfl rfl rfl rfl rfl rfl rfl q736 h1 dX4_init_16 ?_
  refine r_aload_n h 0 rfl rfl dX4_init_19 ?_
  refine r_iload h 4 rfl dX4_init_20 ?_
  refine r_putiF h kci5 in5 tyX4_ok nmX4 (k := 3) (by decide) rfl rfl rfl rfl rfl rfl rfl rfl q738 h1 dX4_init_22 ?_
  exact r_vret h hq rfl ⟨rfl, hw⟩ (by decide) (by decide) dX4_init_25

def w_X9_isClimate (S : St) (x0 : Int32) (x1 : Int32) (f : Int32 → St → Prop) : Prop := w_X9_isWithin S x0 0 100 (fun (r1 : Int32) (S2 : St) => (((r1 = 0) → f 0 S2) ∧ ((¬ r1 = 0) → w_X9_isWithin S2 x1 0 100 (fun (r4 : Int32) (S5 : St) => (((r4 = 0) → f 0 S5) ∧ ((¬ r4 = 0) → f 1 S5))))))
set_option maxRecDepth 100000 in
set_option maxHeartbeats 4000000 in
theorem c_X9_isClimate (l : Launch) (S : St) (x0 : Int32) (x1 : Int32) (f : Int32 → St → Prop) (hw : w_X9_isClimate S x0 x1 f) : Ct l yX9_isClimate (Cond.code yX9_isClimate cX9_isClimate 2 (some .boolean)) { frames := 1, cells := 0, slots := 0, locals := 22 } 0 0 S [.int x0, .int x1] (pI f) nox := by
  refine entry (by decide +kernel) rfl rfl (by first | decide | exact nl rfl) rfl ?_
  intro X h hq
  unfold w_X9_isClimate at hw
  refine r_iload_n h 0 rfl rfl dX9_isClimate_0 ?_
  refine r_iconst h (v := 0) (by decide) dX9_isClimate_1 ?_
  refine r_bipush h (v := 100) (by decide) dX9_isClimate_2 ?_
  refine r_callS h (fun l => c_X9_isWithin l _ _ _ _ _ hw) q472 q315 q55 q316 nd_X9_isWithin ⟨by decide, by decide⟩ rfl rfl ⟨by decide, by decide⟩ (as := [.int x0, .int 0, .int 100]) rfl (by first | decide | exact nl rfl) rfl dX9_isClimate_4 nxk (kI fun r1 S2 hw => ?_)
  refine r_if_eq h 24 dX9_isClimate_7 (by decide) (fun hc => ?_) (fun hc => ?_)
  · replace hw := hw.1 hc
    refine r_iconst h (v := 0) (by decide) dX9_isClimate_24 ?_
    exact r_zret h hq (ty := .boolean) rfl rfl ⟨_, rfl, hw⟩ (by decide) (by decide) dX9_isClimate_25
  · replace hw := hw.2 hc
    refine r_iload_n h 1 rfl rfl dX9_isClimate_10 ?_
    refine r_iconst h (v := 0) (by decide) dX9_isClimate_11 ?_
    refine r_bipush h (v := 100) (by decide) dX9_isClimate_12 ?_
    refine r_callS h (fun l => c_X9_isWithin l _ _ _ _ _ hw) q472 q315 q55 q316 nd_X9_isWithin ⟨by decide, by decide⟩ rfl rfl ⟨by decide, by decide⟩ (as := [.int x1, .int 0, .int 100]) rfl (by first | decide | exact nl rfl) rfl dX9_isClimate_14 nxk (kI fun r4 S5 hw => ?_)
    refine r_if_eq h 24 dX9_isClimate_17 (by decide) (fun hc => ?_) (fun hc => ?_)
    · replace hw := hw.1 hc
      refine r_iconst h (v := 0) (by decide) dX9_isClimate_24 ?_
      exact r_zret h hq (ty := .boolean) rfl rfl ⟨_, rfl, hw⟩ (by decide) (by decide) dX9_isClimate_25
    · replace hw := hw.2 hc
      refine r_iconst h (v := 1) (by decide) dX9_isClimate_20 ?_
      refine r_goto h 25 dX9_isClimate_21 (by decide) ?_
      exact r_zret h hq (ty := .boolean) rfl rfl ⟨_, rfl, hw⟩ (by decide) (by decide) dX9_isClimate_25

def w_X6_init (S : St) (a0 : Nat) (x1 : Int32) (x2 : Int32) (x3 : Int32) (x4 : Int32) (f : St → Prop) : Prop := ok S a0 7 ∧ let S2 : St := setI S a0 0 x1; let S3 : St := setI S2 a0 1 x2; let S4 : St := setI S3 a0 2 x3; let S5 : St := setI S4 a0 3 x4; f S5
set_option maxRecDepth 100000 in
set_option maxHeartbeats 4000000 in
theorem c_X6_init (l : Launch) (S : St) (a0 : Nat) (x1 : Int32) (x2 : Int32) (x3 : Int32) (x4 : Int32) (f : St → Prop) (hw : w_X6_init S a0 x1 x2 x3 x4 f) : Ct l yX6_init (Cond.code yX6_init cX6_init 5 none) { frames := 1, cells := 0, slots := 0, locals := 12 } 0 0 S [.ref a0, .int x1, .int x2, .int x3, .int x4] (pV f) nox := by
  refine entry (by decide +kernel) rfl rfl (by first | decide | exact nl rfl) rfl ?_
  intro X h hq
  unfold w_X6_init at hw
  refine r_aload_n h 0 rfl rfl dX6_init_0 ?_
  refine r_objInit h q566 q92 q93 (by first | decide | exact nl rfl) (by first | decide | exact nl rfl) dX6_init_1 ?_
  refine r_aload_n h 0 rfl rfl dX6_init_4 ?_
  refine r_iload_n h 1 rfl rfl dX6_init_5 ?_
  obtain ⟨h1, hw⟩ := hw
  refine r_puti h kci7 in7 tyX6_ok nmX6 (k := 0) (by decide) rfl rfl rfl rfl rfl rfl q567 h1 dX6_init_6 ?_
  refine r_aload_n h 0 rfl rfl dX6_init_9 ?_
  refine r_iload_n h 2 rfl rfl dX6_init_10 ?_
  refine r_puti h kci7 in7 tyX6_ok nmX6 (k := 1) (by decide) rfl rfl rfl rfl rfl rfl q570 h1 dX6_init_11 ?_
  refine r_aload_n h 0 rfl rfl dX6_init_14 ?_
  refine r_iload_n h 3 rfl rfl dX6_init_15 ?_
  refine r_putiF h kci7 in7 tyX6_ok nmX6 (k := 2) (by decide) rfl rfl rfl rfl rfl rfl rfl rfl q573 h1 dX6_init_16 ?_
  refine r_aload_n h 0 rfl rfl dX6_init_19 ?_
  refine r_iload h 4 rfl dX6_init_20 ?_
  refine r_putiF h kci7 in7 tyX6_ok nmX6 (k := 3) (by decide) rfl rfl rfl rfl rfl rfl rfl rfl q575 h1 dX6_init_22 ?_
  exact r_vret h hq rfl ⟨rfl, hw⟩ (by decide) (by decide) dX6_init_25

def w_X3_walls (S : St) (a0 : Nat) (f : Int32 → St → Prop) : Prop := ok S a0 4 ∧ ∃ b2 : Nat, sP S a0 0 = some b2 ∧ ok S b2 0 ∧ w_Jx4a65c_size_8abf5 S b2 (fun (r5 : Int32) (S6 : St) => f (r5 * 2) S6)
set_option maxRecDepth 100000 in
set_option maxHeartbeats 4000000 in
theorem c_X3_walls (l : Launch) (S : St) (a0 : Nat) (f : Int32 → St → Prop) (hw : w_X3_walls S a0 f) : Ct l yX3_walls (Cond.code yX3_walls cX3_walls 1 (some .int)) { frames := 1, cells := 0, slots := 0, locals := 20 } 0 0 S [.ref a0] (pI f) nox := by
  refine entry (by decide +kernel) rfl rfl (by first | decide | exact nl rfl) rfl ?_
  intro X h hq
  unfold w_X3_walls at hw
  refine r_aload_n h 0 rfl rfl dX3_walls_0 ?_
  obtain ⟨h1, hw⟩ := hw
  obtain ⟨b2, h3, hw⟩ := hw
  refine r_getr h kci4 in4 (k := 0) (by decide) rfl rfl q126 h1 h3 dX3_walls_1 ?_
  obtain ⟨h4, hw⟩ := hw
  refine r_callV h (fun l => c_Jx4a65c_size_8abf5 l _ _ _ hw) q313 q239 q240 q59 q241 nd_Jx4a65c_size_8abf5 ⟨by decide, by decide⟩ rfl rfl ⟨by decide, by decide⟩ kci0 rfl h4 rfl (by first | decide | exact nl rfl) rfl dX3_walls_4 nxk (kI fun r5 S6 hw => ?_)
  refine r_iconst h (v := 2) (by decide) dX3_walls_7 ?_
  refine r_imul h dX3_walls_8 ?_
  exact r_iret h hq rfl ⟨_, rfl, hw⟩ (by decide) (by decide) dX3_walls_9

def w_X3_lengthOf (S : St) (a0 : Nat) (x1 : Int32) (f : Int32 → St → Prop) : Prop := ok S a0 4 ∧ w_X3_walls S a0 (fun (r2 : Int32) (S3 : St) => w_X9_isWithin S3 x1 0 (r2 - 1) (fun (r5 : Int32) (S6 : St) => (((¬ r5 = 0) → ok S6 a0 4 ∧ ∃ b9 : Nat, sP S6 a0 0 = some b9 ∧ ok S6 b9 0 ∧ w_Jx4a65c_get_915e3 S6 b9 (x1 / 2) (fun (b12 : Nat) (S13 : St) => ok S13 b12 7 ∧ (((¬ (x1 - x1 / 2 * 2) = 0) → f (sI S13 b12 3) S13) ∧ (((x1 - x1 / 2 * 2) = 0) → f (sI S13 b12 2) S13)))) ∧ ((r5 = 0) → f 0 S6))))
set_option maxRecDepth 100000 in
set_option maxHeartbeats 4000000 in
theorem c_X3_lengthOf (l : Launch) (S : St) (a0 : Nat) (x1 : Int32) (f : Int32 → St → Prop) (hw : w_X3_lengthOf S a0 x1 f) : Ct l yX3_lengthOf (Cond.code yX3_lengthOf cX3_lengthOf 3 (some .int)) { frames := 3, cells := 0, slots := 0, locals := 64 } 0 0 S [.ref a0, .int x1] (pI f) nox := by
  refine entry (by decide +kernel) rfl rfl (by first | decide | exact nl rfl) rfl ?_
  intro X h hq
  unfold w_X3_lengthOf at hw
  refine r_iload_n h 1 rfl rfl dX3_lengthOf_0 ?_
  refine r_iconst h (v := 0) (by decide) dX3_lengthOf_1 ?_
  refine r_aload_n h 0 rfl rfl dX3_lengthOf_2 ?_
  obtain ⟨h1, hw⟩ := hw
  refine r_callV h (fun l => c_X3_walls l _ _ _ hw) q309 q310 q311 q56 q312 nd_X3_walls ⟨by decide, by decide⟩ rfl rfl ⟨by decide, by decide⟩ kci4 rfl h1 rfl (by first | decide | exact nl rfl) rfl dX3_lengthOf_3 nxk (kI fun r2 S3 hw => ?_)
  refine r_iconst h (v := 1) (by decide) dX3_lengthOf_6 ?_
  refine r_isub h dX3_lengthOf_7 ?_
  refine r_callSN h (fun l => c_X9_isWithin l _ _ _ _ _ hw) n314 q315 q55 q316 nd_X9_isWithin ⟨by decide, by decide⟩ rfl rfl ⟨by decide, by decide⟩ (as := [.int x1, .int 0, .int (r2 - 1)]) rfl (by first | decide | exact nl rfl) rfl dX3_lengthOf_8 nxk (kI fun r5 S6 hw => ?_)
  refine r_if_ne h 16 dX3_lengthOf_11 (by decide) (fun hc => ?_) (fun hc => ?_)
  · replace hw := hw.1 hc
    refine r_aload_n h 0 rfl rfl dX3_lengthOf_16 ?_
    obtain ⟨h8, hw⟩ := hw
    obtain ⟨b9, h10, hw⟩ := hw
    refine r_getr h kci4 in4 (k := 0) (by decide) rfl rfl q126 h8 h10 dX3_lengthOf_17 ?_
    refine r_iload_n h 1 rfl rfl dX3_lengthOf_20 ?_
    refine r_iconst h (v := 2) (by decide) dX3_lengthOf_21 ?_
    refine r_idiv h (by decide) dX3_lengthOf_22 ?_
    obtain ⟨h11, hw⟩ := hw
    refine r_callV h (fun l => c_Jx4a65c_get_915e3 l _ _ _ _ hw) q317 q260 q261 q59 q262 nd_Jx4a65c_get_915e3 ⟨by decide, by decide⟩ rfl rfl ⟨by decide, by decide⟩ kci0 rfl h11 rfl (by first | decide | exact nl rfl) rfl dX3_lengthOf_23 nxk (kA fun b12 S13 hw => ?_)
    obtain ⟨h15, hw⟩ := hw
    refine r_castS h kci7 q318 h15 dX3_lengthOf_26 ?_
    refine r_astore_n h [2, 0] rfl (by decide) rfl dX3_lengthOf_29 ?_
    refine r_iload_n h 0 rfl rfl dX3_lengthOf_30 ?_
    refine r_iconst h (v := 2) (by decide) dX3_lengthOf_31 ?_
    refine r_irem h (by decide) dX3_lengthOf_32 ?_
    refine r_if_ne h 43 dX3_lengthOf_33 (by decide) (fun hc => ?_) (fun hc => ?_)
    · replace hw := hw.1 hc
      refine r_aload_n h 1 rfl rfl dX3_lengthOf_43 ?_
      refine r_getiN h kci7 in7 (k := 3) (by decide) rfl rfl n576 h15 dX3_lengthOf_44 ?_
      exact r_iret h hq rfl ⟨_, rfl, hw⟩ (by decide) (by decide) dX3_lengthOf_47
    · replace hw := hw.2 hc
      refine r_aload_n h 1 rfl rfl dX3_lengthOf_36 ?_
      refine r_getiN h kci7 in7 (k := 2) (by decide) rfl rfl n574 h15 dX3_lengthOf_37 ?_
      refine r_goto h 47 dX3_lengthOf_40 (by decide) ?_
      exact r_iret h hq rfl ⟨_, rfl, hw⟩ (by decide) (by decide) dX3_lengthOf_47
  · replace hw := hw.2 hc
    refine r_iconst h (v := 0) (by decide) dX3_lengthOf_14 ?_
    exact r_iret h hq rfl ⟨_, rfl, hw⟩ (by decide) (by decide) dX3_lengthOf_15

def w_X2_hangsOn (S : St) (a0 : Nat) (x1 : Int32) (f : Int32 → St → Prop) : Prop := ok S a0 3 ∧ (((¬ (sI S a0 6) = 112) → f 0 S) ∧ (((sI S a0 6) = 112) → (((x1 < (sI S a0 1)) → f 0 S) ∧ ((¬ x1 < (sI S a0 1)) → ((((sI S a0 2) < x1) → f 0 S) ∧ ((¬ (sI S a0 2) < x1) → f 1 S))))))
set_option maxRecDepth 100000 in
set_option maxHeartbeats 4000000 in
theorem c_X2_hangsOn (l : Launch) (S : St) (a0 : Nat) (x1 : Int32) (f : Int32 → St → Prop) (hw : w_X2_hangsOn S a0 x1 f) : Ct l yX2_hangsOn (Cond.code yX2_hangsOn cX2_hangsOn 2 (some .boolean)) { frames := 0, cells := 0, slots := 0, locals := 0 } 0 0 S [.ref a0, .int x1] (pI f) nox := by
  refine entry (by decide +kernel) rfl rfl (by first | decide | exact nl rfl) rfl ?_
  intro X h hq
  unfold w_X2_hangsOn at hw
  refine r_aload_n h 0 rfl rfl dX2_hangsOn_0 ?_
  obtain ⟨h1, hw⟩ := hw
  refine r_geti h kci3 in3 (k := 6) (by decide) rfl rfl q880 h1 dX2_hangsOn_1 ?_
  refine r_bipush h (v := 112) (by decide) dX2_hangsOn_4 ?_
  refine r_icmp_ne h 29 dX2_hangsOn_6 (by decide) (fun hc => ?_) (fun hc => ?_)
  · replace hw := hw.1 hc
    refine r_iconst h (v := 0) (by decide) dX2_hangsOn_29 ?_
    exact r_zret h hq (ty := .boolean) rfl rfl ⟨_, rfl, hw⟩ (by decide) (by decide) dX2_hangsOn_30
  · replace hw := hw.2 hc
    refine r_aload_n h 0 rfl rfl dX2_hangsOn_9 ?_
    refine r_geti h kci3 in3 (k := 1) (by decide) rfl rfl q865 h1 dX2_hangsOn_10 ?_
    refine r_iload_n h 1 rfl rfl dX2_hangsOn_13 ?_
    refine r_icmp_gt h 29 dX2_hangsOn_14 (by decide) (fun hc => ?_) (fun hc => ?_)
    · replace hw := hw.1 hc
      refine r_iconst h (v := 0) (by decide) dX2_hangsOn_29 ?_
      exact r_zret h hq (ty := .boolean) rfl rfl ⟨_, rfl, hw⟩ (by decide) (by decide) dX2_hangsOn_30
    · replace hw := hw.2 hc
      refine r_iload_n h 1 rfl rfl dX2_hangsOn_17 ?_
      refine r_aload_n h 0 rfl rfl dX2_hangsOn_18 ?_
      refine r_geti h kci3 in3 (k := 2) (by decide) rfl rfl q868 h1 dX2_hangsOn_19 ?_
      refine r_icmp_gt h 29 dX2_hangsOn_22 (by decide) (fun hc => ?_) (fun hc => ?_)
      · replace hw := hw.1 hc
        refine r_iconst h (v := 0) (by decide) dX2_hangsOn_29 ?_
        exact r_zret h hq (ty := .boolean) rfl rfl ⟨_, rfl, hw⟩ (by decide) (by decide) dX2_hangsOn_30
      · replace hw := hw.2 hc
        refine r_iconst h (v := 1) (by decide) dX2_hangsOn_25 ?_
        refine r_goto h 30 dX2_hangsOn_26 (by decide) ?_
        exact r_zret h hq (ty := .boolean) rfl rfl ⟨_, rfl, hw⟩ (by decide) (by decide) dX2_hangsOn_30

def wl_X2_spaceOn_4 (f : Int32 → St → Prop) : Nat → St → Nat → Int32 → Int32 → Int32 → Prop
  | 0, _, _, _, _, _ => False
  | n + 1, S, a0, x1, x2, x3 => ok S a0 3 ∧ ∃ b3 : Nat, sP S a0 4 = some b3 ∧ ok S b3 0 ∧ w_Jx4a65c_size_8abf5 S b3 (fun (r6 : Int32) (S7 : St) => (((r6 ≤ x3) → f x2 S7) ∧ ((¬ r6 ≤ x3) → ok S7 a0 3 ∧ ∃ b10 : Nat, sP S7 a0 5 = some b10 ∧ ok S7 b10 101 ∧ ((((Int32.ofNat (sN S7 b10)) ≤ x3) → f x2 S7) ∧ ((¬ (Int32.ofNat (sN S7 b10)) ≤ x3) → vp_in x3 (sN S7 b10) ∧ (((¬ (sI S7 b10 (Int32.toNatClampNeg x3)) = x1) → wl_X2_spaceOn_4 f n S7 a0 x1 (x2 + 0) (x3 + 1)) ∧ (((sI S7 b10 (Int32.toNatClampNeg x3)) = x1) → ∃ b14 : Nat, sP S7 a0 4 = some b14 ∧ ok S7 b14 0 ∧ w_Jx4a65c_get_915e3 S7 b14 x3 (fun (b17 : Nat) (S18 : St) => ok S18 b17 9 ∧ ok S18 a0 3 ∧ wl_X2_spaceOn_4 f n S18 a0 x1 (x2 + ((sI S18 b17 1) + (sI S18 a0 3))) (x3 + 1)))))))))
def w_X2_spaceOn (S : St) (a0 : Nat) (x1 : Int32) (f : Int32 → St → Prop) : Prop := (∃ m : Nat, wl_X2_spaceOn_4 f m S a0 x1 0 0)
set_option maxRecDepth 100000 in
set_option maxHeartbeats 4000000 in
theorem c_X2_spaceOn (l : Launch) (S : St) (a0 : Nat) (x1 : Int32) (f : Int32 → St → Prop) (hw : w_X2_spaceOn S a0 x1 f) : Ct l yX2_spaceOn (Cond.code yX2_spaceOn cX2_spaceOn 4 (some .int)) { frames := 3, cells := 0, slots := 0, locals := 64 } 0 0 S [.ref a0, .int x1] (pI f) nox := by
  refine entry (by decide +kernel) rfl rfl (by first | decide | exact nl rfl) rfl ?_
  intro X h hq
  have L4 : ∀ (n : Nat) (S : St) (a0 : Nat) (x1 : Int32) (x2 : Int32) (x3 : Int32), wl_X2_spaceOn_4 f n S a0 x1 x2 x3 → pw X 0 0 S 4 [(0, .ref a0), (1, .int x1), (2, .int x2), (3, .int x3)] [] := by
    intro n
    induction n with
    | zero => intro S a0 x1 x2 x3 hw; exact hw.elim
    | succ n ih =>
      intro S a0 x1 x2 x3 hw
      unfold wl_X2_spaceOn_4 at hw
      refine r_iload_n h 3 rfl rfl dX2_spaceOn_4 ?_
      refine r_aload_n h 0 rfl rfl dX2_spaceOn_5 ?_
      obtain ⟨h2, hw⟩ := hw
      obtain ⟨b3, h4, hw⟩ := hw
      refine r_getr h kci3 in3 (k := 4) (by decide) rfl rfl q872 h2 h4 dX2_spaceOn_6 ?_
      obtain ⟨h5, hw⟩ := hw
      refine r_callV h (fun l => c_Jx4a65c_size_8abf5 l _ _ _ hw) q278 q239 q240 q59 q241 nd_Jx4a65c_size_8abf5 ⟨by decide, by decide⟩ rfl rfl ⟨by decide, by decide⟩ kci0 rfl h5 rfl (by first | decide | exact nl rfl) rfl dX2_spaceOn_9 nxk (kI fun r6 S7 hw => ?_)
      refine r_icmp_ge h 66 dX2_spaceOn_12 (by decide) (fun hc => ?_) (fun hc => ?_)
      · replace hw := hw.1 hc
        refine r_iload_n h 2 rfl rfl dX2_spaceOn_66 ?_
        exact r_iret h hq rfl ⟨_, rfl, hw⟩ (by decide) (by decide) dX2_spaceOn_67
      · replace hw := hw.2 hc
        refine r_iload_n h 3 rfl rfl dX2_spaceOn_15 ?_
        refine r_aload_n h 0 rfl rfl dX2_spaceOn_16 ?_
        obtain ⟨h9, hw⟩ := hw
        obtain ⟨b10, h11, hw⟩ := hw
        refine r_getr h kci3 in3 (k := 5) (by decide) rfl rfl q877 h9 h11 dX2_spaceOn_17 ?_
        obtain ⟨h12, hw⟩ := hw
        refine r_alen h h12 (by decide) dX2_spaceOn_20 ?_
        refine r_icmp_ge h 66 dX2_spaceOn_21 (by decide) (fun hc => ?_) (fun hc => ?_)
        · replace hw := hw.1 hc
          refine r_iload_n h 2 rfl rfl dX2_spaceOn_66 ?_
          exact r_iret h hq rfl ⟨_, rfl, hw⟩ (by decide) (by decide) dX2_spaceOn_67
        · replace hw := hw.2 hc
          refine r_iload_n h 2 rfl rfl dX2_spaceOn_24 ?_
          refine r_aload_n h 0 rfl rfl dX2_spaceOn_25 ?_
          refine r_getr h kci3 in3 (k := 5) (by decide) rfl rfl q877 h9 h11 dX2_spaceOn_26 ?_
          refine r_iload_n h 3 rfl rfl dX2_spaceOn_29 ?_
          obtain ⟨h13, hw⟩ := hw
          refine r_iald h h12 h13 dX2_spaceOn_30 ?_
          refine r_iload_n h 1 rfl rfl dX2_spaceOn_31 ?_
          refine r_icmp_ne h 57 dX2_spaceOn_32 (by decide) (fun hc => ?_) (fun hc => ?_)
          · replace hw := hw.1 hc
            refine r_iconst h (v := 0) (by decide) dX2_spaceOn_57 ?_
            refine r_iadd h dX2_spaceOn_58 ?_
            refine r_istore_n h [1, 2, 0, 3] rfl (by decide) rfl dX2_spaceOn_59 ?_
            refine r_iinc h (j := 3) (v := (x3 + 1)) [1, 2, 3, 0] rfl rfl (by decide) rfl dX2_spaceOn_60 ?_
            refine r_goto h 4 dX2_spaceOn_63 (by decide) ?_
            exact ih _ _ _ _ _ hw
          · replace hw := hw.2 hc
            refine r_aload_n h 0 rfl rfl dX2_spaceOn_35 ?_
            obtain ⟨b14, h15, hw⟩ := hw
            refine r_getr h kci3 in3 (k := 4) (by decide) rfl rfl q872 h9 h15 dX2_spaceOn_36 ?_
            refine r_iload_n h 3 rfl rfl dX2_spaceOn_39 ?_
            obtain ⟨h16, hw⟩ := hw
            refine r_callV h (fun l => c_Jx4a65c_get_915e3 l _ _ _ _ hw) q279 q260 q261 q59 q262 nd_Jx4a65c_get_915e3 ⟨by decide, by decide⟩ rfl rfl ⟨by decide, by decide⟩ kci0 rfl h16 rfl (by first | decide | exact nl rfl) rfl dX2_spaceOn_40 nxk (kA fun b17 S18 hw => ?_)
            obtain ⟨h20, hw⟩ := hw
            refine r_castS h kci9 q280 h20 dX2_spaceOn_43 ?_
            refine r_getiN h kci9 in9 (k := 1) (by decide) rfl rfl n771 h20 dX2_spaceOn_46 ?_
            refine r_aload_n h 0 rfl rfl dX2_spaceOn_49 ?_
            obtain ⟨h21, hw⟩ := hw
            refine r_geti h kci3 in3 (k := 3) (by decide) rfl rfl q870 h21 dX2_spaceOn_50 ?_
            refine r_iadd h dX2_spaceOn_53 ?_
            refine r_goto h 58 dX2_spaceOn_54 (by decide) ?_
            refine r_iadd h dX2_spaceOn_58 ?_
            refine r_istore_n h [1, 2, 0, 3] rfl (by decide) rfl dX2_spaceOn_59 ?_
            refine r_iinc h (j := 3) (v := (x3 + 1)) [1, 2, 3, 0] rfl rfl (by decide) rfl dX2_spaceOn_60 ?_
            refine r_goto h 4 dX2_spaceOn_63 (by decide) ?_
            exact ih _ _ _ _ _ hw
  unfold w_X2_spaceOn at hw
  refine r_iconst h (v := 0) (by decide) dX2_spaceOn_0 ?_
  refine r_istore_n h [1, 2, 0] rfl (by decide) rfl dX2_spaceOn_1 ?_
  refine r_iconst h (v := 0) (by decide) dX2_spaceOn_2 ?_
  refine r_istore_n h [1, 2, 3, 0] rfl (by decide) rfl dX2_spaceOn_3 ?_
  obtain ⟨m, hw⟩ := hw
  exact L4 m _ _ _ _ _ hw

def wl_X1_takenOn_5 (f : Int32 → St → Prop) : Nat → St → Nat → Int32 → Int32 → Int32 → Int32 → Prop
  | 0, _, _, _, _, _, _ => False
  | n + 1, S, a0, x1, x2, x3, x4 => ok S a0 2 ∧ ∃ b3 : Nat, sP S a0 0 = some b3 ∧ ok S b3 0 ∧ w_Jx4a65c_size_8abf5 S b3 (fun (r6 : Int32) (S7 : St) => (((r6 ≤ x4) → f x3 S7) ∧ ((¬ r6 ≤ x4) → ok S7 a0 2 ∧ ∃ b10 : Nat, sP S7 a0 0 = some b10 ∧ ok S7 b10 0 ∧ w_Jx4a65c_get_915e3 S7 b10 x4 (fun (b13 : Nat) (S14 : St) => ok S14 b13 3 ∧ w_X2_hangsOn S14 b13 x2 (fun (r17 : Int32) (S18 : St) => (((r17 = 0) → wl_X1_takenOn_5 f n S18 a0 x1 x2 (x3 + 0) (x4 + 1)) ∧ ((¬ r17 = 0) → ok S18 b13 3 ∧ w_X2_spaceOn S18 b13 x1 (fun (r21 : Int32) (S22 : St) => wl_X1_takenOn_5 f n S22 a0 x1 x2 (x3 + r21) (x4 + 1)))))))))
def w_X1_takenOn (S : St) (a0 : Nat) (x1 : Int32) (x2 : Int32) (f : Int32 → St → Prop) : Prop := (∃ m : Nat, wl_X1_takenOn_5 f m S a0 x1 x2 0 0)
set_option maxRecDepth 100000 in
set_option maxHeartbeats 4000000 in
theorem c_X1_takenOn (l : Launch) (S : St) (a0 : Nat) (x1 : Int32) (x2 : Int32) (f : Int32 → St → Prop) (hw : w_X1_takenOn S a0 x1 x2 f) : Ct l yX1_takenOn (Cond.code yX1_takenOn cX1_takenOn 6 (some .int)) { frames := 4, cells := 0, slots := 0, locals := 87 } 0 0 S [.ref a0, .int x1, .int x2] (pI f) nox := by
  refine entry (by decide +kernel) rfl rfl (by first | decide | exact nl rfl) rfl ?_
  intro X h hq
  have L5 : ∀ (n : Nat) (S : St) (a0 : Nat) (x1 : Int32) (x2 : Int32) (x3 : Int32) (x4 : Int32), wl_X1_takenOn_5 f n S a0 x1 x2 x3 x4 → pw X 0 0 S 5 [(0, .ref a0), (1, .int x1), (2, .int x2), (3, .int x3), (4, .int x4)] [] := by
    intro n
    induction n with
    | zero => intro S a0 x1 x2 x3 x4 hw; exact hw.elim
    | succ n ih =>
      intro S a0 x1 x2 x3 x4 hw
      unfold wl_X1_takenOn_5 at hw
      refine r_iload h 4 rfl dX1_takenOn_5 ?_
      refine r_aload_n h 0 rfl rfl dX1_takenOn_7 ?_
      obtain ⟨h2, hw⟩ := hw
      obtain ⟨b3, h4, hw⟩ := hw
      refine r_getr h kci2 in2 (k := 0) (by decide) rfl rfl q152 h2 h4 dX1_takenOn_8 ?_
      obtain ⟨h5, hw⟩ := hw
      refine r_callV h (fun l => c_Jx4a65c_size_8abf5 l _ _ _ hw) q258 q239 q240 q59 q241 nd_Jx4a65c_size_8abf5 ⟨by decide, by decide⟩ rfl rfl ⟨by decide, by decide⟩ kci0 rfl h5 rfl (by first | decide | exact nl rfl) rfl dX1_takenOn_11 nxk (kI fun r6 S7 hw => ?_)
      refine r_icmp_ge h 59 dX1_takenOn_14 (by decide) (fun hc => ?_) (fun hc => ?_)
      · replace hw := hw.1 hc
        refine r_iload_n h 3 rfl rfl dX1_takenOn_59 ?_
        exact r_iret h hq rfl ⟨_, rfl, hw⟩ (by decide) (by decide) dX1_takenOn_60
      · replace hw := hw.2 hc
        refine r_aload_n h 0 rfl rfl dX1_takenOn_17 ?_
        obtain ⟨h9, hw⟩ := hw
        obtain ⟨b10, h11, hw⟩ := hw
        refine r_getr h kci2 in2 (k := 0) (by decide) rfl rfl q152 h9 h11 dX1_takenOn_18 ?_
        refine r_iload h 4 rfl dX1_takenOn_21 ?_
        obtain ⟨h12, hw⟩ := hw
        refine r_callV h (fun l => c_Jx4a65c_get_915e3 l _ _ _ _ hw) q259 q260 q261 q59 q262 nd_Jx4a65c_get_915e3 ⟨by decide, by decide⟩ rfl rfl ⟨by decide, by decide⟩ kci0 rfl h12 rfl (by first | decide | exact nl rfl) rfl dX1_takenOn_23 nxk (kA fun b13 S14 hw => ?_)
        obtain ⟨h16, hw⟩ := hw
        refine r_castS h kci3 q273 h16 dX1_takenOn_26 ?_
        refine r_astore h [1, 2, 3, 4, 5, 0] (by decide) rfl dX1_takenOn_29 ?_
        refine r_iload_n h 3 rfl rfl dX1_takenOn_31 ?_
        refine r_aload h 5 rfl dX1_takenOn_32 ?_
        refine r_iload_n h 2 rfl rfl dX1_takenOn_34 ?_
        refine r_callV h (fun l => c_X2_hangsOn l _ _ _ _ hw) q351 q352 q353 q82 q354 nd_X2_hangsOn ⟨by decide, by decide⟩ rfl rfl ⟨by decide, by decide⟩ kci3 rfl h16 rfl (by first | decide | exact nl rfl) rfl dX1_takenOn_35 nxk (kI fun r17 S18 hw => ?_)
        refine r_if_eq h 50 dX1_takenOn_38 (by decide) (fun hc => ?_) (fun hc => ?_)
        · replace hw := hw.1 hc
          refine r_iconst h (v := 0) (by decide) dX1_takenOn_50 ?_
          refine r_iadd h dX1_takenOn_51 ?_
          refine r_istore_n h [1, 2, 3, 0, 4] rfl (by decide) rfl dX1_takenOn_52 ?_
          refine r_iinc h (j := 4) (v := (x4 + 1)) [1, 2, 3, 4, 0] rfl rfl (by decide) rfl dX1_takenOn_53 ?_
          refine r_goto h 5 dX1_takenOn_56 (by decide) ?_
          exact ih _ _ _ _ _ _ hw
        · replace hw := hw.2 hc
          refine r_aload h 5 rfl dX1_takenOn_41 ?_
          refine r_iload_n h 1 rfl rfl dX1_takenOn_43 ?_
          obtain ⟨h20, hw⟩ := hw
          refine r_callV h (fun l => c_X2_spaceOn l _ _ _ _ hw) q355 q356 q357 q82 q358 nd_X2_spaceOn ⟨by decide, by decide⟩ rfl rfl ⟨by decide, by decide⟩ kci3 rfl h20 rfl (by first | decide | exact nl rfl) rfl dX1_takenOn_44 nxk (kI fun r21 S22 hw => ?_)
          refine r_goto h 51 dX1_takenOn_47 (by decide) ?_
          refine r_iadd h dX1_takenOn_51 ?_
          refine r_istore_n h [1, 2, 3, 0, 4] rfl (by decide) rfl dX1_takenOn_52 ?_
          refine r_iinc h (j := 4) (v := (x4 + 1)) [1, 2, 3, 4, 0] rfl rfl (by decide) rfl dX1_takenOn_53 ?_
          refine r_goto h 5 dX1_takenOn_56 (by decide) ?_
          exact ih _ _ _ _ _ _ hw
  unfold w_X1_takenOn at hw
  refine r_iconst h (v := 0) (by decide) dX1_takenOn_0 ?_
  refine r_istore_n h [1, 2, 3, 0] rfl (by decide) rfl dX1_takenOn_1 ?_
  refine r_iconst h (v := 0) (by decide) dX1_takenOn_2 ?_
  refine r_istore h [1, 2, 3, 4, 0] (by decide) rfl dX1_takenOn_3 ?_
  obtain ⟨m, hw⟩ := hw
  exact L5 m _ _ _ _ _ _ hw

def wl_X1_mostTakenDuring_13 (f : Int32 → St → Prop) : Nat → St → Nat → Nat → Int32 → Int32 → Int32 → Prop
  | 0, _, _, _, _, _, _ => False
  | n + 1, S, a0, a1, x2, x3, x4 => ok S a0 2 ∧ ∃ b8 : Nat, sP S a0 0 = some b8 ∧ ok S b8 0 ∧ w_Jx4a65c_size_8abf5 S b8 (fun (r11 : Int32) (S12 : St) => (((r11 ≤ x4) → f x3 S12) ∧ ((¬ r11 ≤ x4) → ok S12 a0 2 ∧ ∃ b15 : Nat, sP S12 a0 0 = some b15 ∧ ok S12 b15 0 ∧ w_Jx4a65c_get_915e3 S12 b15 x4 (fun (b18 : Nat) (S19 : St) => ok S19 b18 3 ∧ ok S19 a1 3 ∧ w_X9_isWithin S19 (sI S19 b18 1) (sI S19 a1 1) (sI S19 a1 2) (fun (r23 : Int32) (S24 : St) => (((r23 = 0) → wl_X1_mostTakenDuring_13 f n S24 a0 a1 x2 x3 (x4 + 1)) ∧ ((¬ r23 = 0) → ok S24 a0 2 ∧ w_X1_takenOn S24 a0 x2 (sI S19 b18 1) (fun (r27 : Int32) (S28 : St) => wl_X1_mostTakenDuring_13 f n S28 a0 a1 x2 (if x3 < r27 then r27 else x3) (x4 + 1)))))))))
def w_X1_mostTakenDuring (S : St) (a0 : Nat) (a1 : Nat) (x2 : Int32) (f : Int32 → St → Prop) : Prop := ok S a1 3 ∧ ok S a0 2 ∧ w_X1_takenOn S a0 x2 (sI S a1 1) (fun (r3 : Int32) (S4 : St) => (∃ m : Nat, wl_X1_mostTakenDuring_13 f m S4 a0 a1 x2 r3 0))
set_option maxRecDepth 100000 in
set_option maxHeartbeats 4000000 in
theorem c_X1_mostTakenDuring (l : Launch) (S : St) (a0 : Nat) (a1 : Nat) (x2 : Int32) (f : Int32 → St → Prop) (hw : w_X1_mostTakenDuring S a0 a1 x2 f) : Ct l yX1_mostTakenDuring (Cond.code yX1_mostTakenDuring cX1_mostTakenDuring 6 (some .int)) { frames := 5, cells := 0, slots := 0, locals := 112 } 0 0 S [.ref a0, .ref a1, .int x2] (pI f) nox := by
  refine entry (by decide +kernel) rfl rfl (by first | decide | exact nl rfl) rfl ?_
  intro X h hq
  have L13 : ∀ (n : Nat) (S : St) (a0 : Nat) (a1 : Nat) (x2 : Int32) (x3 : Int32) (x4 : Int32), wl_X1_mostTakenDuring_13 f n S a0 a1 x2 x3 x4 → pw X 0 0 S 13 [(0, .ref a0), (1, .ref a1), (2, .int x2), (3, .int x3), (4, .int x4)] [] := by
    intro n
    induction n with
    | zero => intro S a0 a1 x2 x3 x4 hw; exact hw.elim
    | succ n ih =>
      intro S a0 a1 x2 x3 x4 hw
      unfold wl_X1_mostTakenDuring_13 at hw
      refine r_iload h 4 rfl dX1_mostTakenDuring_13 ?_
      refine r_aload_n h 0 rfl rfl dX1_mostTakenDuring_15 ?_
      obtain ⟨h7, hw⟩ := hw
      obtain ⟨b8, h9, hw⟩ := hw
      refine r_getr h kci2 in2 (k := 0) (by decide) rfl rfl q152 h7 h9 dX1_mostTakenDuring_16 ?_
      obtain ⟨h10, hw⟩ := hw
      refine r_callV h (fun l => c_Jx4a65c_size_8abf5 l _ _ _ hw) q258 q239 q240 q59 q241 nd_Jx4a65c_size_8abf5 ⟨by decide, by decide⟩ rfl rfl ⟨by decide, by decide⟩ kci0 rfl h10 rfl (by first | decide | exact nl rfl) rfl dX1_mostTakenDuring_19 nxk (kI fun r11 S12 hw => ?_)
      refine r_icmp_ge h 76 dX1_mostTakenDuring_22 (by decide) (fun hc => ?_) (fun hc => ?_)
      · replace hw := hw.1 hc
        refine r_iload_n h 3 rfl rfl dX1_mostTakenDuring_76 ?_
        exact r_iret h hq rfl ⟨_, rfl, hw⟩ (by decide) (by decide) dX1_mostTakenDuring_77
      · replace hw := hw.2 hc
        refine r_aload_n h 0 rfl rfl dX1_mostTakenDuring_25 ?_
        obtain ⟨h14, hw⟩ := hw
        obtain ⟨b15, h16, hw⟩ := hw
        refine r_getr h kci2 in2 (k := 0) (by decide) rfl rfl q152 h14 h16 dX1_mostTakenDuring_26 ?_
        refine r_iload h 4 rfl dX1_mostTakenDuring_29 ?_
        obtain ⟨h17, hw⟩ := hw
        refine r_callV h (fun l => c_Jx4a65c_get_915e3 l _ _ _ _ hw) q259 q260 q261 q59 q262 nd_Jx4a65c_get_915e3 ⟨by decide, by decide⟩ rfl rfl ⟨by decide, by decide⟩ kci0 rfl h17 rfl (by first | decide | exact nl rfl) rfl dX1_mostTakenDuring_31 nxk (kA fun b18 S19 hw => ?_)
        obtain ⟨h21, hw⟩ := hw
        refine r_castS h kci3 q273 h21 dX1_mostTakenDuring_34 ?_
        refine r_getiN h kci3 in3 (k := 1) (by decide) rfl rfl n866 h21 dX1_mostTakenDuring_37 ?_
        refine r_istore h [1, 2, 3, 4, 5, 0] (by decide) rfl dX1_mostTakenDuring_40 ?_
        refine r_iload h 5 rfl dX1_mostTakenDuring_42 ?_
        refine r_aload_n h 1 rfl rfl dX1_mostTakenDuring_44 ?_
        obtain ⟨h22, hw⟩ := hw
        refine r_getiN h kci3 in3 (k := 1) (by decide) rfl rfl n866 h22 dX1_mostTakenDuring_45 ?_
        refine r_aload_n h 1 rfl rfl dX1_mostTakenDuring_48 ?_
        refine r_getiN h kci3 in3 (k := 2) (by decide) rfl rfl n869 h22 dX1_mostTakenDuring_49 ?_
        refine r_callSN h (fun l => c_X9_isWithin l _ _ _ _ _ hw) n410 q315 q55 q316 nd_X9_isWithin ⟨by decide, by decide⟩ rfl rfl ⟨by decide, by decide⟩ (as := [.int (sI S19 b18 1), .int (sI S19 a1 1), .int (sI S19 a1 2)]) rfl (by first | decide | exact nl rfl) rfl dX1_mostTakenDuring_52 nxk (kI fun r23 S24 hw => ?_)
        refine r_if_eq h 70 dX1_mostTakenDuring_55 (by decide) (fun hc => ?_) (fun hc => ?_)
        · replace hw := hw.1 hc
          refine r_iinc h (j := 4) (v := (x4 + 1)) [1, 2, 3, 4, 0, 5] rfl rfl (by decide) rfl dX1_mostTakenDuring_70 ?_
          refine r_goto h 13 dX1_mostTakenDuring_73 (by decide) ?_
          refine r_vs [0, 1, 2, 3, 4] rfl ?_
          exact ih _ _ _ _ _ _ hw
        · replace hw := hw.2 hc
          refine r_iload_n h 3 rfl rfl dX1_mostTakenDuring_58 ?_
          refine r_aload_n h 0 rfl rfl dX1_mostTakenDuring_59 ?_
          refine r_iload_n h 2 rfl rfl dX1_mostTakenDuring_60 ?_
          refine r_iload h 5 rfl dX1_mostTakenDuring_61 ?_
          obtain ⟨h26, hw⟩ := hw
          refine r_callV h (fun l => c_X1_takenOn l _ _ _ _ _ hw) q347 q348 q349 q61 q350 nd_X1_takenOn ⟨by decide, by decide⟩ rfl rfl ⟨by decide, by decide⟩ kci2 rfl h26 rfl (by first | decide | exact nl rfl) rfl dX1_mostTakenDuring_63 nxk (kI fun r27 S28 hw => ?_)
          refine r_max h q411 q412 q72 q413 (by first | decide | exact nl rfl) (by first | decide | exact nl rfl) (by first | decide | exact nl rfl) (by first | decide | exact nl rfl) dX1_mostTakenDuring_66 ?_
          refine r_istore_n h [1, 2, 3, 0, 4] rfl (by decide) rfl dX1_mostTakenDuring_69 ?_
          refine r_iinc h (j := 4) (v := (x4 + 1)) [1, 2, 3, 4, 0] rfl rfl (by decide) rfl dX1_mostTakenDuring_70 ?_
          refine r_goto h 13 dX1_mostTakenDuring_73 (by decide) ?_
          exact ih _ _ _ _ _ _ hw
  unfold w_X1_mostTakenDuring at hw
  refine r_aload_n h 0 rfl rfl dX1_mostTakenDuring_0 ?_
  refine r_iload_n h 2 rfl rfl dX1_mostTakenDuring_1 ?_
  refine r_aload_n h 1 rfl rfl dX1_mostTakenDuring_2 ?_
  obtain ⟨h1, hw⟩ := hw
  refine r_getiN h kci3 in3 (k := 1) (by decide) rfl rfl n866 h1 dX1_mostTakenDuring_3 ?_
  obtain ⟨h2, hw⟩ := hw
  refine r_callV h (fun l => c_X1_takenOn l _ _ _ _ _ hw) q347 q348 q349 q61 q350 nd_X1_takenOn ⟨by decide, by decide⟩ rfl rfl ⟨by decide, by decide⟩ kci2 rfl h2 rfl (by first | decide | exact nl rfl) rfl dX1_mostTakenDuring_6 nxk (kI fun r3 S4 hw => ?_)
  refine r_istore_n h [1, 2, 3, 0] rfl (by decide) rfl dX1_mostTakenDuring_9 ?_
  refine r_iconst h (v := 0) (by decide) dX1_mostTakenDuring_10 ?_
  refine r_istore h [1, 2, 3, 4, 0] (by decide) rfl dX1_mostTakenDuring_11 ?_
  obtain ⟨m, hw⟩ := hw
  exact L13 m _ _ _ _ _ _ hw

def w_X9_putAt (S : St) (a0 : Nat) (x1 : Int32) (x2 : Int32) (f : St → Prop) : Prop := (((x1 < 0) → f S) ∧ ((¬ x1 < 0) → ok S a0 101 ∧ ((((Int32.ofNat (sN S a0)) ≤ x1) → f S) ∧ ((¬ (Int32.ofNat (sN S a0)) ≤ x1) → vp_in x1 (sN S a0) ∧ let S3 : St := setI S a0 (Int32.toNatClampNeg x1) x2; f S3))))
set_option maxRecDepth 100000 in
set_option maxHeartbeats 4000000 in
theorem c_X9_putAt (l : Launch) (S : St) (a0 : Nat) (x1 : Int32) (x2 : Int32) (f : St → Prop) (hw : w_X9_putAt S a0 x1 x2 f) : Ct l yX9_putAt (Cond.code yX9_putAt cX9_putAt 3 none) { frames := 0, cells := 0, slots := 0, locals := 0 } 0 0 S [.ref a0, .int x1, .int x2] (pV f) nox := by
  refine entry (by decide +kernel) rfl rfl (by first | decide | exact nl rfl) rfl ?_
  intro X h hq
  unfold w_X9_putAt at hw
  refine r_iload_n h 1 rfl rfl dX9_putAt_0 ?_
  refine r_if_lt h 14 dX9_putAt_1 (by decide) (fun hc => ?_) (fun hc => ?_)
  · replace hw := hw.1 hc
    exact r_vret h hq rfl ⟨rfl, hw⟩ (by decide) (by decide) dX9_putAt_14
  · replace hw := hw.2 hc
    refine r_iload_n h 1 rfl rfl dX9_putAt_4 ?_
    refine r_aload_n h 0 rfl rfl dX9_putAt_5 ?_
    obtain ⟨h1, hw⟩ := hw
    refine r_alen h h1 (by decide) dX9_putAt_6 ?_
    refine r_icmp_ge h 14 dX9_putAt_7 (by decide) (fun hc => ?_) (fun hc => ?_)
    · replace hw := hw.1 hc
      exact r_vret h hq rfl ⟨rfl, hw⟩ (by decide) (by decide) dX9_putAt_14
    · replace hw := hw.2 hc
      refine r_aload_n h 0 rfl rfl dX9_putAt_10 ?_
      refine r_iload_n h 1 rfl rfl dX9_putAt_11 ?_
      refine r_iload_n h 2 rfl rfl dX9_putAt_12 ?_
      obtain ⟨h2, hw⟩ := hw
      refine r_iast h h1 h2 dX9_putAt_13 ?_
      exact r_vret h hq rfl ⟨rfl, hw⟩ (by decide) (by decide) dX9_putAt_14

def w_X7_kindOf (S : St) (a0 : Nat) (x1 : Int32) (x2 : Int32) (f : Int32 → St → Prop) : Prop := (((((x1 * 12) + x2) < 0) → f 110 S) ∧ ((¬ ((x1 * 12) + x2) < 0) → ok S a0 8 ∧ ∃ b2 : Nat, sP S a0 0 = some b2 ∧ ok S b2 100 ∧ ((((Int32.ofNat (sN S b2)) ≤ ((x1 * 12) + x2)) → f 110 S) ∧ ((¬ (Int32.ofNat (sN S b2)) ≤ ((x1 * 12) + x2)) → vp_in ((x1 * 12) + x2) (sN S b2) ∧ (((¬ (sI S b2 (Int32.toNatClampNeg ((x1 * 12) + x2))) = 0) → narrow .char (.int (sI S b2 (Int32.toNatClampNeg ((x1 * 12) + x2)))) = .int (sI S b2 (Int32.toNatClampNeg ((x1 * 12) + x2))) ∧ f (sI S b2 (Int32.toNatClampNeg ((x1 * 12) + x2))) S) ∧ (((sI S b2 (Int32.toNatClampNeg ((x1 * 12) + x2))) = 0) → f 110 S))))))
set_option maxRecDepth 100000 in
set_option maxHeartbeats 4000000 in
theorem c_X7_kindOf (l : Launch) (S : St) (a0 : Nat) (x1 : Int32) (x2 : Int32) (f : Int32 → St → Prop) (hw : w_X7_kindOf S a0 x1 x2 f) : Ct l yX7_kindOf (Cond.code yX7_kindOf cX7_kindOf 4 (some .char)) { frames := 0, cells := 0, slots := 0, locals := 0 } 0 0 S [.ref a0, .int x1, .int x2] (pI f) nox := by
  refine entry (by decide +kernel) rfl rfl (by first | decide | exact nl rfl) rfl ?_
  intro X h hq
  unfold w_X7_kindOf at hw
  refine r_iload_n h 1 rfl rfl dX7_kindOf_0 ?_
  refine r_bipush h (v := 12) (by decide) dX7_kindOf_1 ?_
  refine r_imul h dX7_kindOf_3 ?_
  refine r_iload_n h 2 rfl rfl dX7_kindOf_4 ?_
  refine r_iadd h dX7_kindOf_5 ?_
  refine r_istore_n h [1, 0] rfl (by decide) rfl dX7_kindOf_6 ?_
  refine r_iload_n h 1 rfl rfl dX7_kindOf_7 ?_
  refine r_if_lt h 29 dX7_kindOf_8 (by decide) (fun hc => ?_) (fun hc => ?_)
  · replace hw := hw.1 hc
    refine r_bipush h (v := 110) (by decide) dX7_kindOf_29 ?_
    exact r_zret h hq (ty := .char) rfl rfl ⟨_, rfl, hw⟩ (by decide) (by decide) dX7_kindOf_31
  · replace hw := hw.2 hc
    refine r_iload_n h 1 rfl rfl dX7_kindOf_11 ?_
    refine r_aload_n h 0 rfl rfl dX7_kindOf_12 ?_
    obtain ⟨h1, hw⟩ := hw
    obtain ⟨b2, h3, hw⟩ := hw
    refine r_getr h kci8 in8 (k := 0) (by decide) rfl rfl q139 h1 h3 dX7_kindOf_13 ?_
    obtain ⟨h4, hw⟩ := hw
    refine r_alen h h4 (by decide) dX7_kindOf_16 ?_
    refine r_icmp_ge h 29 dX7_kindOf_17 (by decide) (fun hc => ?_) (fun hc => ?_)
    · replace hw := hw.1 hc
      refine r_bipush h (v := 110) (by decide) dX7_kindOf_29 ?_
      exact r_zret h hq (ty := .char) rfl rfl ⟨_, rfl, hw⟩ (by decide) (by decide) dX7_kindOf_31
    · replace hw := hw.2 hc
      refine r_aload_n h 0 rfl rfl dX7_kindOf_20 ?_
      refine r_getr h kci8 in8 (k := 0) (by decide) rfl rfl q139 h1 h3 dX7_kindOf_21 ?_
      refine r_iload_n h 1 rfl rfl dX7_kindOf_24 ?_
      obtain ⟨h5, hw⟩ := hw
      refine r_cald h h4 h5 dX7_kindOf_25 ?_
      refine r_if_ne h 32 dX7_kindOf_26 (by decide) (fun hc => ?_) (fun hc => ?_)
      · replace hw := hw.1 hc
        refine r_aload_n h 0 rfl rfl dX7_kindOf_32 ?_
        refine r_getr h kci8 in8 (k := 0) (by decide) rfl rfl q139 h1 h3 dX7_kindOf_33 ?_
        refine r_iload_n h 1 rfl rfl dX7_kindOf_36 ?_
        refine r_cald h h4 h5 dX7_kindOf_37 ?_
        obtain ⟨h6, hw⟩ := hw
        exact r_zret h hq (ty := .char) rfl h6 ⟨_, rfl, hw⟩ (by decide) (by decide) dX7_kindOf_38
      · replace hw := hw.2 hc
        refine r_bipush h (v := 110) (by decide) dX7_kindOf_29 ?_
        exact r_zret h hq (ty := .char) rfl rfl ⟨_, rfl, hw⟩ (by decide) (by decide) dX7_kindOf_31

def w_X8_travelDays (S : St) (a0 : Nat) (f : Int32 → St → Prop) : Prop := ok S a0 9 ∧ ((sP S a0 6 = none → f 0 S) ∧ (∀ b3 : Nat, sP S a0 6 = some b3 → ok S b3 5 ∧ f (sI S b3 2) S))
set_option maxRecDepth 100000 in
set_option maxHeartbeats 4000000 in
theorem c_X8_travelDays (l : Launch) (S : St) (a0 : Nat) (f : Int32 → St → Prop) (hw : w_X8_travelDays S a0 f) : Ct l yX8_travelDays (Cond.code yX8_travelDays cX8_travelDays 1 (some .int)) { frames := 0, cells := 0, slots := 0, locals := 0 } 0 0 S [.ref a0] (pI f) nox := by
  refine entry (by decide +kernel) rfl rfl (by first | decide | exact nl rfl) rfl ?_
  intro X h hq
  unfold w_X8_travelDays at hw
  refine r_aload_n h 0 rfl rfl dX8_travelDays_0 ?_
  obtain ⟨h1, hw⟩ := hw
  obtain ⟨hw1, hw2⟩ := hw
  rcases h2 : sP _ a0 6 with _ | b3
  · replace hw := hw1 h2
    refine r_getr0 h kci9 in9 (k := 6) (by decide) rfl rfl q778 h1 h2 dX8_travelDays_1 ?_
    refine r_ifnonnull_N h dX8_travelDays_4 ?_
    refine r_iconst h (v := 0) (by decide) dX8_travelDays_7 ?_
    refine r_goto h 18 dX8_travelDays_8 (by decide) ?_
    exact r_iret h hq rfl ⟨_, rfl, hw⟩ (by decide) (by decide) dX8_travelDays_18
  · replace hw := hw2 b3 h2
    refine r_getr h kci9 in9 (k := 6) (by decide) rfl rfl q778 h1 h2 dX8_travelDays_1 ?_
    refine r_ifnonnull_R h 11 dX8_travelDays_4 (by decide) ?_
    refine r_aload_n h 0 rfl rfl dX8_travelDays_11 ?_
    refine r_getr h kci9 in9 (k := 6) (by decide) rfl rfl q778 h1 h2 dX8_travelDays_12 ?_
    obtain ⟨h4, hw⟩ := hw
    refine r_getiN h kci5 in5 (k := 2) (by decide) rfl rfl n737 h4 dX8_travelDays_15 ?_
    exact r_iret h hq rfl ⟨_, rfl, hw⟩ (by decide) (by decide) dX8_travelDays_18

def wl_X2_indexOf_2 (f : Int32 → St → Prop) : Nat → St → Nat → Nat → Int32 → Prop
  | 0, _, _, _, _ => False
  | n + 1, S, a0, a1, x2 => ok S a0 3 ∧ ∃ b3 : Nat, sP S a0 4 = some b3 ∧ ok S b3 0 ∧ w_Jx4a65c_size_8abf5 S b3 (fun (r6 : Int32) (S7 : St) => (((r6 ≤ x2) → f (-1) S7) ∧ ((¬ r6 ≤ x2) → ok S7 a0 3 ∧ ∃ b10 : Nat, sP S7 a0 4 = some b10 ∧ ok S7 b10 0 ∧ w_Jx4a65c_get_915e3 S7 b10 x2 (fun (b13 : Nat) (S14 : St) => ok S14 b13 9 ∧ ok S14 a1 9 ∧ (((¬ (sI S14 b13 0) = (sI S14 a1 0)) → wl_X2_indexOf_2 f n S14 a0 a1 (x2 + 1)) ∧ (((sI S14 b13 0) = (sI S14 a1 0)) → f x2 S14))))))
def w_X2_indexOf (S : St) (a0 : Nat) (a1 : Nat) (f : Int32 → St → Prop) : Prop := (∃ m : Nat, wl_X2_indexOf_2 f m S a0 a1 0)
set_option maxRecDepth 100000 in
set_option maxHeartbeats 4000000 in
theorem c_X2_indexOf (l : Launch) (S : St) (a0 : Nat) (a1 : Nat) (f : Int32 → St → Prop) (hw : w_X2_indexOf S a0 a1 f) : Ct l yX2_indexOf (Cond.code yX2_indexOf cX2_indexOf 3 (some .int)) { frames := 3, cells := 0, slots := 0, locals := 64 } 0 0 S [.ref a0, .ref a1] (pI f) nox := by
  refine entry (by decide +kernel) rfl rfl (by first | decide | exact nl rfl) rfl ?_
  intro X h hq
  have L2 : ∀ (n : Nat) (S : St) (a0 : Nat) (a1 : Nat) (x2 : Int32), wl_X2_indexOf_2 f n S a0 a1 x2 → pw X 0 0 S 2 [(0, .ref a0), (1, .ref a1), (2, .int x2)] [] := by
    intro n
    induction n with
    | zero => intro S a0 a1 x2 hw; exact hw.elim
    | succ n ih =>
      intro S a0 a1 x2 hw
      unfold wl_X2_indexOf_2 at hw
      refine r_iload_n h 2 rfl rfl dX2_indexOf_2 ?_
      refine r_aload_n h 0 rfl rfl dX2_indexOf_3 ?_
      obtain ⟨h2, hw⟩ := hw
      obtain ⟨b3, h4, hw⟩ := hw
      refine r_getr h kci3 in3 (k := 4) (by decide) rfl rfl q872 h2 h4 dX2_indexOf_4 ?_
      obtain ⟨h5, hw⟩ := hw
      refine r_callV h (fun l => c_Jx4a65c_size_8abf5 l _ _ _ hw) q278 q239 q240 q59 q241 nd_Jx4a65c_size_8abf5 ⟨by decide, by decide⟩ rfl rfl ⟨by decide, by decide⟩ kci0 rfl h5 rfl (by first | decide | exact nl rfl) rfl dX2_indexOf_7 nxk (kI fun r6 S7 hw => ?_)
      refine r_icmp_ge h 42 dX2_indexOf_10 (by decide) (fun hc => ?_) (fun hc => ?_)
      · replace hw := hw.1 hc
        refine r_iconst h (v := (-1)) (by decide) dX2_indexOf_42 ?_
        exact r_iret h hq rfl ⟨_, rfl, hw⟩ (by decide) (by decide) dX2_indexOf_43
      · replace hw := hw.2 hc
        refine r_aload_n h 0 rfl rfl dX2_indexOf_13 ?_
        obtain ⟨h9, hw⟩ := hw
        obtain ⟨b10, h11, hw⟩ := hw
        refine r_getr h kci3 in3 (k := 4) (by decide) rfl rfl q872 h9 h11 dX2_indexOf_14 ?_
        refine r_iload_n h 2 rfl rfl dX2_indexOf_17 ?_
        obtain ⟨h12, hw⟩ := hw
        refine r_callV h (fun l => c_Jx4a65c_get_915e3 l _ _ _ _ hw) q279 q260 q261 q59 q262 nd_Jx4a65c_get_915e3 ⟨by decide, by decide⟩ rfl rfl ⟨by decide, by decide⟩ kci0 rfl h12 rfl (by first | decide | exact nl rfl) rfl dX2_indexOf_18 nxk (kA fun b13 S14 hw => ?_)
        obtain ⟨h16, hw⟩ := hw
        refine r_castS h kci9 q280 h16 dX2_indexOf_21 ?_
        refine r_getiN h kci9 in9 (k := 0) (by decide) rfl rfl n766 h16 dX2_indexOf_24 ?_
        refine r_aload_n h 1 rfl rfl dX2_indexOf_27 ?_
        obtain ⟨h17, hw⟩ := hw
        refine r_getiN h kci9 in9 (k := 0) (by decide) rfl rfl n766 h17 dX2_indexOf_28 ?_
        refine r_icmp_ne h 36 dX2_indexOf_31 (by decide) (fun hc => ?_) (fun hc => ?_)
        · replace hw := hw.1 hc
          refine r_iinc h (j := 2) (v := (x2 + 1)) [1, 2, 0] rfl rfl (by decide) rfl dX2_indexOf_36 ?_
          refine r_goto h 2 dX2_indexOf_39 (by decide) ?_
          exact ih _ _ _ _ hw
        · replace hw := hw.2 hc
          refine r_iload_n h 2 rfl rfl dX2_indexOf_34 ?_
          exact r_iret h hq rfl ⟨_, rfl, hw⟩ (by decide) (by decide) dX2_indexOf_35
  unfold w_X2_indexOf at hw
  refine r_iconst h (v := 0) (by decide) dX2_indexOf_0 ?_
  refine r_istore_n h [1, 2, 0] rfl (by decide) rfl dX2_indexOf_1 ?_
  obtain ⟨m, hw⟩ := hw
  exact L2 m _ _ _ _ hw

def w_X2_isAwayBetween (S : St) (a0 : Nat) (a1 : Nat) (x2 : Int32) (x3 : Int32) (f : Int32 → St → Prop) : Prop := ok S a1 9 ∧ w_X8_travelDays S a1 (fun (r2 : Int32) (S3 : St) => ok S3 a0 3 ∧ (((¬ (sI S3 a0 6) = 112) → f 0 S3) ∧ (((sI S3 a0 6) = 112) → (((x3 < ((sI S3 a0 1) - r2)) → f 0 S3) ∧ ((¬ x3 < ((sI S3 a0 1) - r2)) → (((((sI S3 a0 2) + r2) < x2) → f 0 S3) ∧ ((¬ ((sI S3 a0 2) + r2) < x2) → w_X2_indexOf S3 a0 a1 (fun (r6 : Int32) (S7 : St) => (((r6 = (-1)) → f 0 S7) ∧ ((¬ r6 = (-1)) → f 1 S7))))))))))
set_option maxRecDepth 100000 in
set_option maxHeartbeats 4000000 in
theorem c_X2_isAwayBetween (l : Launch) (S : St) (a0 : Nat) (a1 : Nat) (x2 : Int32) (x3 : Int32) (f : Int32 → St → Prop) (hw : w_X2_isAwayBetween S a0 a1 x2 x3 f) : Ct l yX2_isAwayBetween (Cond.code yX2_isAwayBetween cX2_isAwayBetween 5 (some .boolean)) { frames := 4, cells := 0, slots := 0, locals := 86 } 0 0 S [.ref a0, .ref a1, .int x2, .int x3] (pI f) nox := by
  refine entry (by decide +kernel) rfl rfl (by first | decide | exact nl rfl) rfl ?_
  intro X h hq
  unfold w_X2_isAwayBetween at hw
  refine r_aload_n h 1 rfl rfl dX2_isAwayBetween_0 ?_
  obtain ⟨h1, hw⟩ := hw
  refine r_callV h (fun l => c_X8_travelDays l _ _ _ hw) q285 q286 q287 q81 q288 nd_X8_travelDays ⟨by decide, by decide⟩ rfl rfl ⟨by decide, by decide⟩ kci9 rfl h1 rfl (by first | decide | exact nl rfl) rfl dX2_isAwayBetween_1 nxk (kI fun r2 S3 hw => ?_)
  refine r_istore h [1, 2, 3, 4, 0] (by decide) rfl dX2_isAwayBetween_4 ?_
  refine r_aload_n h 0 rfl rfl dX2_isAwayBetween_6 ?_
  obtain ⟨h5, hw⟩ := hw
  refine r_geti h kci3 in3 (k := 6) (by decide) rfl rfl q880 h5 dX2_isAwayBetween_7 ?_
  refine r_bipush h (v := 112) (by decide) dX2_isAwayBetween_10 ?_
  refine r_icmp_ne h 50 dX2_isAwayBetween_12 (by decide) (fun hc => ?_) (fun hc => ?_)
  · replace hw := hw.1 hc
    refine r_iconst h (v := 0) (by decide) dX2_isAwayBetween_50 ?_
    exact r_zret h hq (ty := .boolean) rfl rfl ⟨_, rfl, hw⟩ (by decide) (by decide) dX2_isAwayBetween_51
  · replace hw := hw.2 hc
    refine r_aload_n h 0 rfl rfl dX2_isAwayBetween_15 ?_
    refine r_geti h kci3 in3 (k := 1) (by decide) rfl rfl q865 h5 dX2_isAwayBetween_16 ?_
    refine r_iload h 4 rfl dX2_isAwayBetween_19 ?_
    refine r_isub h dX2_isAwayBetween_21 ?_
    refine r_iload_n h 3 rfl rfl dX2_isAwayBetween_22 ?_
    refine r_icmp_gt h 50 dX2_isAwayBetween_23 (by decide) (fun hc => ?_) (fun hc => ?_)
    · replace hw := hw.1 hc
      refine r_iconst h (v := 0) (by decide) dX2_isAwayBetween_50 ?_
      exact r_zret h hq (ty := .boolean) rfl rfl ⟨_, rfl, hw⟩ (by decide) (by decide) dX2_isAwayBetween_51
    · replace hw := hw.2 hc
      refine r_iload_n h 2 rfl rfl dX2_isAwayBetween_26 ?_
      refine r_aload_n h 0 rfl rfl dX2_isAwayBetween_27 ?_
      refine r_geti h kci3 in3 (k := 2) (by decide) rfl rfl q868 h5 dX2_isAwayBetween_28 ?_
      refine r_iload h 4 rfl dX2_isAwayBetween_31 ?_
      refine r_iadd h dX2_isAwayBetween_33 ?_
      refine r_icmp_gt h 50 dX2_isAwayBetween_34 (by decide) (fun hc => ?_) (fun hc => ?_)
      · replace hw := hw.1 hc
        refine r_iconst h (v := 0) (by decide) dX2_isAwayBetween_50 ?_
        exact r_zret h hq (ty := .boolean) rfl rfl ⟨_, rfl, hw⟩ (by decide) (by decide) dX2_isAwayBetween_51
      · replace hw := hw.2 hc
        refine r_aload_n h 0 rfl rfl dX2_isAwayBetween_37 ?_
        refine r_aload_n h 1 rfl rfl dX2_isAwayBetween_38 ?_
        refine r_callV h (fun l => c_X2_indexOf l _ _ _ _ hw) q380 q381 q382 q82 q383 nd_X2_indexOf ⟨by decide, by decide⟩ rfl rfl ⟨by decide, by decide⟩ kci3 rfl h5 rfl (by first | decide | exact nl rfl) rfl dX2_isAwayBetween_39 nxk (kI fun r6 S7 hw => ?_)
        refine r_iconst h (v := (-1)) (by decide) dX2_isAwayBetween_42 ?_
        refine r_icmp_eq h 50 dX2_isAwayBetween_43 (by decide) (fun hc => ?_) (fun hc => ?_)
        · replace hw := hw.1 hc
          refine r_iconst h (v := 0) (by decide) dX2_isAwayBetween_50 ?_
          exact r_zret h hq (ty := .boolean) rfl rfl ⟨_, rfl, hw⟩ (by decide) (by decide) dX2_isAwayBetween_51
        · replace hw := hw.2 hc
          refine r_iconst h (v := 1) (by decide) dX2_isAwayBetween_46 ?_
          refine r_goto h 51 dX2_isAwayBetween_47 (by decide) ?_
          exact r_zret h hq (ty := .boolean) rfl rfl ⟨_, rfl, hw⟩ (by decide) (by decide) dX2_isAwayBetween_51

def w_X2_days (S : St) (a0 : Nat) (f : Int32 → St → Prop) : Prop := ok S a0 3 ∧ f (((sI S a0 2) - (sI S a0 1)) + 1) S
set_option maxRecDepth 100000 in
set_option maxHeartbeats 4000000 in
theorem c_X2_days (l : Launch) (S : St) (a0 : Nat) (f : Int32 → St → Prop) (hw : w_X2_days S a0 f) : Ct l yX2_days (Cond.code yX2_days cX2_days 1 (some .int)) { frames := 0, cells := 0, slots := 0, locals := 0 } 0 0 S [.ref a0] (pI f) nox := by
  refine entry (by decide +kernel) rfl rfl (by first | decide | exact nl rfl) rfl ?_
  intro X h hq
  unfold w_X2_days at hw
  refine r_aload_n h 0 rfl rfl dX2_days_0 ?_
  obtain ⟨h1, hw⟩ := hw
  refine r_geti h kci3 in3 (k := 2) (by decide) rfl rfl q868 h1 dX2_days_1 ?_
  refine r_aload_n h 0 rfl rfl dX2_days_4 ?_
  refine r_geti h kci3 in3 (k := 1) (by decide) rfl rfl q865 h1 dX2_days_5 ?_
  refine r_isub h dX2_days_8 ?_
  refine r_iconst h (v := 1) (by decide) dX2_days_9 ?_
  refine r_iadd h dX2_days_10 ?_
  exact r_iret h hq rfl ⟨_, rfl, hw⟩ (by decide) (by decide) dX2_days_11

def w_X8_isLentFor (S : St) (a0 : Nat) (a1 : Nat) (f : Int32 → St → Prop) : Prop := ok S a0 9 ∧ ((sP S a0 6 = none → f 1 S) ∧ (∀ b3 : Nat, sP S a0 6 = some b3 → ok S b3 5 ∧ ((((sI S b3 1) < (sI S a0 5)) → f 0 S) ∧ ((¬ (sI S b3 1) < (sI S a0 5)) → ok S a1 3 ∧ w_X2_days S a1 (fun (r6 : Int32) (S7 : St) => ok S7 a0 9 ∧ ((sP S7 a0 6 = none → False) ∧ (∀ b11 : Nat, sP S7 a0 6 = some b11 → ok S7 b11 5 ∧ ((((sI S7 b11 3) < r6) → f 0 S7) ∧ ((¬ (sI S7 b11 3) < r6) → ok S7 a1 3 ∧ ((((sI S7 a1 1) < (sI S7 b11 2)) → f 0 S7) ∧ ((¬ (sI S7 a1 1) < (sI S7 b11 2)) → f 1 S7)))))))))))
set_option maxRecDepth 100000 in
set_option maxHeartbeats 4000000 in
theorem c_X8_isLentFor (l : Launch) (S : St) (a0 : Nat) (a1 : Nat) (f : Int32 → St → Prop) (hw : w_X8_isLentFor S a0 a1 f) : Ct l yX8_isLentFor (Cond.code yX8_isLentFor cX8_isLentFor 2 (some .boolean)) { frames := 1, cells := 0, slots := 0, locals := 20 } 0 0 S [.ref a0, .ref a1] (pI f) nox := by
  refine entry (by decide +kernel) rfl rfl (by first | decide | exact nl rfl) rfl ?_
  intro X h hq
  unfold w_X8_isLentFor at hw
  refine r_aload_n h 0 rfl rfl dX8_isLentFor_0 ?_
  obtain ⟨h1, hw⟩ := hw
  obtain ⟨hw1, hw2⟩ := hw
  rcases h2 : sP _ a0 6 with _ | b3
  · replace hw := hw1 h2
    refine r_getr0 h kci9 in9 (k := 6) (by decide) rfl rfl q778 h1 h2 dX8_isLentFor_1 ?_
    refine r_ifnull_N h 49 dX8_isLentFor_4 (by decide) ?_
    refine r_iconst h (v := 1) (by decide) dX8_isLentFor_49 ?_
    refine r_goto h 54 dX8_isLentFor_50 (by decide) ?_
    exact r_zret h hq (ty := .boolean) rfl rfl ⟨_, rfl, hw⟩ (by decide) (by decide) dX8_isLentFor_54
  · replace hw := hw2 b3 h2
    refine r_getr h kci9 in9 (k := 6) (by decide) rfl rfl q778 h1 h2 dX8_isLentFor_1 ?_
    refine r_ifnull_R h dX8_isLentFor_4 ?_
    refine r_aload_n h 0 rfl rfl dX8_isLentFor_7 ?_
    refine r_geti h kci9 in9 (k := 5) (by decide) rfl rfl q775 h1 dX8_isLentFor_8 ?_
    refine r_aload_n h 0 rfl rfl dX8_isLentFor_11 ?_
    refine r_getr h kci9 in9 (k := 6) (by decide) rfl rfl q778 h1 h2 dX8_isLentFor_12 ?_
    obtain ⟨h4, hw⟩ := hw
    refine r_getiN h kci5 in5 (k := 1) (by decide) rfl rfl n735 h4 dX8_isLentFor_15 ?_
    refine r_icmp_gt h 53 dX8_isLentFor_18 (by decide) (fun hc => ?_) (fun hc => ?_)
    · replace hw := hw.1 hc
      refine r_iconst h (v := 0) (by decide) dX8_isLentFor_53 ?_
      exact r_zret h hq (ty := .boolean) rfl rfl ⟨_, rfl, hw⟩ (by decide) (by decide) dX8_isLentFor_54
    · replace hw := hw.2 hc
      refine r_aload_n h 1 rfl rfl dX8_isLentFor_21 ?_
      obtain ⟨h5, hw⟩ := hw
      refine r_callV h (fun l => c_X2_days l _ _ _ hw) q388 q282 q283 q82 q284 nd_X2_days ⟨by decide, by decide⟩ rfl rfl ⟨by decide, by decide⟩ kci3 rfl h5 rfl (by first | decide | exact nl rfl) rfl dX8_isLentFor_22 nxk (kI fun r6 S7 hw => ?_)
      refine r_aload_n h 0 rfl rfl dX8_isLentFor_25 ?_
      obtain ⟨h9, hw⟩ := hw
      obtain ⟨hw1, hw2⟩ := hw
      rcases h10 : sP _ a0 6 with _ | b11
      · replace hw := hw1 h10
        refine r_getr0 h kci9 in9 (k := 6) (by decide) rfl rfl q778 h9 h10 dX8_isLentFor_26 ?_
        exact hw.elim
      · replace hw := hw2 b11 h10
        refine r_getr h kci9 in9 (k := 6) (by decide) rfl rfl q778 h9 h10 dX8_isLentFor_26 ?_
        obtain ⟨h12, hw⟩ := hw
        refine r_getiN h kci5 in5 (k := 3) (by decide) rfl rfl n739 h12 dX8_isLentFor_29 ?_
        refine r_icmp_gt h 53 dX8_isLentFor_32 (by decide) (fun hc => ?_) (fun hc => ?_)
        · replace hw := hw.1 hc
          refine r_iconst h (v := 0) (by decide) dX8_isLentFor_53 ?_
          exact r_zret h hq (ty := .boolean) rfl rfl ⟨_, rfl, hw⟩ (by decide) (by decide) dX8_isLentFor_54
        · replace hw := hw.2 hc
          refine r_aload_n h 1 rfl rfl dX8_isLentFor_35 ?_
          obtain ⟨h13, hw⟩ := hw
          refine r_getiN h kci3 in3 (k := 1) (by decide) rfl rfl n867 h13 dX8_isLentFor_36 ?_
          refine r_aload_n h 0 rfl rfl dX8_isLentFor_39 ?_
          refine r_getr h kci9 in9 (k := 6) (by decide) rfl rfl q778 h9 h10 dX8_isLentFor_40 ?_
          refine r_getiN h kci5 in5 (k := 2) (by decide) rfl rfl n737 h12 dX8_isLentFor_43 ?_
          refine r_icmp_lt h 53 dX8_isLentFor_46 (by decide) (fun hc => ?_) (fun hc => ?_)
          · replace hw := hw.1 hc
            refine r_iconst h (v := 0) (by decide) dX8_isLentFor_53 ?_
            exact r_zret h hq (ty := .boolean) rfl rfl ⟨_, rfl, hw⟩ (by decide) (by decide) dX8_isLentFor_54
          · replace hw := hw.2 hc
            refine r_iconst h (v := 1) (by decide) dX8_isLentFor_49 ?_
            refine r_goto h 54 dX8_isLentFor_50 (by decide) ?_
            exact r_zret h hq (ty := .boolean) rfl rfl ⟨_, rfl, hw⟩ (by decide) (by decide) dX8_isLentFor_54

def wl_X1_allowsTaking_8 (f : Int32 → St → Prop) : Nat → St → Nat → Nat → Nat → Int32 → Int32 → Prop
  | 0, _, _, _, _, _, _ => False
  | n + 1, S, a0, a1, a2, x3, x4 => ok S a0 2 ∧ ∃ b7 : Nat, sP S a0 0 = some b7 ∧ ok S b7 0 ∧ w_Jx4a65c_size_8abf5 S b7 (fun (r10 : Int32) (S11 : St) => (((r10 ≤ x4) → ok S11 a2 9 ∧ w_X8_isLentFor S11 a2 a1 (fun (r14 : Int32) (S15 : St) => (r14 = 0 ∨ r14 = 1) ∧ f r14 S15)) ∧ ((¬ r10 ≤ x4) → ok S11 a0 2 ∧ ∃ b19 : Nat, sP S11 a0 0 = some b19 ∧ ok S11 b19 0 ∧ w_Jx4a65c_get_915e3 S11 b19 x4 (fun (b22 : Nat) (S23 : St) => ok S23 b22 3 ∧ ok S23 a1 3 ∧ ((((sI S23 b22 0) = (sI S23 a1 0)) → wl_X1_allowsTaking_8 f n S23 a0 a1 a2 x3 (x4 + 1)) ∧ ((¬ (sI S23 b22 0) = (sI S23 a1 0)) → w_X2_isAwayBetween S23 b22 a2 ((sI S23 a1 1) - x3) ((sI S23 a1 2) + x3) (fun (r27 : Int32) (S28 : St) => (((r27 = 0) → wl_X1_allowsTaking_8 f n S28 a0 a1 a2 x3 (x4 + 1)) ∧ ((¬ r27 = 0) → f 0 S28)))))))))
def w_X1_allowsTaking (S : St) (a0 : Nat) (a1 : Nat) (a2 : Nat) (f : Int32 → St → Prop) : Prop := ok S a2 9 ∧ w_X8_travelDays S a2 (fun (r2 : Int32) (S3 : St) => (∃ m : Nat, wl_X1_allowsTaking_8 f m S3 a0 a1 a2 r2 0))
set_option maxRecDepth 100000 in
set_option maxHeartbeats 4000000 in
theorem c_X1_allowsTaking (l : Launch) (S : St) (a0 : Nat) (a1 : Nat) (a2 : Nat) (f : Int32 → St → Prop) (hw : w_X1_allowsTaking S a0 a1 a2 f) : Ct l yX1_allowsTaking (Cond.code yX1_allowsTaking cX1_allowsTaking 6 (some .boolean)) { frames := 5, cells := 0, slots := 0, locals := 110 } 0 0 S [.ref a0, .ref a1, .ref a2] (pI f) nox := by
  refine entry (by decide +kernel) rfl rfl (by first | decide | exact nl rfl) rfl ?_
  intro X h hq
  have L8 : ∀ (n : Nat) (S : St) (a0 : Nat) (a1 : Nat) (a2 : Nat) (x3 : Int32) (x4 : Int32), wl_X1_allowsTaking_8 f n S a0 a1 a2 x3 x4 → pw X 0 0 S 8 [(0, .ref a0), (1, .ref a1), (2, .ref a2), (3, .int x3), (4, .int x4)] [] := by
    intro n
    induction n with
    | zero => intro S a0 a1 a2 x3 x4 hw; exact hw.elim
    | succ n ih =>
      intro S a0 a1 a2 x3 x4 hw
      unfold wl_X1_allowsTaking_8 at hw
      refine r_iload h 4 rfl dX1_allowsTaking_8 ?_
      refine r_aload_n h 0 rfl rfl dX1_allowsTaking_10 ?_
      obtain ⟨h6, hw⟩ := hw
      obtain ⟨b7, h8, hw⟩ := hw
      refine r_getr h kci2 in2 (k := 0) (by decide) rfl rfl q152 h6 h8 dX1_allowsTaking_11 ?_
      obtain ⟨h9, hw⟩ := hw
      refine r_callV h (fun l => c_Jx4a65c_size_8abf5 l _ _ _ hw) q258 q239 q240 q59 q241 nd_Jx4a65c_size_8abf5 ⟨by decide, by decide⟩ rfl rfl ⟨by decide, by decide⟩ kci0 rfl h9 rfl (by first | decide | exact nl rfl) rfl dX1_allowsTaking_14 nxk (kI fun r10 S11 hw => ?_)
      refine r_icmp_ge h 75 dX1_allowsTaking_17 (by decide) (fun hc => ?_) (fun hc => ?_)
      · replace hw := hw.1 hc
        refine r_aload_n h 2 rfl rfl dX1_allowsTaking_75 ?_
        refine r_aload_n h 1 rfl rfl dX1_allowsTaking_76 ?_
        obtain ⟨h13, hw⟩ := hw
        refine r_callV h (fun l => c_X8_isLentFor l _ _ _ _ hw) q384 q385 q386 q81 q387 nd_X8_isLentFor ⟨by decide, by decide⟩ rfl rfl ⟨by decide, by decide⟩ kci9 rfl h13 rfl (by first | decide | exact nl rfl) rfl dX1_allowsTaking_77 nxk (kI fun r14 S15 hw => ?_)
        obtain ⟨h17, hw⟩ := hw
        exact r_zret h hq (ty := .boolean) rfl (lb h17) ⟨_, rfl, hw⟩ (by decide) (by decide) dX1_allowsTaking_80
      · replace hw := hw.2 hc
        refine r_aload_n h 0 rfl rfl dX1_allowsTaking_20 ?_
        obtain ⟨h18, hw⟩ := hw
        obtain ⟨b19, h20, hw⟩ := hw
        refine r_getr h kci2 in2 (k := 0) (by decide) rfl rfl q152 h18 h20 dX1_allowsTaking_21 ?_
        refine r_iload h 4 rfl dX1_allowsTaking_24 ?_
        obtain ⟨h21, hw⟩ := hw
        refine r_callV h (fun l => c_Jx4a65c_get_915e3 l _ _ _ _ hw) q259 q260 q261 q59 q262 nd_Jx4a65c_get_915e3 ⟨by decide, by decide⟩ rfl rfl ⟨by decide, by decide⟩ kci0 rfl h21 rfl (by first | decide | exact nl rfl) rfl dX1_allowsTaking_26 nxk (kA fun b22 S23 hw => ?_)
        obtain ⟨h25, hw⟩ := hw
        refine r_castS h kci3 q273 h25 dX1_allowsTaking_29 ?_
        refine r_astore h [1, 2, 3, 4, 5, 0] (by decide) rfl dX1_allowsTaking_32 ?_
        refine r_aload h 5 rfl dX1_allowsTaking_34 ?_
        refine r_getiN h kci3 in3 (k := 0) (by decide) rfl rfl n863 h25 dX1_allowsTaking_36 ?_
        refine r_aload_n h 1 rfl rfl dX1_allowsTaking_39 ?_
        obtain ⟨h26, hw⟩ := hw
        refine r_getiN h kci3 in3 (k := 0) (by decide) rfl rfl n863 h26 dX1_allowsTaking_40 ?_
        refine r_icmp_eq h 69 dX1_allowsTaking_43 (by decide) (fun hc => ?_) (fun hc => ?_)
        · replace hw := hw.1 hc
          refine r_iinc h (j := 4) (v := (x4 + 1)) [1, 2, 3, 4, 0, 5] rfl rfl (by decide) rfl dX1_allowsTaking_69 ?_
          refine r_goto h 8 dX1_allowsTaking_72 (by decide) ?_
          refine r_vs [0, 1, 2, 3, 4] rfl ?_
          exact ih _ _ _ _ _ _ hw
        · replace hw := hw.2 hc
          refine r_aload h 5 rfl dX1_allowsTaking_46 ?_
          refine r_aload_n h 2 rfl rfl dX1_allowsTaking_48 ?_
          refine r_aload_n h 1 rfl rfl dX1_allowsTaking_49 ?_
          refine r_getiN h kci3 in3 (k := 1) (by decide) rfl rfl n866 h26 dX1_allowsTaking_50 ?_
          refine r_iload_n h 3 rfl rfl dX1_allowsTaking_53 ?_
          refine r_isub h dX1_allowsTaking_54 ?_
          refine r_aload_n h 1 rfl rfl dX1_allowsTaking_55 ?_
          refine r_getiN h kci3 in3 (k := 2) (by decide) rfl rfl n869 h26 dX1_allowsTaking_56 ?_
          refine r_iload_n h 3 rfl rfl dX1_allowsTaking_59 ?_
          refine r_iadd h dX1_allowsTaking_60 ?_
          refine r_callV h (fun l => c_X2_isAwayBetween l _ _ _ _ _ _ hw) q376 q377 q378 q82 q379 nd_X2_isAwayBetween ⟨by decide, by decide⟩ rfl rfl ⟨by decide, by decide⟩ kci3 rfl h25 rfl (by first | decide | exact nl rfl) rfl dX1_allowsTaking_61 nxk (kI fun r27 S28 hw => ?_)
          refine r_if_eq h 69 dX1_allowsTaking_64 (by decide) (fun hc => ?_) (fun hc => ?_)
          · replace hw := hw.1 hc
            refine r_iinc h (j := 4) (v := (x4 + 1)) [1, 2, 3, 4, 0, 5] rfl rfl (by decide) rfl dX1_allowsTaking_69 ?_
            refine r_goto h 8 dX1_allowsTaking_72 (by decide) ?_
            refine r_vs [0, 1, 2, 3, 4] rfl ?_
            exact ih _ _ _ _ _ _ hw
          · replace hw := hw.2 hc
            refine r_iconst h (v := 0) (by decide) dX1_allowsTaking_67 ?_
            exact r_zret h hq (ty := .boolean) rfl rfl ⟨_, rfl, hw⟩ (by decide) (by decide) dX1_allowsTaking_68
  unfold w_X1_allowsTaking at hw
  refine r_aload_n h 2 rfl rfl dX1_allowsTaking_0 ?_
  obtain ⟨h1, hw⟩ := hw
  refine r_callV h (fun l => c_X8_travelDays l _ _ _ hw) q375 q286 q287 q81 q288 nd_X8_travelDays ⟨by decide, by decide⟩ rfl rfl ⟨by decide, by decide⟩ kci9 rfl h1 rfl (by first | decide | exact nl rfl) rfl dX1_allowsTaking_1 nxk (kI fun r2 S3 hw => ?_)
  refine r_istore_n h [1, 2, 3, 0] rfl (by decide) rfl dX1_allowsTaking_4 ?_
  refine r_iconst h (v := 0) (by decide) dX1_allowsTaking_5 ?_
  refine r_istore h [1, 2, 3, 4, 0] (by decide) rfl dX1_allowsTaking_6 ?_
  obtain ⟨m, hw⟩ := hw
  exact L8 m _ _ _ _ _ _ hw

def w_X8_stands (S : St) (a0 : Nat) (a1 : Nat) (f : Int32 → St → Prop) : Prop := ok S a0 9 ∧ ok S a1 7 ∧ ((((sI S a1 0) < (sI S a0 2)) → f 0 S) ∧ ((¬ (sI S a1 0) < (sI S a0 2)) → ((((sI S a0 3) < (sI S a1 0)) → f 0 S) ∧ ((¬ (sI S a0 3) < (sI S a1 0)) → ((((sI S a0 4) < (sI S a1 1)) → f 0 S) ∧ ((¬ (sI S a0 4) < (sI S a1 1)) → f 1 S))))))
set_option maxRecDepth 100000 in
set_option maxHeartbeats 4000000 in
theorem c_X8_stands (l : Launch) (S : St) (a0 : Nat) (a1 : Nat) (f : Int32 → St → Prop) (hw : w_X8_stands S a0 a1 f) : Ct l yX8_stands (Cond.code yX8_stands cX8_stands 2 (some .boolean)) { frames := 0, cells := 0, slots := 0, locals := 0 } 0 0 S [.ref a0, .ref a1] (pI f) nox := by
  refine entry (by decide +kernel) rfl rfl (by first | decide | exact nl rfl) rfl ?_
  intro X h hq
  unfold w_X8_stands at hw
  refine r_aload_n h 0 rfl rfl dX8_stands_0 ?_
  obtain ⟨h1, hw⟩ := hw
  refine r_geti h kci9 in9 (k := 2) (by decide) rfl rfl q772 h1 dX8_stands_1 ?_
  refine r_aload_n h 1 rfl rfl dX8_stands_4 ?_
  obtain ⟨h2, hw⟩ := hw
  refine r_getiN h kci7 in7 (k := 0) (by decide) rfl rfl n568 h2 dX8_stands_5 ?_
  refine r_icmp_gt h 37 dX8_stands_8 (by decide) (fun hc => ?_) (fun hc => ?_)
  · replace hw := hw.1 hc
    refine r_iconst h (v := 0) (by decide) dX8_stands_37 ?_
    exact r_zret h hq (ty := .boolean) rfl rfl ⟨_, rfl, hw⟩ (by decide) (by decide) dX8_stands_38
  · replace hw := hw.2 hc
    refine r_aload_n h 1 rfl rfl dX8_stands_11 ?_
    refine r_getiN h kci7 in7 (k := 0) (by decide) rfl rfl n568 h2 dX8_stands_12 ?_
    refine r_aload_n h 0 rfl rfl dX8_stands_15 ?_
    refine r_geti h kci9 in9 (k := 3) (by decide) rfl rfl q773 h1 dX8_stands_16 ?_
    refine r_icmp_gt h 37 dX8_stands_19 (by decide) (fun hc => ?_) (fun hc => ?_)
    · replace hw := hw.1 hc
      refine r_iconst h (v := 0) (by decide) dX8_stands_37 ?_
      exact r_zret h hq (ty := .boolean) rfl rfl ⟨_, rfl, hw⟩ (by decide) (by decide) dX8_stands_38
    · replace hw := hw.2 hc
      refine r_aload_n h 1 rfl rfl dX8_stands_22 ?_
      refine r_getiN h kci7 in7 (k := 1) (by decide) rfl rfl n571 h2 dX8_stands_23 ?_
      refine r_aload_n h 0 rfl rfl dX8_stands_26 ?_
      refine r_geti h kci9 in9 (k := 4) (by decide) rfl rfl q774 h1 dX8_stands_27 ?_
      refine r_icmp_gt h 37 dX8_stands_30 (by decide) (fun hc => ?_) (fun hc => ?_)
      · replace hw := hw.1 hc
        refine r_iconst h (v := 0) (by decide) dX8_stands_37 ?_
        exact r_zret h hq (ty := .boolean) rfl rfl ⟨_, rfl, hw⟩ (by decide) (by decide) dX8_stands_38
      · replace hw := hw.2 hc
        refine r_iconst h (v := 1) (by decide) dX8_stands_33 ?_
        refine r_goto h 38 dX8_stands_34 (by decide) ?_
        exact r_zret h hq (ty := .boolean) rfl rfl ⟨_, rfl, hw⟩ (by decide) (by decide) dX8_stands_38

def w_X3_suits (S : St) (a0 : Nat) (a1 : Nat) (x2 : Int32) (f : Int32 → St → Prop) : Prop := ok S a0 4 ∧ w_X3_walls S a0 (fun (r2 : Int32) (S3 : St) => w_X9_isWithin S3 x2 0 (r2 - 1) (fun (r5 : Int32) (S6 : St) => (((r5 = 0) → f 0 S6) ∧ ((¬ r5 = 0) → ok S6 a0 4 ∧ ∃ b9 : Nat, sP S6 a0 0 = some b9 ∧ ok S6 b9 0 ∧ w_Jx4a65c_get_915e3 S6 b9 (x2 / 2) (fun (b12 : Nat) (S13 : St) => ok S13 b12 7 ∧ ok S13 a1 9 ∧ w_X8_stands S13 a1 b12 (fun (r17 : Int32) (S18 : St) => (((r17 = 0) → f 0 S18) ∧ ((¬ r17 = 0) → f 1 S18))))))))
set_option maxRecDepth 100000 in
set_option maxHeartbeats 4000000 in
theorem c_X3_suits (l : Launch) (S : St) (a0 : Nat) (a1 : Nat) (x2 : Int32) (f : Int32 → St → Prop) (hw : w_X3_suits S a0 a1 x2 f) : Ct l yX3_suits (Cond.code yX3_suits cX3_suits 3 (some .boolean)) { frames := 3, cells := 0, slots := 0, locals := 64 } 0 0 S [.ref a0, .ref a1, .int x2] (pI f) nox := by
  refine entry (by decide +kernel) rfl rfl (by first | decide | exact nl rfl) rfl ?_
  intro X h hq
  unfold w_X3_suits at hw
  refine r_iload_n h 2 rfl rfl dX3_suits_0 ?_
  refine r_iconst h (v := 0) (by decide) dX3_suits_1 ?_
  refine r_aload_n h 0 rfl rfl dX3_suits_2 ?_
  obtain ⟨h1, hw⟩ := hw
  refine r_callV h (fun l => c_X3_walls l _ _ _ hw) q309 q310 q311 q56 q312 nd_X3_walls ⟨by decide, by decide⟩ rfl rfl ⟨by decide, by decide⟩ kci4 rfl h1 rfl (by first | decide | exact nl rfl) rfl dX3_suits_3 nxk (kI fun r2 S3 hw => ?_)
  refine r_iconst h (v := 1) (by decide) dX3_suits_6 ?_
  refine r_isub h dX3_suits_7 ?_
  refine r_callSN h (fun l => c_X9_isWithin l _ _ _ _ _ hw) n314 q315 q55 q316 nd_X9_isWithin ⟨by decide, by decide⟩ rfl rfl ⟨by decide, by decide⟩ (as := [.int x2, .int 0, .int (r2 - 1)]) rfl (by first | decide | exact nl rfl) rfl dX3_suits_8 nxk (kI fun r5 S6 hw => ?_)
  refine r_if_eq h 38 dX3_suits_11 (by decide) (fun hc => ?_) (fun hc => ?_)
  · replace hw := hw.1 hc
    refine r_iconst h (v := 0) (by decide) dX3_suits_38 ?_
    exact r_zret h hq (ty := .boolean) rfl rfl ⟨_, rfl, hw⟩ (by decide) (by decide) dX3_suits_39
  · replace hw := hw.2 hc
    refine r_aload_n h 1 rfl rfl dX3_suits_14 ?_
    refine r_aload_n h 0 rfl rfl dX3_suits_15 ?_
    obtain ⟨h8, hw⟩ := hw
    obtain ⟨b9, h10, hw⟩ := hw
    refine r_getr h kci4 in4 (k := 0) (by decide) rfl rfl q126 h8 h10 dX3_suits_16 ?_
    refine r_iload_n h 2 rfl rfl dX3_suits_19 ?_
    refine r_iconst h (v := 2) (by decide) dX3_suits_20 ?_
    refine r_idiv h (by decide) dX3_suits_21 ?_
    obtain ⟨h11, hw⟩ := hw
    refine r_callV h (fun l => c_Jx4a65c_get_915e3 l _ _ _ _ hw) q317 q260 q261 q59 q262 nd_Jx4a65c_get_915e3 ⟨by decide, by decide⟩ rfl rfl ⟨by decide, by decide⟩ kci0 rfl h11 rfl (by first | decide | exact nl rfl) rfl dX3_suits_22 nxk (kA fun b12 S13 hw => ?_)
    obtain ⟨h15, hw⟩ := hw
    refine r_castS h kci7 q318 h15 dX3_suits_25 ?_
    obtain ⟨h16, hw⟩ := hw
    refine r_callV h (fun l => c_X8_stands l _ _ _ _ hw) q319 q320 q321 q81 q322 nd_X8_stands ⟨by decide, by decide⟩ rfl rfl ⟨by decide, by decide⟩ kci9 rfl h16 rfl (by first | decide | exact nl rfl) rfl dX3_suits_28 nxk (kI fun r17 S18 hw => ?_)
    refine r_if_eq h 38 dX3_suits_31 (by decide) (fun hc => ?_) (fun hc => ?_)
    · replace hw := hw.1 hc
      refine r_iconst h (v := 0) (by decide) dX3_suits_38 ?_
      exact r_zret h hq (ty := .boolean) rfl rfl ⟨_, rfl, hw⟩ (by decide) (by decide) dX3_suits_39
    · replace hw := hw.2 hc
      refine r_iconst h (v := 1) (by decide) dX3_suits_34 ?_
      refine r_goto h 39 dX3_suits_35 (by decide) ?_
      exact r_zret h hq (ty := .boolean) rfl rfl ⟨_, rfl, hw⟩ (by decide) (by decide) dX3_suits_39

def w_X9_numberAt (S : St) (a0 : Nat) (x1 : Int32) (f : Int32 → St → Prop) : Prop := (((x1 < 0) → f 0 S) ∧ ((¬ x1 < 0) → ok S a0 101 ∧ ((((Int32.ofNat (sN S a0)) ≤ x1) → f 0 S) ∧ ((¬ (Int32.ofNat (sN S a0)) ≤ x1) → vp_in x1 (sN S a0) ∧ f (sI S a0 (Int32.toNatClampNeg x1)) S))))
set_option maxRecDepth 100000 in
set_option maxHeartbeats 4000000 in
theorem c_X9_numberAt (l : Launch) (S : St) (a0 : Nat) (x1 : Int32) (f : Int32 → St → Prop) (hw : w_X9_numberAt S a0 x1 f) : Ct l yX9_numberAt (Cond.code yX9_numberAt cX9_numberAt 2 (some .int)) { frames := 0, cells := 0, slots := 0, locals := 0 } 0 0 S [.ref a0, .int x1] (pI f) nox := by
  refine entry (by decide +kernel) rfl rfl (by first | decide | exact nl rfl) rfl ?_
  intro X h hq
  unfold w_X9_numberAt at hw
  refine r_iload_n h 1 rfl rfl dX9_numberAt_0 ?_
  refine r_if_lt h 16 dX9_numberAt_1 (by decide) (fun hc => ?_) (fun hc => ?_)
  · replace hw := hw.1 hc
    refine r_iconst h (v := 0) (by decide) dX9_numberAt_16 ?_
    exact r_iret h hq rfl ⟨_, rfl, hw⟩ (by decide) (by decide) dX9_numberAt_17
  · replace hw := hw.2 hc
    refine r_iload_n h 1 rfl rfl dX9_numberAt_4 ?_
    refine r_aload_n h 0 rfl rfl dX9_numberAt_5 ?_
    obtain ⟨h1, hw⟩ := hw
    refine r_alen h h1 (by decide) dX9_numberAt_6 ?_
    refine r_icmp_ge h 16 dX9_numberAt_7 (by decide) (fun hc => ?_) (fun hc => ?_)
    · replace hw := hw.1 hc
      refine r_iconst h (v := 0) (by decide) dX9_numberAt_16 ?_
      exact r_iret h hq rfl ⟨_, rfl, hw⟩ (by decide) (by decide) dX9_numberAt_17
    · replace hw := hw.2 hc
      refine r_aload_n h 0 rfl rfl dX9_numberAt_10 ?_
      refine r_iload_n h 1 rfl rfl dX9_numberAt_11 ?_
      obtain ⟨h2, hw⟩ := hw
      refine r_iald h h1 h2 dX9_numberAt_12 ?_
      refine r_goto h 17 dX9_numberAt_13 (by decide) ?_
      exact r_iret h hq rfl ⟨_, rfl, hw⟩ (by decide) (by decide) dX9_numberAt_17

def w_X2_hangsDuring (S : St) (a0 : Nat) (a1 : Nat) (f : Int32 → St → Prop) : Prop := ok S a0 3 ∧ (((¬ (sI S a0 6) = 112) → f 0 S) ∧ (((sI S a0 6) = 112) → ok S a1 3 ∧ ((((sI S a1 2) < (sI S a0 1)) → f 0 S) ∧ ((¬ (sI S a1 2) < (sI S a0 1)) → ((((sI S a0 2) < (sI S a1 1)) → f 0 S) ∧ ((¬ (sI S a0 2) < (sI S a1 1)) → f 1 S))))))
set_option maxRecDepth 100000 in
set_option maxHeartbeats 4000000 in
theorem c_X2_hangsDuring (l : Launch) (S : St) (a0 : Nat) (a1 : Nat) (f : Int32 → St → Prop) (hw : w_X2_hangsDuring S a0 a1 f) : Ct l yX2_hangsDuring (Cond.code yX2_hangsDuring cX2_hangsDuring 2 (some .boolean)) { frames := 0, cells := 0, slots := 0, locals := 0 } 0 0 S [.ref a0, .ref a1] (pI f) nox := by
  refine entry (by decide +kernel) rfl rfl (by first | decide | exact nl rfl) rfl ?_
  intro X h hq
  unfold w_X2_hangsDuring at hw
  refine r_aload_n h 0 rfl rfl dX2_hangsDuring_0 ?_
  obtain ⟨h1, hw⟩ := hw
  refine r_geti h kci3 in3 (k := 6) (by decide) rfl rfl q880 h1 dX2_hangsDuring_1 ?_
  refine r_bipush h (v := 112) (by decide) dX2_hangsDuring_4 ?_
  refine r_icmp_ne h 35 dX2_hangsDuring_6 (by decide) (fun hc => ?_) (fun hc => ?_)
  · replace hw := hw.1 hc
    refine r_iconst h (v := 0) (by decide) dX2_hangsDuring_35 ?_
    exact r_zret h hq (ty := .boolean) rfl rfl ⟨_, rfl, hw⟩ (by decide) (by decide) dX2_hangsDuring_36
  · replace hw := hw.2 hc
    refine r_aload_n h 0 rfl rfl dX2_hangsDuring_9 ?_
    refine r_geti h kci3 in3 (k := 1) (by decide) rfl rfl q865 h1 dX2_hangsDuring_10 ?_
    refine r_aload_n h 1 rfl rfl dX2_hangsDuring_13 ?_
    obtain ⟨h2, hw⟩ := hw
    refine r_geti h kci3 in3 (k := 2) (by decide) rfl rfl q868 h2 dX2_hangsDuring_14 ?_
    refine r_icmp_gt h 35 dX2_hangsDuring_17 (by decide) (fun hc => ?_) (fun hc => ?_)
    · replace hw := hw.1 hc
      refine r_iconst h (v := 0) (by decide) dX2_hangsDuring_35 ?_
      exact r_zret h hq (ty := .boolean) rfl rfl ⟨_, rfl, hw⟩ (by decide) (by decide) dX2_hangsDuring_36
    · replace hw := hw.2 hc
      refine r_aload_n h 1 rfl rfl dX2_hangsDuring_20 ?_
      refine r_geti h kci3 in3 (k := 1) (by decide) rfl rfl q865 h2 dX2_hangsDuring_21 ?_
      refine r_aload_n h 0 rfl rfl dX2_hangsDuring_24 ?_
      refine r_geti h kci3 in3 (k := 2) (by decide) rfl rfl q868 h1 dX2_hangsDuring_25 ?_
      refine r_icmp_gt h 35 dX2_hangsDuring_28 (by decide) (fun hc => ?_) (fun hc => ?_)
      · replace hw := hw.1 hc
        refine r_iconst h (v := 0) (by decide) dX2_hangsDuring_35 ?_
        exact r_zret h hq (ty := .boolean) rfl rfl ⟨_, rfl, hw⟩ (by decide) (by decide) dX2_hangsDuring_36
      · replace hw := hw.2 hc
        refine r_iconst h (v := 1) (by decide) dX2_hangsDuring_31 ?_
        refine r_goto h 36 dX2_hangsDuring_32 (by decide) ?_
        exact r_zret h hq (ty := .boolean) rfl rfl ⟨_, rfl, hw⟩ (by decide) (by decide) dX2_hangsDuring_36

def w_X9_isBroken (S : St) (x0 : Int32) (x1 : Int32) (x2 : Int32) (f : Int32 → St → Prop) : Prop := (((¬ x0 = 114) → (((¬ x0 = 119) → f 0 S) ∧ ((x0 = 119) → (((¬ x1 = x2) → f 0 S) ∧ ((x1 = x2) → f 1 S))))) ∧ ((x0 = 114) → (((¬ (x1 / 2) = (x2 / 2)) → f 0 S) ∧ (((x1 / 2) = (x2 / 2)) → f 1 S))))
set_option maxRecDepth 100000 in
set_option maxHeartbeats 4000000 in
theorem c_X9_isBroken (l : Launch) (S : St) (x0 : Int32) (x1 : Int32) (x2 : Int32) (f : Int32 → St → Prop) (hw : w_X9_isBroken S x0 x1 x2 f) : Ct l yX9_isBroken (Cond.code yX9_isBroken cX9_isBroken 3 (some .boolean)) { frames := 0, cells := 0, slots := 0, locals := 0 } 0 0 S [.int x0, .int x1, .int x2] (pI f) nox := by
  refine entry (by decide +kernel) rfl rfl (by first | decide | exact nl rfl) rfl ?_
  intro X h hq
  unfold w_X9_isBroken at hw
  refine r_iload_n h 0 rfl rfl dX9_isBroken_0 ?_
  refine r_bipush h (v := 114) (by decide) dX9_isBroken_1 ?_
  refine r_icmp_ne h 21 dX9_isBroken_3 (by decide) (fun hc => ?_) (fun hc => ?_)
  · replace hw := hw.1 hc
    refine r_iload_n h 0 rfl rfl dX9_isBroken_21 ?_
    refine r_bipush h (v := 119) (by decide) dX9_isBroken_22 ?_
    refine r_icmp_ne h 36 dX9_isBroken_24 (by decide) (fun hc => ?_) (fun hc => ?_)
    · replace hw := hw.1 hc
      refine r_iconst h (v := 0) (by decide) dX9_isBroken_36 ?_
      exact r_zret h hq (ty := .boolean) rfl rfl ⟨_, rfl, hw⟩ (by decide) (by decide) dX9_isBroken_37
    · replace hw := hw.2 hc
      refine r_iload_n h 1 rfl rfl dX9_isBroken_27 ?_
      refine r_iload_n h 2 rfl rfl dX9_isBroken_28 ?_
      refine r_icmp_ne h 36 dX9_isBroken_29 (by decide) (fun hc => ?_) (fun hc => ?_)
      · replace hw := hw.1 hc
        refine r_iconst h (v := 0) (by decide) dX9_isBroken_36 ?_
        exact r_zret h hq (ty := .boolean) rfl rfl ⟨_, rfl, hw⟩ (by decide) (by decide) dX9_isBroken_37
      · replace hw := hw.2 hc
        refine r_iconst h (v := 1) (by decide) dX9_isBroken_32 ?_
        refine r_goto h 37 dX9_isBroken_33 (by decide) ?_
        exact r_zret h hq (ty := .boolean) rfl rfl ⟨_, rfl, hw⟩ (by decide) (by decide) dX9_isBroken_37
  · replace hw := hw.2 hc
    refine r_iload_n h 1 rfl rfl dX9_isBroken_6 ?_
    refine r_iconst h (v := 2) (by decide) dX9_isBroken_7 ?_
    refine r_idiv h (by decide) dX9_isBroken_8 ?_
    refine r_iload_n h 2 rfl rfl dX9_isBroken_9 ?_
    refine r_iconst h (v := 2) (by decide) dX9_isBroken_10 ?_
    refine r_idiv h (by decide) dX9_isBroken_11 ?_
    refine r_icmp_ne h 19 dX9_isBroken_12 (by decide) (fun hc => ?_) (fun hc => ?_)
    · replace hw := hw.1 hc
      refine r_iconst h (v := 0) (by decide) dX9_isBroken_19 ?_
      exact r_zret h hq (ty := .boolean) rfl rfl ⟨_, rfl, hw⟩ (by decide) (by decide) dX9_isBroken_20
    · replace hw := hw.2 hc
      refine r_iconst h (v := 1) (by decide) dX9_isBroken_15 ?_
      refine r_goto h 20 dX9_isBroken_16 (by decide) ?_
      exact r_zret h hq (ty := .boolean) rfl rfl ⟨_, rfl, hw⟩ (by decide) (by decide) dX9_isBroken_20

def wl_X1_isAgainst_44 (f : Int32 → St → Prop) (k3 : St → Nat → Nat → Nat → Nat → Int32 → Int32 → Prop) : Nat → St → Nat → Nat → Nat → Nat → Int32 → Int32 → Nat → Int32 → Prop
  | 0, _, _, _, _, _, _, _, _, _ => False
  | n + 1, S, a0, a1, a2, a3, x4, x5, a6, x7 => ok S a6 3 ∧ ∃ b22 : Nat, sP S a6 4 = some b22 ∧ ok S b22 0 ∧ w_Jx4a65c_size_8abf5 S b22 (fun (r25 : Int32) (S26 : St) => (((r25 ≤ x7) → k3 S26 a0 a1 a2 a3 x4 (x5 + 1)) ∧ ((¬ r25 ≤ x7) → ok S26 a3 9 ∧ ok S26 a6 3 ∧ ∃ b30 : Nat, sP S26 a6 4 = some b30 ∧ ok S26 b30 0 ∧ w_Jx4a65c_get_915e3 S26 b30 x7 (fun (b33 : Nat) (S34 : St) => ok S34 b33 9 ∧ ok S34 a1 8 ∧ w_X7_kindOf S34 a1 (sI S26 a3 0) (sI S34 b33 0) (fun (r38 : Int32) (S39 : St) => ok S39 a6 3 ∧ ∃ b42 : Nat, sP S39 a6 5 = some b42 ∧ w_X9_numberAt S39 b42 x7 (fun (r44 : Int32) (S45 : St) => w_X9_isBroken S45 r38 x4 r44 (fun (r47 : Int32) (S48 : St) => (((r47 = 0) → wl_X1_isAgainst_44 f k3 n S48 a0 a1 a2 a3 x4 x5 a6 (x7 + 1)) ∧ ((¬ r47 = 0) → f 1 S48)))))))))
def wl_X1_isAgainst_3 (f : Int32 → St → Prop) : Nat → St → Nat → Nat → Nat → Nat → Int32 → Int32 → Prop
  | 0, _, _, _, _, _, _, _ => False
  | n + 1, S, a0, a1, a2, a3, x4, x5 => ok S a0 2 ∧ ∃ b3 : Nat, sP S a0 0 = some b3 ∧ ok S b3 0 ∧ w_Jx4a65c_size_8abf5 S b3 (fun (r6 : Int32) (S7 : St) => (((r6 ≤ x5) → f 0 S7) ∧ ((¬ r6 ≤ x5) → ok S7 a0 2 ∧ ∃ b10 : Nat, sP S7 a0 0 = some b10 ∧ ok S7 b10 0 ∧ w_Jx4a65c_get_915e3 S7 b10 x5 (fun (b13 : Nat) (S14 : St) => ok S14 b13 3 ∧ w_X2_hangsDuring S14 b13 a2 (fun (r17 : Int32) (S18 : St) => (((¬ r17 = 0) → (∃ m : Nat, wl_X1_isAgainst_44 f (wl_X1_isAgainst_3 f n) m S18 a0 a1 a2 a3 x4 x5 b13 0)) ∧ ((r17 = 0) → wl_X1_isAgainst_3 f n S18 a0 a1 a2 a3 x4 (x5 + 1))))))))
def w_X1_isAgainst (S : St) (a0 : Nat) (a1 : Nat) (a2 : Nat) (a3 : Nat) (x4 : Int32) (f : Int32 → St → Prop) : Prop := (∃ m : Nat, wl_X1_isAgainst_3 f m S a0 a1 a2 a3 x4 0)
set_option maxRecDepth 100000 in
set_option maxHeartbeats 4000000 in
theorem c_X1_isAgainst (l : Launch) (S : St) (a0 : Nat) (a1 : Nat) (a2 : Nat) (a3 : Nat) (x4 : Int32) (f : Int32 → St → Prop) (hw : w_X1_isAgainst S a0 a1 a2 a3 x4 f) : Ct l yX1_isAgainst (Cond.code yX1_isAgainst cX1_isAgainst 9 (some .boolean)) { frames := 3, cells := 0, slots := 0, locals := 64 } 0 0 S [.ref a0, .ref a1, .ref a2, .ref a3, .int x4] (pI f) nox := by
  refine entry (by decide +kernel) rfl rfl (by first | decide | exact nl rfl) rfl ?_
  intro X h hq
  have L44 : ∀ (k3 : St → Nat → Nat → Nat → Nat → Int32 → Int32 → Prop), (∀ (S : St) (a0 : Nat) (a1 : Nat) (a2 : Nat) (a3 : Nat) (x4 : Int32) (x5 : Int32), k3 S a0 a1 a2 a3 x4 x5 → pw X 0 0 S 3 [(0, .ref a0), (1, .ref a1), (2, .ref a2), (3, .ref a3), (4, .int x4), (5, .int x5)] []) → ∀ (n : Nat) (S : St) (a0 : Nat) (a1 : Nat) (a2 : Nat) (a3 : Nat) (x4 : Int32) (x5 : Int32) (a6 : Nat) (x7 : Int32), wl_X1_isAgainst_44 f k3 n S a0 a1 a2 a3 x4 x5 a6 x7 → pw X 0 0 S 44 [(0, .ref a0), (1, .ref a1), (2, .ref a2), (3, .ref a3), (4, .int x4), (5, .int x5), (6, .ref a6), (7, .int x7)] [] := by
    intro k3 hk3 n
    induction n with
    | zero => intro S a0 a1 a2 a3 x4 x5 a6 x7 hw; exact hw.elim
    | succ n ih =>
      intro S a0 a1 a2 a3 x4 x5 a6 x7 hw
      unfold wl_X1_isAgainst_44 at hw
      refine r_iload h 7 rfl dX1_isAgainst_44 ?_
      refine r_aload h 6 rfl dX1_isAgainst_46 ?_
      obtain ⟨h21, hw⟩ := hw
      obtain ⟨b22, h23, hw⟩ := hw
      refine r_getrN h kci3 in3 (k := 4) (by decide) rfl rfl n875 h21 h23 dX1_isAgainst_48 ?_
      obtain ⟨h24, hw⟩ := hw
      refine r_callV h (fun l => c_Jx4a65c_size_8abf5 l _ _ _ hw) q258 q239 q240 q59 q241 nd_Jx4a65c_size_8abf5 ⟨by decide, by decide⟩ rfl rfl ⟨by decide, by decide⟩ kci0 rfl h24 rfl (by first | decide | exact nl rfl) rfl dX1_isAgainst_51 nxk (kI fun r25 S26 hw => ?_)
      refine r_icmp_ge h 111 dX1_isAgainst_54 (by decide) (fun hc => ?_) (fun hc => ?_)
      · replace hw := hw.1 hc
        refine r_iinc h (j := 5) (v := (x5 + 1)) [1, 2, 3, 4, 5, 0, 6, 7] rfl rfl (by decide) rfl dX1_isAgainst_111 ?_
        refine r_goto h 3 dX1_isAgainst_114 (by decide) ?_
        refine r_vs [0, 1, 2, 3, 4, 5] rfl ?_
        exact hk3 _ _ _ _ _ _ _ hw
      · replace hw := hw.2 hc
        refine r_aload_n h 1 rfl rfl dX1_isAgainst_57 ?_
        refine r_aload_n h 3 rfl rfl dX1_isAgainst_58 ?_
        obtain ⟨h28, hw⟩ := hw
        refine r_getiN h kci9 in9 (k := 0) (by decide) rfl rfl n767 h28 dX1_isAgainst_59 ?_
        refine r_aload h 6 rfl dX1_isAgainst_62 ?_
        obtain ⟨h29, hw⟩ := hw
        obtain ⟨b30, h31, hw⟩ := hw
        refine r_getrN h kci3 in3 (k := 4) (by decide) rfl rfl n875 h29 h31 dX1_isAgainst_64 ?_
        refine r_iload h 7 rfl dX1_isAgainst_67 ?_
        obtain ⟨h32, hw⟩ := hw
        refine r_callV h (fun l => c_Jx4a65c_get_915e3 l _ _ _ _ hw) q259 q260 q261 q59 q262 nd_Jx4a65c_get_915e3 ⟨by decide, by decide⟩ rfl rfl ⟨by decide, by decide⟩ kci0 rfl h32 rfl (by first | decide | exact nl rfl) rfl dX1_isAgainst_69 nxk (kA fun b33 S34 hw => ?_)
        obtain ⟨h36, hw⟩ := hw
        refine r_castS h kci9 q301 h36 dX1_isAgainst_72 ?_
        refine r_getiN h kci9 in9 (k := 0) (by decide) rfl rfl n767 h36 dX1_isAgainst_75 ?_
        obtain ⟨h37, hw⟩ := hw
        refine r_callV h (fun l => c_X7_kindOf l _ _ _ _ _ hw) q335 q336 q337 q60 q338 nd_X7_kindOf ⟨by decide, by decide⟩ rfl rfl ⟨by decide, by decide⟩ kci8 rfl h37 rfl (by first | decide | exact nl rfl) rfl dX1_isAgainst_78 nxk (kI fun r38 S39 hw => ?_)
        refine r_istore h [1, 2, 3, 4, 5, 6, 7, 8, 0] (by decide) rfl dX1_isAgainst_81 ?_
        refine r_iload h 8 rfl dX1_isAgainst_83 ?_
        refine r_iload h 4 rfl dX1_isAgainst_85 ?_
        refine r_aload h 6 rfl dX1_isAgainst_87 ?_
        obtain ⟨h41, hw⟩ := hw
        obtain ⟨b42, h43, hw⟩ := hw
        refine r_getrN h kci3 in3 (k := 5) (by decide) rfl rfl n878 h41 h43 dX1_isAgainst_89 ?_
        refine r_iload h 7 rfl dX1_isAgainst_92 ?_
        refine r_callSN h (fun l => c_X9_numberAt l _ _ _ _ hw) n302 q303 q55 q304 nd_X9_numberAt ⟨by decide, by decide⟩ rfl rfl ⟨by decide, by decide⟩ (as := [.ref b42, .int x7]) rfl (by first | decide | exact nl rfl) rfl dX1_isAgainst_94 nxk (kI fun r44 S45 hw => ?_)
        refine r_callSN h (fun l => c_X9_isBroken l _ _ _ _ _ hw) n339 q340 q55 q341 nd_X9_isBroken ⟨by decide, by decide⟩ rfl rfl ⟨by decide, by decide⟩ (as := [.int r38, .int x4, .int r44]) rfl (by first | decide | exact nl rfl) rfl dX1_isAgainst_97 nxk (kI fun r47 S48 hw => ?_)
        refine r_if_eq h 105 dX1_isAgainst_100 (by decide) (fun hc => ?_) (fun hc => ?_)
        · replace hw := hw.1 hc
          refine r_iinc h (j := 7) (v := (x7 + 1)) [1, 2, 3, 4, 5, 6, 7, 0, 8] rfl rfl (by decide) rfl dX1_isAgainst_105 ?_
          refine r_goto h 44 dX1_isAgainst_108 (by decide) ?_
          refine r_vs [0, 1, 2, 3, 4, 5, 6, 7] rfl ?_
          exact ih _ _ _ _ _ _ _ _ _ hw
        · replace hw := hw.2 hc
          refine r_iconst h (v := 1) (by decide) dX1_isAgainst_103 ?_
          exact r_zret h hq (ty := .boolean) rfl rfl ⟨_, rfl, hw⟩ (by decide) (by decide) dX1_isAgainst_104
  have L3 : ∀ (n : Nat) (S : St) (a0 : Nat) (a1 : Nat) (a2 : Nat) (a3 : Nat) (x4 : Int32) (x5 : Int32), wl_X1_isAgainst_3 f n S a0 a1 a2 a3 x4 x5 → pw X 0 0 S 3 [(0, .ref a0), (1, .ref a1), (2, .ref a2), (3, .ref a3), (4, .int x4), (5, .int x5)] [] := by
    intro n
    induction n with
    | zero => intro S a0 a1 a2 a3 x4 x5 hw; exact hw.elim
    | succ n ih =>
      intro S a0 a1 a2 a3 x4 x5 hw
      unfold wl_X1_isAgainst_3 at hw
      refine r_iload h 5 rfl dX1_isAgainst_3 ?_
      refine r_aload_n h 0 rfl rfl dX1_isAgainst_5 ?_
      obtain ⟨h2, hw⟩ := hw
      obtain ⟨b3, h4, hw⟩ := hw
      refine r_getr h kci2 in2 (k := 0) (by decide) rfl rfl q152 h2 h4 dX1_isAgainst_6 ?_
      obtain ⟨h5, hw⟩ := hw
      refine r_callV h (fun l => c_Jx4a65c_size_8abf5 l _ _ _ hw) q258 q239 q240 q59 q241 nd_Jx4a65c_size_8abf5 ⟨by decide, by decide⟩ rfl rfl ⟨by decide, by decide⟩ kci0 rfl h5 rfl (by first | decide | exact nl rfl) rfl dX1_isAgainst_9 nxk (kI fun r6 S7 hw => ?_)
      refine r_icmp_ge h 117 dX1_isAgainst_12 (by decide) (fun hc => ?_) (fun hc => ?_)
      · replace hw := hw.1 hc
        refine r_iconst h (v := 0) (by decide) dX1_isAgainst_117 ?_
        exact r_zret h hq (ty := .boolean) rfl rfl ⟨_, rfl, hw⟩ (by decide) (by decide) dX1_isAgainst_118
      · replace hw := hw.2 hc
        refine r_aload_n h 0 rfl rfl dX1_isAgainst_15 ?_
        obtain ⟨h9, hw⟩ := hw
        obtain ⟨b10, h11, hw⟩ := hw
        refine r_getr h kci2 in2 (k := 0) (by decide) rfl rfl q152 h9 h11 dX1_isAgainst_16 ?_
        refine r_iload h 5 rfl dX1_isAgainst_19 ?_
        obtain ⟨h12, hw⟩ := hw
        refine r_callV h (fun l => c_Jx4a65c_get_915e3 l _ _ _ _ hw) q259 q260 q261 q59 q262 nd_Jx4a65c_get_915e3 ⟨by decide, by decide⟩ rfl rfl ⟨by decide, by decide⟩ kci0 rfl h12 rfl (by first | decide | exact nl rfl) rfl dX1_isAgainst_21 nxk (kA fun b13 S14 hw => ?_)
        obtain ⟨h16, hw⟩ := hw
        refine r_castS h kci3 q273 h16 dX1_isAgainst_24 ?_
        refine r_astore h [1, 2, 3, 4, 5, 6, 0] (by decide) rfl dX1_isAgainst_27 ?_
        refine r_aload h 6 rfl dX1_isAgainst_29 ?_
        refine r_aload_n h 2 rfl rfl dX1_isAgainst_31 ?_
        refine r_callV h (fun l => c_X2_hangsDuring l _ _ _ _ hw) q331 q332 q333 q82 q334 nd_X2_hangsDuring ⟨by decide, by decide⟩ rfl rfl ⟨by decide, by decide⟩ kci3 rfl h16 rfl (by first | decide | exact nl rfl) rfl dX1_isAgainst_32 nxk (kI fun r17 S18 hw => ?_)
        refine r_if_ne h 41 dX1_isAgainst_35 (by decide) (fun hc => ?_) (fun hc => ?_)
        · replace hw := hw.1 hc
          refine r_iconst h (v := 0) (by decide) dX1_isAgainst_41 ?_
          refine r_istore h [1, 2, 3, 4, 5, 6, 7, 0] (by decide) rfl dX1_isAgainst_42 ?_
          obtain ⟨m, hw⟩ := hw
          exact L44 _ ih m _ _ _ _ _ _ _ _ _ hw
        · replace hw := hw.2 hc
          refine r_goto h 111 dX1_isAgainst_38 (by decide) ?_
          refine r_iinc h (j := 5) (v := (x5 + 1)) [1, 2, 3, 4, 5, 0, 6] rfl rfl (by decide) rfl dX1_isAgainst_111 ?_
          refine r_goto h 3 dX1_isAgainst_114 (by decide) ?_
          refine r_vs [0, 1, 2, 3, 4, 5] rfl ?_
          exact ih _ _ _ _ _ _ _ hw
  unfold w_X1_isAgainst at hw
  refine r_iconst h (v := 0) (by decide) dX1_isAgainst_0 ?_
  refine r_istore h [1, 2, 3, 4, 5, 0] (by decide) rfl dX1_isAgainst_1 ?_
  obtain ⟨m, hw⟩ := hw
  exact L3 m _ _ _ _ _ _ _ hw

def wl_X2_hangAs_2 (f : St → Prop) : Nat → St → Nat → Nat → Int32 → Prop
  | 0, _, _, _, _ => False
  | n + 1, S, a0, a1, x2 => ok S a0 3 ∧ ∃ b3 : Nat, sP S a0 4 = some b3 ∧ ok S b3 0 ∧ w_Jx4a65c_size_8abf5 S b3 (fun (r6 : Int32) (S7 : St) => (((r6 ≤ x2) → ok S7 a0 3 ∧ let S10 : St := setI S7 a0 6 112; f S10) ∧ ((¬ r6 ≤ x2) → ok S7 a0 3 ∧ ∃ b12 : Nat, sP S7 a0 5 = some b12 ∧ w_X9_numberAt S7 a1 x2 (fun (r14 : Int32) (S15 : St) => w_X9_putAt S15 b12 x2 r14 (fun (S17 : St) => wl_X2_hangAs_2 f n S17 a0 a1 (x2 + 1))))))
def w_X2_hangAs (S : St) (a0 : Nat) (a1 : Nat) (f : St → Prop) : Prop := (∃ m : Nat, wl_X2_hangAs_2 f m S a0 a1 0)
set_option maxRecDepth 100000 in
set_option maxHeartbeats 4000000 in
theorem c_X2_hangAs (l : Launch) (S : St) (a0 : Nat) (a1 : Nat) (f : St → Prop) (hw : w_X2_hangAs S a0 a1 f) : Ct l yX2_hangAs (Cond.code yX2_hangAs cX2_hangAs 3 none) { frames := 1, cells := 0, slots := 0, locals := 22 } 0 0 S [.ref a0, .ref a1] (pV f) nox := by
  refine entry (by decide +kernel) rfl rfl (by first | decide | exact nl rfl) rfl ?_
  intro X h hq
  have L2 : ∀ (n : Nat) (S : St) (a0 : Nat) (a1 : Nat) (x2 : Int32), wl_X2_hangAs_2 f n S a0 a1 x2 → pw X 0 0 S 2 [(0, .ref a0), (1, .ref a1), (2, .int x2)] [] := by
    intro n
    induction n with
    | zero => intro S a0 a1 x2 hw; exact hw.elim
    | succ n ih =>
      intro S a0 a1 x2 hw
      unfold wl_X2_hangAs_2 at hw
      refine r_iload_n h 2 rfl rfl dX2_hangAs_2 ?_
      refine r_aload_n h 0 rfl rfl dX2_hangAs_3 ?_
      obtain ⟨h2, hw⟩ := hw
      obtain ⟨b3, h4, hw⟩ := hw
      refine r_getr h kci3 in3 (k := 4) (by decide) rfl rfl q872 h2 h4 dX2_hangAs_4 ?_
      obtain ⟨h5, hw⟩ := hw
      refine r_callV h (fun l => c_Jx4a65c_size_8abf5 l _ _ _ hw) q278 q239 q240 q59 q241 nd_Jx4a65c_size_8abf5 ⟨by decide, by decide⟩ rfl rfl ⟨by decide, by decide⟩ kci0 rfl h5 rfl (by first | decide | exact nl rfl) rfl dX2_hangAs_7 nxk (kI fun r6 S7 hw => ?_)
      refine r_icmp_ge h 32 dX2_hangAs_10 (by decide) (fun hc => ?_) (fun hc => ?_)
      · replace hw := hw.1 hc
        refine r_aload_n h 0 rfl rfl dX2_hangAs_32 ?_
        refine r_bipush h (v := 112) (by decide) dX2_hangAs_33 ?_
        obtain ⟨h9, hw⟩ := hw
        refine r_puti h kci3 in3 tyX2_ok nmX2 (k := 6) (by decide) rfl rfl rfl rfl rfl rfl q880 h9 dX2_hangAs_35 ?_
        exact r_vret h hq rfl ⟨rfl, hw⟩ (by decide) (by decide) dX2_hangAs_38
      · replace hw := hw.2 hc
        refine r_aload_n h 0 rfl rfl dX2_hangAs_13 ?_
        obtain ⟨h11, hw⟩ := hw
        obtain ⟨b12, h13, hw⟩ := hw
        refine r_getr h kci3 in3 (k := 5) (by decide) rfl rfl q877 h11 h13 dX2_hangAs_14 ?_
        refine r_iload_n h 2 rfl rfl dX2_hangAs_17 ?_
        refine r_aload_n h 1 rfl rfl dX2_hangAs_18 ?_
        refine r_iload_n h 2 rfl rfl dX2_hangAs_19 ?_
        refine r_callSN h (fun l => c_X9_numberAt l _ _ _ _ hw) n662 q303 q55 q304 nd_X9_numberAt ⟨by decide, by decide⟩ rfl rfl ⟨by decide, by decide⟩ (as := [.ref a1, .int x2]) rfl (by first | decide | exact nl rfl) rfl dX2_hangAs_20 nxk (kI fun r14 S15 hw => ?_)
        refine r_callSN h (fun l => c_X9_putAt l _ _ _ _ _ hw) n663 q415 q55 q416 nd_X9_putAt ⟨by decide, by decide⟩ rfl rfl ⟨by decide, by decide⟩ (as := [.ref b12, .int x2, .int r14]) rfl (by first | decide | exact nl rfl) rfl dX2_hangAs_23 nxk (kV fun  S17 hw => ?_)
        refine r_iinc h (j := 2) (v := (x2 + 1)) [1, 2, 0] rfl rfl (by decide) rfl dX2_hangAs_26 ?_
        refine r_goto h 2 dX2_hangAs_29 (by decide) ?_
        exact ih _ _ _ _ hw
  unfold w_X2_hangAs at hw
  refine r_iconst h (v := 0) (by decide) dX2_hangAs_0 ?_
  refine r_istore_n h [1, 2, 0] rfl (by decide) rfl dX2_hangAs_1 ?_
  obtain ⟨m, hw⟩ := hw
  exact L2 m _ _ _ _ hw

def w_X8_init (S : St) (a0 : Nat) (x1 : Int32) (x2 : Int32) (x3 : Int32) (x4 : Int32) (x5 : Int32) (x6 : Int32) (a7 : Nat) (f : St → Prop) : Prop := ok S a0 9 ∧ let S2 : St := setI S a0 0 x1; let S3 : St := setI S2 a0 1 x2; let S4 : St := setI S3 a0 2 x3; let S5 : St := setI S4 a0 3 x4; let S6 : St := setI S5 a0 4 x5; let S7 : St := setI S6 a0 5 x6; let S8 : St := setP S7 a0 6 (some a7); f S8
set_option maxRecDepth 100000 in
set_option maxHeartbeats 4000000 in
theorem c_X8_init (l : Launch) (S : St) (a0 : Nat) (x1 : Int32) (x2 : Int32) (x3 : Int32) (x4 : Int32) (x5 : Int32) (x6 : Int32) (a7 : Nat) (f : St → Prop) (hw : w_X8_init S a0 x1 x2 x3 x4 x5 x6 a7 f) : Ct l yX8_init (Cond.code yX8_init cX8_init 8 none) { frames := 1, cells := 0, slots := 0, locals := 12 } 0 0 S [.ref a0, .int x1, .int x2, .int x3, .int x4, .int x5, .int x6, .ref a7] (pV f) nox := by
  refine entry (by decide +kernel) rfl rfl (by first | decide | exact nl rfl) rfl ?_
  intro X h hq
  unfold w_X8_init at hw
  refine r_aload_n h 0 rfl rfl dX8_init_0 ?_
  refine r_objInit h q763 q92 q93 (by first | decide | exact nl rfl) (by first | decide | exact nl rfl) dX8_init_1 ?_
  refine r_aload_n h 0 rfl rfl dX8_init_4 ?_
  refine r_iload_n h 1 rfl rfl dX8_init_5 ?_
  obtain ⟨h1, hw⟩ := hw
  refine r_putiF h kci9 in9 tyX8_ok nmX8 (k := 0) (by decide) rfl rfl rfl rfl rfl rfl rfl rfl q764 h1 dX8_init_6 ?_
  refine r_aload_n h 0 rfl rfl dX8_init_9 ?_
  refine r_iload_n h 2 rfl rfl dX8_init_10 ?_
  refine r_putiF h kci9 in9 tyX8_ok nmX8 (k := 1) (by decide) rfl rfl rfl rfl rfl rfl rfl rfl q769 h1 dX8_init_11 ?_
  refine r_aload_n h 0 rfl rfl dX8_init_14 ?_
  refine r_iload_n h 3 rfl rfl dX8_init_15 ?_
  refine r_putiF h kci9 in9 tyX8_ok nmX8 (k := 2) (by decide) rfl rfl rfl rfl rfl rfl rfl rfl q772 h1 dX8_init_16 ?_
  refine r_aload_n h 0 rfl rfl dX8_init_19 ?_
  refine r_iload h 4 rfl dX8_init_20 ?_
  refine r_putiF h kci9 in9 tyX8_ok nmX8 (k := 3) (by decide) rfl rfl rfl rfl rfl rfl rfl rfl q773 h1 dX8_init_22 ?_
  refine r_aload_n h 0 rfl rfl dX8_init_25 ?_
  refine r_iload h 5 rfl dX8_init_26 ?_
  refine r_putiF h kci9 in9 tyX8_ok nmX8 (k := 4) (by decide) rfl rfl rfl rfl rfl rfl rfl rfl q774 h1 dX8_init_28 ?_
  refine r_aload_n h 0 rfl rfl dX8_init_31 ?_
  refine r_iload h 6 rfl dX8_init_32 ?_
  refine r_putiF h kci9 in9 tyX8_ok nmX8 (k := 5) (by decide) rfl rfl rfl rfl rfl rfl rfl rfl q775 h1 dX8_init_34 ?_
  refine r_aload_n h 0 rfl rfl dX8_init_37 ?_
  refine r_aload h 7 rfl dX8_init_38 ?_
  refine r_putrF h (v := (some a7)) rfl kci9 in9 tyX8_ok nmX8 (k := 6) (by decide) rfl rfl rfl rfl rfl rfl rfl rfl q778 h1 dX8_init_40 ?_
  exact r_vret h hq rfl ⟨rfl, hw⟩ (by decide) (by decide) dX8_init_43

def w_X8_initN6 (S : St) (a0 : Nat) (x1 : Int32) (x2 : Int32) (x3 : Int32) (x4 : Int32) (x5 : Int32) (x6 : Int32) (f : St → Prop) : Prop := ok S a0 9 ∧ let S2 : St := setI S a0 0 x1; let S3 : St := setI S2 a0 1 x2; let S4 : St := setI S3 a0 2 x3; let S5 : St := setI S4 a0 3 x4; let S6 : St := setI S5 a0 4 x5; let S7 : St := setI S6 a0 5 x6; let S8 : St := setP S7 a0 6 none; f S8
set_option maxRecDepth 100000 in
set_option maxHeartbeats 4000000 in
theorem c_X8_initN6 (l : Launch) (S : St) (a0 : Nat) (x1 : Int32) (x2 : Int32) (x3 : Int32) (x4 : Int32) (x5 : Int32) (x6 : Int32) (f : St → Prop) (hw : w_X8_initN6 S a0 x1 x2 x3 x4 x5 x6 f) : Ct l yX8_init (Cond.code yX8_init cX8_init 8 none) { frames := 1, cells := 0, slots := 0, locals := 12 } 0 0 S [.ref a0, .int x1, .int x2, .int x3, .int x4, .int x5, .int x6, .null] (pV f) nox := by
  refine entry (by decide +kernel) rfl rfl (by first | decide | exact nl rfl) rfl ?_
  intro X h hq
  unfold w_X8_initN6 at hw
  refine r_aload_n h 0 rfl rfl dX8_init_0 ?_
  refine r_objInit h q763 q92 q93 (by first | decide | exact nl rfl) (by first | decide | exact nl rfl) dX8_init_1 ?_
  refine r_aload_n h 0 rfl rfl dX8_init_4 ?_
  refine r_iload_n h 1 rfl rfl dX8_init_5 ?_
  obtain ⟨h1, hw⟩ := hw
  refine r_putiF h kci9 in9 tyX8_ok nmX8 (k := 0) (by decide) rfl rfl rfl rfl rfl rfl rfl rfl q764 h1 dX8_init_6 ?_
  refine r_aload_n h 0 rfl rfl dX8_init_9 ?_
  refine r_iload_n h 2 rfl rfl dX8_init_10 ?_
  refine r_putiF h kci9 in9 tyX8_ok nmX8 (k := 1) (by decide) rfl rfl rfl rfl rfl rfl rfl rfl q769 h1 dX8_init_11 ?_
  refine r_aload_n h 0 rfl rfl dX8_init_14 ?_
  refine r_iload_n h 3 rfl rfl dX8_init_15 ?_
  refine r_putiF h kci9 in9 tyX8_ok nmX8 (k := 2) (by decide) rfl rfl rfl rfl rfl rfl rfl rfl q772 h1 dX8_init_16 ?_
  refine r_aload_n h 0 rfl rfl dX8_init_19 ?_
  refine r_iload h 4 rfl dX8_init_20 ?_
  refine r_putiF h kci9 in9 tyX8_ok nmX8 (k := 3) (by decide) rfl rfl rfl rfl rfl rfl rfl rfl q773 h1 dX8_init_22 ?_
  refine r_aload_n h 0 rfl rfl dX8_init_25 ?_
  refine r_iload h 5 rfl dX8_init_26 ?_
  refine r_putiF h kci9 in9 tyX8_ok nmX8 (k := 4) (by decide) rfl rfl rfl rfl rfl rfl rfl rfl q774 h1 dX8_init_28 ?_
  refine r_aload_n h 0 rfl rfl dX8_init_31 ?_
  refine r_iload h 6 rfl dX8_init_32 ?_
  refine r_putiF h kci9 in9 tyX8_ok nmX8 (k := 5) (by decide) rfl rfl rfl rfl rfl rfl rfl rfl q775 h1 dX8_init_34 ?_
  refine r_aload_n h 0 rfl rfl dX8_init_37 ?_
  refine r_aloadN h 7 rfl dX8_init_38 ?_
  refine r_putrF h (v := none) rfl kci9 in9 tyX8_ok nmX8 (k := 6) (by decide) rfl rfl rfl rfl rfl rfl rfl rfl q778 h1 dX8_init_40 ?_
  exact r_vret h hq rfl ⟨rfl, hw⟩ (by decide) (by decide) dX8_init_43

def wl_X1_exhibitionWith_2 (f : Int32 → St → Prop) : Nat → St → Nat → Nat → Int32 → Int32 → Prop
  | 0, _, _, _, _, _ => False
  | n + 1, S, a0, a1, x2, x3 => ok S a0 2 ∧ ∃ b3 : Nat, sP S a0 0 = some b3 ∧ ok S b3 0 ∧ w_Jx4a65c_size_8abf5 S b3 (fun (r6 : Int32) (S7 : St) => (((r6 ≤ x3) → f (-1) S7) ∧ ((¬ r6 ≤ x3) → ok S7 a0 2 ∧ ∃ b10 : Nat, sP S7 a0 0 = some b10 ∧ ok S7 b10 0 ∧ w_Jx4a65c_get_915e3 S7 b10 x3 (fun (b13 : Nat) (S14 : St) => ok S14 b13 3 ∧ w_X2_isAwayBetween S14 b13 a1 x2 x2 (fun (r17 : Int32) (S18 : St) => (((r17 = 0) → wl_X1_exhibitionWith_2 f n S18 a0 a1 x2 (x3 + 1)) ∧ ((¬ r17 = 0) → f x3 S18)))))))
def w_X1_exhibitionWith (S : St) (a0 : Nat) (a1 : Nat) (x2 : Int32) (f : Int32 → St → Prop) : Prop := (∃ m : Nat, wl_X1_exhibitionWith_2 f m S a0 a1 x2 0)
set_option maxRecDepth 100000 in
set_option maxHeartbeats 4000000 in
theorem c_X1_exhibitionWith (l : Launch) (S : St) (a0 : Nat) (a1 : Nat) (x2 : Int32) (f : Int32 → St → Prop) (hw : w_X1_exhibitionWith S a0 a1 x2 f) : Ct l yX1_exhibitionWith (Cond.code yX1_exhibitionWith cX1_exhibitionWith 4 (some .int)) { frames := 5, cells := 0, slots := 0, locals := 110 } 0 0 S [.ref a0, .ref a1, .int x2] (pI f) nox := by
  refine entry (by decide +kernel) rfl rfl (by first | decide | exact nl rfl) rfl ?_
  intro X h hq
  have L2 : ∀ (n : Nat) (S : St) (a0 : Nat) (a1 : Nat) (x2 : Int32) (x3 : Int32), wl_X1_exhibitionWith_2 f n S a0 a1 x2 x3 → pw X 0 0 S 2 [(0, .ref a0), (1, .ref a1), (2, .int x2), (3, .int x3)] [] := by
    intro n
    induction n with
    | zero => intro S a0 a1 x2 x3 hw; exact hw.elim
    | succ n ih =>
      intro S a0 a1 x2 x3 hw
      unfold wl_X1_exhibitionWith_2 at hw
      refine r_iload_n h 3 rfl rfl dX1_exhibitionWith_2 ?_
      refine r_aload_n h 0 rfl rfl dX1_exhibitionWith_3 ?_
      obtain ⟨h2, hw⟩ := hw
      obtain ⟨b3, h4, hw⟩ := hw
      refine r_getr h kci2 in2 (k := 0) (by decide) rfl rfl q152 h2 h4 dX1_exhibitionWith_4 ?_
      obtain ⟨h5, hw⟩ := hw
      refine r_callV h (fun l => c_Jx4a65c_size_8abf5 l _ _ _ hw) q258 q239 q240 q59 q241 nd_Jx4a65c_size_8abf5 ⟨by decide, by decide⟩ rfl rfl ⟨by decide, by decide⟩ kci0 rfl h5 rfl (by first | decide | exact nl rfl) rfl dX1_exhibitionWith_7 nxk (kI fun r6 S7 hw => ?_)
      refine r_icmp_ge h 41 dX1_exhibitionWith_10 (by decide) (fun hc => ?_) (fun hc => ?_)
      · replace hw := hw.1 hc
        refine r_iconst h (v := (-1)) (by decide) dX1_exhibitionWith_41 ?_
        exact r_iret h hq rfl ⟨_, rfl, hw⟩ (by decide) (by decide) dX1_exhibitionWith_42
      · replace hw := hw.2 hc
        refine r_aload_n h 0 rfl rfl dX1_exhibitionWith_13 ?_
        obtain ⟨h9, hw⟩ := hw
        obtain ⟨b10, h11, hw⟩ := hw
        refine r_getr h kci2 in2 (k := 0) (by decide) rfl rfl q152 h9 h11 dX1_exhibitionWith_14 ?_
        refine r_iload_n h 3 rfl rfl dX1_exhibitionWith_17 ?_
        obtain ⟨h12, hw⟩ := hw
        refine r_callV h (fun l => c_Jx4a65c_get_915e3 l _ _ _ _ hw) q259 q260 q261 q59 q262 nd_Jx4a65c_get_915e3 ⟨by decide, by decide⟩ rfl rfl ⟨by decide, by decide⟩ kci0 rfl h12 rfl (by first | decide | exact nl rfl) rfl dX1_exhibitionWith_18 nxk (kA fun b13 S14 hw => ?_)
        obtain ⟨h16, hw⟩ := hw
        refine r_castS h kci3 q273 h16 dX1_exhibitionWith_21 ?_
        refine r_aload_n h 1 rfl rfl dX1_exhibitionWith_24 ?_
        refine r_iload_n h 2 rfl rfl dX1_exhibitionWith_25 ?_
        refine r_iload_n h 2 rfl rfl dX1_exhibitionWith_26 ?_
        refine r_callV h (fun l => c_X2_isAwayBetween l _ _ _ _ _ _ hw) q376 q377 q378 q82 q379 nd_X2_isAwayBetween ⟨by decide, by decide⟩ rfl rfl ⟨by decide, by decide⟩ kci3 rfl h16 rfl (by first | decide | exact nl rfl) rfl dX1_exhibitionWith_27 nxk (kI fun r17 S18 hw => ?_)
        refine r_if_eq h 35 dX1_exhibitionWith_30 (by decide) (fun hc => ?_) (fun hc => ?_)
        · replace hw := hw.1 hc
          refine r_iinc h (j := 3) (v := (x3 + 1)) [1, 2, 3, 0] rfl rfl (by decide) rfl dX1_exhibitionWith_35 ?_
          refine r_goto h 2 dX1_exhibitionWith_38 (by decide) ?_
          exact ih _ _ _ _ _ hw
        · replace hw := hw.2 hc
          refine r_iload_n h 3 rfl rfl dX1_exhibitionWith_33 ?_
          exact r_iret h hq rfl ⟨_, rfl, hw⟩ (by decide) (by decide) dX1_exhibitionWith_34
  unfold w_X1_exhibitionWith at hw
  refine r_iconst h (v := 0) (by decide) dX1_exhibitionWith_0 ?_
  refine r_istore_n h [1, 2, 3, 0] rfl (by decide) rfl dX1_exhibitionWith_1 ?_
  obtain ⟨m, hw⟩ := hw
  exact L2 m _ _ _ _ _ hw

def wl_X2_countOn_4 (f : Int32 → St → Prop) : Nat → St → Nat → Int32 → Int32 → Int32 → Prop
  | 0, _, _, _, _, _ => False
  | n + 1, S, a0, x1, x2, x3 => ok S a0 3 ∧ ∃ b3 : Nat, sP S a0 4 = some b3 ∧ ok S b3 0 ∧ w_Jx4a65c_size_8abf5 S b3 (fun (r6 : Int32) (S7 : St) => (((r6 ≤ x3) → f x2 S7) ∧ ((¬ r6 ≤ x3) → ok S7 a0 3 ∧ ∃ b10 : Nat, sP S7 a0 5 = some b10 ∧ ok S7 b10 101 ∧ ((((Int32.ofNat (sN S7 b10)) ≤ x3) → f x2 S7) ∧ ((¬ (Int32.ofNat (sN S7 b10)) ≤ x3) → vp_in x3 (sN S7 b10) ∧ (((¬ (sI S7 b10 (Int32.toNatClampNeg x3)) = x1) → wl_X2_countOn_4 f n S7 a0 x1 (x2 + 0) (x3 + 1)) ∧ (((sI S7 b10 (Int32.toNatClampNeg x3)) = x1) → wl_X2_countOn_4 f n S7 a0 x1 (x2 + 1) (x3 + 1))))))))
def w_X2_countOn (S : St) (a0 : Nat) (x1 : Int32) (f : Int32 → St → Prop) : Prop := (∃ m : Nat, wl_X2_countOn_4 f m S a0 x1 0 0)
set_option maxRecDepth 100000 in
set_option maxHeartbeats 4000000 in
theorem c_X2_countOn (l : Launch) (S : St) (a0 : Nat) (x1 : Int32) (f : Int32 → St → Prop) (hw : w_X2_countOn S a0 x1 f) : Ct l yX2_countOn (Cond.code yX2_countOn cX2_countOn 4 (some .int)) { frames := 1, cells := 0, slots := 0, locals := 20 } 0 0 S [.ref a0, .int x1] (pI f) nox := by
  refine entry (by decide +kernel) rfl rfl (by first | decide | exact nl rfl) rfl ?_
  intro X h hq
  have L4 : ∀ (n : Nat) (S : St) (a0 : Nat) (x1 : Int32) (x2 : Int32) (x3 : Int32), wl_X2_countOn_4 f n S a0 x1 x2 x3 → pw X 0 0 S 4 [(0, .ref a0), (1, .int x1), (2, .int x2), (3, .int x3)] [] := by
    intro n
    induction n with
    | zero => intro S a0 x1 x2 x3 hw; exact hw.elim
    | succ n ih =>
      intro S a0 x1 x2 x3 hw
      unfold wl_X2_countOn_4 at hw
      refine r_iload_n h 3 rfl rfl dX2_countOn_4 ?_
      refine r_aload_n h 0 rfl rfl dX2_countOn_5 ?_
      obtain ⟨h2, hw⟩ := hw
      obtain ⟨b3, h4, hw⟩ := hw
      refine r_getr h kci3 in3 (k := 4) (by decide) rfl rfl q872 h2 h4 dX2_countOn_6 ?_
      obtain ⟨h5, hw⟩ := hw
      refine r_callV h (fun l => c_Jx4a65c_size_8abf5 l _ _ _ hw) q278 q239 q240 q59 q241 nd_Jx4a65c_size_8abf5 ⟨by decide, by decide⟩ rfl rfl ⟨by decide, by decide⟩ kci0 rfl h5 rfl (by first | decide | exact nl rfl) rfl dX2_countOn_9 nxk (kI fun r6 S7 hw => ?_)
      refine r_icmp_ge h 48 dX2_countOn_12 (by decide) (fun hc => ?_) (fun hc => ?_)
      · replace hw := hw.1 hc
        refine r_iload_n h 2 rfl rfl dX2_countOn_48 ?_
        exact r_iret h hq rfl ⟨_, rfl, hw⟩ (by decide) (by decide) dX2_countOn_49
      · replace hw := hw.2 hc
        refine r_iload_n h 3 rfl rfl dX2_countOn_15 ?_
        refine r_aload_n h 0 rfl rfl dX2_countOn_16 ?_
        obtain ⟨h9, hw⟩ := hw
        obtain ⟨b10, h11, hw⟩ := hw
        refine r_getr h kci3 in3 (k := 5) (by decide) rfl rfl q877 h9 h11 dX2_countOn_17 ?_
        obtain ⟨h12, hw⟩ := hw
        refine r_alen h h12 (by decide) dX2_countOn_20 ?_
        refine r_icmp_ge h 48 dX2_countOn_21 (by decide) (fun hc => ?_) (fun hc => ?_)
        · replace hw := hw.1 hc
          refine r_iload_n h 2 rfl rfl dX2_countOn_48 ?_
          exact r_iret h hq rfl ⟨_, rfl, hw⟩ (by decide) (by decide) dX2_countOn_49
        · replace hw := hw.2 hc
          refine r_iload_n h 2 rfl rfl dX2_countOn_24 ?_
          refine r_aload_n h 0 rfl rfl dX2_countOn_25 ?_
          refine r_getr h kci3 in3 (k := 5) (by decide) rfl rfl q877 h9 h11 dX2_countOn_26 ?_
          refine r_iload_n h 3 rfl rfl dX2_countOn_29 ?_
          obtain ⟨h13, hw⟩ := hw
          refine r_iald h h12 h13 dX2_countOn_30 ?_
          refine r_iload_n h 1 rfl rfl dX2_countOn_31 ?_
          refine r_icmp_ne h 39 dX2_countOn_32 (by decide) (fun hc => ?_) (fun hc => ?_)
          · replace hw := hw.1 hc
            refine r_iconst h (v := 0) (by decide) dX2_countOn_39 ?_
            refine r_iadd h dX2_countOn_40 ?_
            refine r_istore_n h [1, 2, 0, 3] rfl (by decide) rfl dX2_countOn_41 ?_
            refine r_iinc h (j := 3) (v := (x3 + 1)) [1, 2, 3, 0] rfl rfl (by decide) rfl dX2_countOn_42 ?_
            refine r_goto h 4 dX2_countOn_45 (by decide) ?_
            exact ih _ _ _ _ _ hw
          · replace hw := hw.2 hc
            refine r_iconst h (v := 1) (by decide) dX2_countOn_35 ?_
            refine r_goto h 40 dX2_countOn_36 (by decide) ?_
            refine r_iadd h dX2_countOn_40 ?_
            refine r_istore_n h [1, 2, 0, 3] rfl (by decide) rfl dX2_countOn_41 ?_
            refine r_iinc h (j := 3) (v := (x3 + 1)) [1, 2, 3, 0] rfl rfl (by decide) rfl dX2_countOn_42 ?_
            refine r_goto h 4 dX2_countOn_45 (by decide) ?_
            exact ih _ _ _ _ _ hw
  unfold w_X2_countOn at hw
  refine r_iconst h (v := 0) (by decide) dX2_countOn_0 ?_
  refine r_istore_n h [1, 2, 0] rfl (by decide) rfl dX2_countOn_1 ?_
  refine r_iconst h (v := 0) (by decide) dX2_countOn_2 ?_
  refine r_istore_n h [1, 2, 3, 0] rfl (by decide) rfl dX2_countOn_3 ?_
  obtain ⟨m, hw⟩ := hw
  exact L4 m _ _ _ _ _ hw

def wl_X1_worksOn_5 (f : Int32 → St → Prop) : Nat → St → Nat → Int32 → Int32 → Int32 → Int32 → Prop
  | 0, _, _, _, _, _, _ => False
  | n + 1, S, a0, x1, x2, x3, x4 => ok S a0 2 ∧ ∃ b3 : Nat, sP S a0 0 = some b3 ∧ ok S b3 0 ∧ w_Jx4a65c_size_8abf5 S b3 (fun (r6 : Int32) (S7 : St) => (((r6 ≤ x4) → f x3 S7) ∧ ((¬ r6 ≤ x4) → ok S7 a0 2 ∧ ∃ b10 : Nat, sP S7 a0 0 = some b10 ∧ ok S7 b10 0 ∧ w_Jx4a65c_get_915e3 S7 b10 x4 (fun (b13 : Nat) (S14 : St) => ok S14 b13 3 ∧ w_X2_hangsOn S14 b13 x2 (fun (r17 : Int32) (S18 : St) => (((r17 = 0) → wl_X1_worksOn_5 f n S18 a0 x1 x2 (x3 + 0) (x4 + 1)) ∧ ((¬ r17 = 0) → ok S18 b13 3 ∧ w_X2_countOn S18 b13 x1 (fun (r21 : Int32) (S22 : St) => wl_X1_worksOn_5 f n S22 a0 x1 x2 (x3 + r21) (x4 + 1)))))))))
def w_X1_worksOn (S : St) (a0 : Nat) (x1 : Int32) (x2 : Int32) (f : Int32 → St → Prop) : Prop := (∃ m : Nat, wl_X1_worksOn_5 f m S a0 x1 x2 0 0)
set_option maxRecDepth 100000 in
set_option maxHeartbeats 4000000 in
theorem c_X1_worksOn (l : Launch) (S : St) (a0 : Nat) (x1 : Int32) (x2 : Int32) (f : Int32 → St → Prop) (hw : w_X1_worksOn S a0 x1 x2 f) : Ct l yX1_worksOn (Cond.code yX1_worksOn cX1_worksOn 6 (some .int)) { frames := 3, cells := 0, slots := 0, locals := 64 } 0 0 S [.ref a0, .int x1, .int x2] (pI f) nox := by
  refine entry (by decide +kernel) rfl rfl (by first | decide | exact nl rfl) rfl ?_
  intro X h hq
  have L5 : ∀ (n : Nat) (S : St) (a0 : Nat) (x1 : Int32) (x2 : Int32) (x3 : Int32) (x4 : Int32), wl_X1_worksOn_5 f n S a0 x1 x2 x3 x4 → pw X 0 0 S 5 [(0, .ref a0), (1, .int x1), (2, .int x2), (3, .int x3), (4, .int x4)] [] := by
    intro n
    induction n with
    | zero => intro S a0 x1 x2 x3 x4 hw; exact hw.elim
    | succ n ih =>
      intro S a0 x1 x2 x3 x4 hw
      unfold wl_X1_worksOn_5 at hw
      refine r_iload h 4 rfl dX1_worksOn_5 ?_
      refine r_aload_n h 0 rfl rfl dX1_worksOn_7 ?_
      obtain ⟨h2, hw⟩ := hw
      obtain ⟨b3, h4, hw⟩ := hw
      refine r_getr h kci2 in2 (k := 0) (by decide) rfl rfl q152 h2 h4 dX1_worksOn_8 ?_
      obtain ⟨h5, hw⟩ := hw
      refine r_callV h (fun l => c_Jx4a65c_size_8abf5 l _ _ _ hw) q258 q239 q240 q59 q241 nd_Jx4a65c_size_8abf5 ⟨by decide, by decide⟩ rfl rfl ⟨by decide, by decide⟩ kci0 rfl h5 rfl (by first | decide | exact nl rfl) rfl dX1_worksOn_11 nxk (kI fun r6 S7 hw => ?_)
      refine r_icmp_ge h 59 dX1_worksOn_14 (by decide) (fun hc => ?_) (fun hc => ?_)
      · replace hw := hw.1 hc
        refine r_iload_n h 3 rfl rfl dX1_worksOn_59 ?_
        exact r_iret h hq rfl ⟨_, rfl, hw⟩ (by decide) (by decide) dX1_worksOn_60
      · replace hw := hw.2 hc
        refine r_aload_n h 0 rfl rfl dX1_worksOn_17 ?_
        obtain ⟨h9, hw⟩ := hw
        obtain ⟨b10, h11, hw⟩ := hw
        refine r_getr h kci2 in2 (k := 0) (by decide) rfl rfl q152 h9 h11 dX1_worksOn_18 ?_
        refine r_iload h 4 rfl dX1_worksOn_21 ?_
        obtain ⟨h12, hw⟩ := hw
        refine r_callV h (fun l => c_Jx4a65c_get_915e3 l _ _ _ _ hw) q259 q260 q261 q59 q262 nd_Jx4a65c_get_915e3 ⟨by decide, by decide⟩ rfl rfl ⟨by decide, by decide⟩ kci0 rfl h12 rfl (by first | decide | exact nl rfl) rfl dX1_worksOn_23 nxk (kA fun b13 S14 hw => ?_)
        obtain ⟨h16, hw⟩ := hw
        refine r_castS h kci3 q273 h16 dX1_worksOn_26 ?_
        refine r_astore h [1, 2, 3, 4, 5, 0] (by decide) rfl dX1_worksOn_29 ?_
        refine r_iload_n h 3 rfl rfl dX1_worksOn_31 ?_
        refine r_aload h 5 rfl dX1_worksOn_32 ?_
        refine r_iload_n h 2 rfl rfl dX1_worksOn_34 ?_
        refine r_callV h (fun l => c_X2_hangsOn l _ _ _ _ hw) q351 q352 q353 q82 q354 nd_X2_hangsOn ⟨by decide, by decide⟩ rfl rfl ⟨by decide, by decide⟩ kci3 rfl h16 rfl (by first | decide | exact nl rfl) rfl dX1_worksOn_35 nxk (kI fun r17 S18 hw => ?_)
        refine r_if_eq h 50 dX1_worksOn_38 (by decide) (fun hc => ?_) (fun hc => ?_)
        · replace hw := hw.1 hc
          refine r_iconst h (v := 0) (by decide) dX1_worksOn_50 ?_
          refine r_iadd h dX1_worksOn_51 ?_
          refine r_istore_n h [1, 2, 3, 0, 4] rfl (by decide) rfl dX1_worksOn_52 ?_
          refine r_iinc h (j := 4) (v := (x4 + 1)) [1, 2, 3, 4, 0] rfl rfl (by decide) rfl dX1_worksOn_53 ?_
          refine r_goto h 5 dX1_worksOn_56 (by decide) ?_
          exact ih _ _ _ _ _ _ hw
        · replace hw := hw.2 hc
          refine r_aload h 5 rfl dX1_worksOn_41 ?_
          refine r_iload_n h 1 rfl rfl dX1_worksOn_43 ?_
          obtain ⟨h20, hw⟩ := hw
          refine r_callV h (fun l => c_X2_countOn l _ _ _ _ hw) q1109 q1110 q1111 q82 q1112 nd_X2_countOn ⟨by decide, by decide⟩ rfl rfl ⟨by decide, by decide⟩ kci3 rfl h20 rfl (by first | decide | exact nl rfl) rfl dX1_worksOn_44 nxk (kI fun r21 S22 hw => ?_)
          refine r_goto h 51 dX1_worksOn_47 (by decide) ?_
          refine r_iadd h dX1_worksOn_51 ?_
          refine r_istore_n h [1, 2, 3, 0, 4] rfl (by decide) rfl dX1_worksOn_52 ?_
          refine r_iinc h (j := 4) (v := (x4 + 1)) [1, 2, 3, 4, 0] rfl rfl (by decide) rfl dX1_worksOn_53 ?_
          refine r_goto h 5 dX1_worksOn_56 (by decide) ?_
          exact ih _ _ _ _ _ _ hw
  unfold w_X1_worksOn at hw
  refine r_iconst h (v := 0) (by decide) dX1_worksOn_0 ?_
  refine r_istore_n h [1, 2, 3, 0] rfl (by decide) rfl dX1_worksOn_1 ?_
  refine r_iconst h (v := 0) (by decide) dX1_worksOn_2 ?_
  refine r_istore h [1, 2, 3, 4, 0] (by decide) rfl dX1_worksOn_3 ?_
  obtain ⟨m, hw⟩ := hw
  exact L5 m _ _ _ _ _ _ hw

def wl_X1_plannedExhibitions_4 (f : Int32 → St → Prop) : Nat → St → Nat → Int32 → Int32 → Prop
  | 0, _, _, _, _ => False
  | n + 1, S, a0, x1, x2 => ok S a0 2 ∧ ∃ b3 : Nat, sP S a0 0 = some b3 ∧ ok S b3 0 ∧ w_Jx4a65c_size_8abf5 S b3 (fun (r6 : Int32) (S7 : St) => (((r6 ≤ x2) → f x1 S7) ∧ ((¬ r6 ≤ x2) → ok S7 a0 2 ∧ ∃ b10 : Nat, sP S7 a0 0 = some b10 ∧ ok S7 b10 0 ∧ w_Jx4a65c_get_915e3 S7 b10 x2 (fun (b13 : Nat) (S14 : St) => ok S14 b13 3 ∧ (((¬ (sI S14 b13 6) = 112) → wl_X1_plannedExhibitions_4 f n S14 a0 x1 (x2 + 1)) ∧ (((sI S14 b13 6) = 112) → wl_X1_plannedExhibitions_4 f n S14 a0 (x1 + 1) (x2 + 1)))))))
def w_X1_plannedExhibitions (S : St) (a0 : Nat) (f : Int32 → St → Prop) : Prop := (∃ m : Nat, wl_X1_plannedExhibitions_4 f m S a0 0 0)
set_option maxRecDepth 100000 in
set_option maxHeartbeats 4000000 in
theorem c_X1_plannedExhibitions (l : Launch) (S : St) (a0 : Nat) (f : Int32 → St → Prop) (hw : w_X1_plannedExhibitions S a0 f) : Ct l yX1_plannedExhibitions (Cond.code yX1_plannedExhibitions cX1_plannedExhibitions 3 (some .int)) { frames := 3, cells := 0, slots := 0, locals := 64 } 0 0 S [.ref a0] (pI f) nox := by
  refine entry (by decide +kernel) rfl rfl (by first | decide | exact nl rfl) rfl ?_
  intro X h hq
  have L4 : ∀ (n : Nat) (S : St) (a0 : Nat) (x1 : Int32) (x2 : Int32), wl_X1_plannedExhibitions_4 f n S a0 x1 x2 → pw X 0 0 S 4 [(0, .ref a0), (1, .int x1), (2, .int x2)] [] := by
    intro n
    induction n with
    | zero => intro S a0 x1 x2 hw; exact hw.elim
    | succ n ih =>
      intro S a0 x1 x2 hw
      unfold wl_X1_plannedExhibitions_4 at hw
      refine r_iload_n h 2 rfl rfl dX1_plannedExhibitions_4 ?_
      refine r_aload_n h 0 rfl rfl dX1_plannedExhibitions_5 ?_
      obtain ⟨h2, hw⟩ := hw
      obtain ⟨b3, h4, hw⟩ := hw
      refine r_getr h kci2 in2 (k := 0) (by decide) rfl rfl q152 h2 h4 dX1_plannedExhibitions_6 ?_
      obtain ⟨h5, hw⟩ := hw
      refine r_callV h (fun l => c_Jx4a65c_size_8abf5 l _ _ _ hw) q258 q239 q240 q59 q241 nd_Jx4a65c_size_8abf5 ⟨by decide, by decide⟩ rfl rfl ⟨by decide, by decide⟩ kci0 rfl h5 rfl (by first | decide | exact nl rfl) rfl dX1_plannedExhibitions_9 nxk (kI fun r6 S7 hw => ?_)
      refine r_icmp_ge h 43 dX1_plannedExhibitions_12 (by decide) (fun hc => ?_) (fun hc => ?_)
      · replace hw := hw.1 hc
        refine r_iload_n h 1 rfl rfl dX1_plannedExhibitions_43 ?_
        exact r_iret h hq rfl ⟨_, rfl, hw⟩ (by decide) (by decide) dX1_plannedExhibitions_44
      · replace hw := hw.2 hc
        refine r_aload_n h 0 rfl rfl dX1_plannedExhibitions_15 ?_
        obtain ⟨h9, hw⟩ := hw
        obtain ⟨b10, h11, hw⟩ := hw
        refine r_getr h kci2 in2 (k := 0) (by decide) rfl rfl q152 h9 h11 dX1_plannedExhibitions_16 ?_
        refine r_iload_n h 2 rfl rfl dX1_plannedExhibitions_19 ?_
        obtain ⟨h12, hw⟩ := hw
        refine r_callV h (fun l => c_Jx4a65c_get_915e3 l _ _ _ _ hw) q259 q260 q261 q59 q262 nd_Jx4a65c_get_915e3 ⟨by decide, by decide⟩ rfl rfl ⟨by decide, by decide⟩ kci0 rfl h12 rfl (by first | decide | exact nl rfl) rfl dX1_plannedExhibitions_20 nxk (kA fun b13 S14 hw => ?_)
        obtain ⟨h16, hw⟩ := hw
        refine r_castS h kci3 q273 h16 dX1_plannedExhibitions_23 ?_
        refine r_getiN h kci3 in3 (k := 6) (by decide) rfl rfl n881 h16 dX1_plannedExhibitions_26 ?_
        refine r_bipush h (v := 112) (by decide) dX1_plannedExhibitions_29 ?_
        refine r_icmp_ne h 37 dX1_plannedExhibitions_31 (by decide) (fun hc => ?_) (fun hc => ?_)
        · replace hw := hw.1 hc
          refine r_iinc h (j := 2) (v := (x2 + 1)) [1, 2, 0] rfl rfl (by decide) rfl dX1_plannedExhibitions_37 ?_
          refine r_goto h 4 dX1_plannedExhibitions_40 (by decide) ?_
          exact ih _ _ _ _ hw
        · replace hw := hw.2 hc
          refine r_iinc h (j := 1) (v := (x1 + 1)) [1, 0, 2] rfl rfl (by decide) rfl dX1_plannedExhibitions_34 ?_
          refine r_iinc h (j := 2) (v := (x2 + 1)) [1, 2, 0] rfl rfl (by decide) rfl dX1_plannedExhibitions_37 ?_
          refine r_goto h 4 dX1_plannedExhibitions_40 (by decide) ?_
          exact ih _ _ _ _ hw
  unfold w_X1_plannedExhibitions at hw
  refine r_iconst h (v := 0) (by decide) dX1_plannedExhibitions_0 ?_
  refine r_istore_n h [1, 0] rfl (by decide) rfl dX1_plannedExhibitions_1 ?_
  refine r_iconst h (v := 0) (by decide) dX1_plannedExhibitions_2 ?_
  refine r_istore_n h [1, 2, 0] rfl (by decide) rfl dX1_plannedExhibitions_3 ?_
  obtain ⟨m, hw⟩ := hw
  exact L4 m _ _ _ _ hw

def wl_X1_plannedWorks_4 (f : Int32 → St → Prop) : Nat → St → Nat → Int32 → Int32 → Prop
  | 0, _, _, _, _ => False
  | n + 1, S, a0, x1, x2 => ok S a0 2 ∧ ∃ b3 : Nat, sP S a0 0 = some b3 ∧ ok S b3 0 ∧ w_Jx4a65c_size_8abf5 S b3 (fun (r6 : Int32) (S7 : St) => (((r6 ≤ x2) → f x1 S7) ∧ ((¬ r6 ≤ x2) → ok S7 a0 2 ∧ ∃ b10 : Nat, sP S7 a0 0 = some b10 ∧ ok S7 b10 0 ∧ w_Jx4a65c_get_915e3 S7 b10 x2 (fun (b13 : Nat) (S14 : St) => ok S14 b13 3 ∧ (((¬ (sI S14 b13 6) = 112) → wl_X1_plannedWorks_4 f n S14 a0 x1 (x2 + 1)) ∧ (((sI S14 b13 6) = 112) → ok S14 a0 2 ∧ ∃ b18 : Nat, sP S14 a0 0 = some b18 ∧ ok S14 b18 0 ∧ w_Jx4a65c_get_915e3 S14 b18 x2 (fun (b21 : Nat) (S22 : St) => ok S22 b21 3 ∧ ∃ b25 : Nat, sP S22 b21 4 = some b25 ∧ ok S22 b25 0 ∧ w_Jx4a65c_size_8abf5 S22 b25 (fun (r28 : Int32) (S29 : St) => wl_X1_plannedWorks_4 f n S29 a0 (x1 + r28) (x2 + 1)))))))))
def w_X1_plannedWorks (S : St) (a0 : Nat) (f : Int32 → St → Prop) : Prop := (∃ m : Nat, wl_X1_plannedWorks_4 f m S a0 0 0)
set_option maxRecDepth 100000 in
set_option maxHeartbeats 4000000 in
theorem c_X1_plannedWorks (l : Launch) (S : St) (a0 : Nat) (f : Int32 → St → Prop) (hw : w_X1_plannedWorks S a0 f) : Ct l yX1_plannedWorks (Cond.code yX1_plannedWorks cX1_plannedWorks 3 (some .int)) { frames := 3, cells := 0, slots := 0, locals := 64 } 0 0 S [.ref a0] (pI f) nox := by
  refine entry (by decide +kernel) rfl rfl (by first | decide | exact nl rfl) rfl ?_
  intro X h hq
  have L4 : ∀ (n : Nat) (S : St) (a0 : Nat) (x1 : Int32) (x2 : Int32), wl_X1_plannedWorks_4 f n S a0 x1 x2 → pw X 0 0 S 4 [(0, .ref a0), (1, .int x1), (2, .int x2)] [] := by
    intro n
    induction n with
    | zero => intro S a0 x1 x2 hw; exact hw.elim
    | succ n ih =>
      intro S a0 x1 x2 hw
      unfold wl_X1_plannedWorks_4 at hw
      refine r_iload_n h 2 rfl rfl dX1_plannedWorks_4 ?_
      refine r_aload_n h 0 rfl rfl dX1_plannedWorks_5 ?_
      obtain ⟨h2, hw⟩ := hw
      obtain ⟨b3, h4, hw⟩ := hw
      refine r_getr h kci2 in2 (k := 0) (by decide) rfl rfl q152 h2 h4 dX1_plannedWorks_6 ?_
      obtain ⟨h5, hw⟩ := hw
      refine r_callV h (fun l => c_Jx4a65c_size_8abf5 l _ _ _ hw) q258 q239 q240 q59 q241 nd_Jx4a65c_size_8abf5 ⟨by decide, by decide⟩ rfl rfl ⟨by decide, by decide⟩ kci0 rfl h5 rfl (by first | decide | exact nl rfl) rfl dX1_plannedWorks_9 nxk (kI fun r6 S7 hw => ?_)
      refine r_icmp_ge h 60 dX1_plannedWorks_12 (by decide) (fun hc => ?_) (fun hc => ?_)
      · replace hw := hw.1 hc
        refine r_iload_n h 1 rfl rfl dX1_plannedWorks_60 ?_
        exact r_iret h hq rfl ⟨_, rfl, hw⟩ (by decide) (by decide) dX1_plannedWorks_61
      · replace hw := hw.2 hc
        refine r_aload_n h 0 rfl rfl dX1_plannedWorks_15 ?_
        obtain ⟨h9, hw⟩ := hw
        obtain ⟨b10, h11, hw⟩ := hw
        refine r_getr h kci2 in2 (k := 0) (by decide) rfl rfl q152 h9 h11 dX1_plannedWorks_16 ?_
        refine r_iload_n h 2 rfl rfl dX1_plannedWorks_19 ?_
        obtain ⟨h12, hw⟩ := hw
        refine r_callV h (fun l => c_Jx4a65c_get_915e3 l _ _ _ _ hw) q259 q260 q261 q59 q262 nd_Jx4a65c_get_915e3 ⟨by decide, by decide⟩ rfl rfl ⟨by decide, by decide⟩ kci0 rfl h12 rfl (by first | decide | exact nl rfl) rfl dX1_plannedWorks_20 nxk (kA fun b13 S14 hw => ?_)
        obtain ⟨h16, hw⟩ := hw
        refine r_castS h kci3 q273 h16 dX1_plannedWorks_23 ?_
        refine r_getiN h kci3 in3 (k := 6) (by decide) rfl rfl n881 h16 dX1_plannedWorks_26 ?_
        refine r_bipush h (v := 112) (by decide) dX1_plannedWorks_29 ?_
        refine r_icmp_ne h 54 dX1_plannedWorks_31 (by decide) (fun hc => ?_) (fun hc => ?_)
        · replace hw := hw.1 hc
          refine r_iinc h (j := 2) (v := (x2 + 1)) [1, 2, 0] rfl rfl (by decide) rfl dX1_plannedWorks_54 ?_
          refine r_goto h 4 dX1_plannedWorks_57 (by decide) ?_
          exact ih _ _ _ _ hw
        · replace hw := hw.2 hc
          refine r_iload_n h 1 rfl rfl dX1_plannedWorks_34 ?_
          refine r_aload_n h 0 rfl rfl dX1_plannedWorks_35 ?_
          obtain ⟨h17, hw⟩ := hw
          obtain ⟨b18, h19, hw⟩ := hw
          refine r_getr h kci2 in2 (k := 0) (by decide) rfl rfl q152 h17 h19 dX1_plannedWorks_36 ?_
          refine r_iload_n h 2 rfl rfl dX1_plannedWorks_39 ?_
          obtain ⟨h20, hw⟩ := hw
          refine r_callV h (fun l => c_Jx4a65c_get_915e3 l _ _ _ _ hw) q259 q260 q261 q59 q262 nd_Jx4a65c_get_915e3 ⟨by decide, by decide⟩ rfl rfl ⟨by decide, by decide⟩ kci0 rfl h20 rfl (by first | decide | exact nl rfl) rfl dX1_plannedWorks_40 nxk (kA fun b21 S22 hw => ?_)
          obtain ⟨h24, hw⟩ := hw
          refine r_castS h kci3 q273 h24 dX1_plannedWorks_43 ?_
          obtain ⟨b25, h26, hw⟩ := hw
          refine r_getrN h kci3 in3 (k := 4) (by decide) rfl rfl n875 h24 h26 dX1_plannedWorks_46 ?_
          obtain ⟨h27, hw⟩ := hw
          refine r_callV h (fun l => c_Jx4a65c_size_8abf5 l _ _ _ hw) q258 q239 q240 q59 q241 nd_Jx4a65c_size_8abf5 ⟨by decide, by decide⟩ rfl rfl ⟨by decide, by decide⟩ kci0 rfl h27 rfl (by first | decide | exact nl rfl) rfl dX1_plannedWorks_49 nxk (kI fun r28 S29 hw => ?_)
          refine r_iadd h dX1_plannedWorks_52 ?_
          refine r_istore_n h [1, 0, 2] rfl (by decide) rfl dX1_plannedWorks_53 ?_
          refine r_iinc h (j := 2) (v := (x2 + 1)) [1, 2, 0] rfl rfl (by decide) rfl dX1_plannedWorks_54 ?_
          refine r_goto h 4 dX1_plannedWorks_57 (by decide) ?_
          exact ih _ _ _ _ hw
  unfold w_X1_plannedWorks at hw
  refine r_iconst h (v := 0) (by decide) dX1_plannedWorks_0 ?_
  refine r_istore_n h [1, 0] rfl (by decide) rfl dX1_plannedWorks_1 ?_
  refine r_iconst h (v := 0) (by decide) dX1_plannedWorks_2 ?_
  refine r_istore_n h [1, 2, 0] rfl (by decide) rfl dX1_plannedWorks_3 ?_
  obtain ⟨m, hw⟩ := hw
  exact L4 m _ _ _ _ hw

def wl_X1_meetsAgainst_3 (f : Int32 → St → Prop) : Nat → St → Nat → Nat → Int32 → Nat → Int32 → Int32 → Prop
  | 0, _, _, _, _, _, _, _ => False
  | n + 1, S, a0, a1, x2, a3, x4, x5 => ok S a0 2 ∧ ∃ b3 : Nat, sP S a0 0 = some b3 ∧ ok S b3 0 ∧ w_Jx4a65c_size_8abf5 S b3 (fun (r6 : Int32) (S7 : St) => (((r6 ≤ x5) → f 0 S7) ∧ ((¬ r6 ≤ x5) → ok S7 a0 2 ∧ ∃ b10 : Nat, sP S7 a0 0 = some b10 ∧ ok S7 b10 0 ∧ w_Jx4a65c_get_915e3 S7 b10 x5 (fun (b13 : Nat) (S14 : St) => ok S14 b13 3 ∧ w_X2_indexOf S14 b13 a3 (fun (r17 : Int32) (S18 : St) => ok S18 b13 3 ∧ w_X2_hangsDuring S18 b13 a1 (fun (r21 : Int32) (S22 : St) => (((r21 = 0) → wl_X1_meetsAgainst_3 f n S22 a0 a1 x2 a3 x4 (x5 + 1)) ∧ ((¬ r21 = 0) → (((r17 = (-1)) → wl_X1_meetsAgainst_3 f n S22 a0 a1 x2 a3 x4 (x5 + 1)) ∧ ((¬ r17 = (-1)) → ok S22 b13 3 ∧ ∃ b25 : Nat, sP S22 b13 5 = some b25 ∧ w_X9_numberAt S22 b25 r17 (fun (r27 : Int32) (S28 : St) => w_X9_isBroken S28 x4 x2 r27 (fun (r30 : Int32) (S31 : St) => (((r30 = 0) → wl_X1_meetsAgainst_3 f n S31 a0 a1 x2 a3 x4 (x5 + 1)) ∧ ((¬ r30 = 0) → f 1 S31))))))))))))))
def w_X1_meetsAgainst (S : St) (a0 : Nat) (a1 : Nat) (x2 : Int32) (a3 : Nat) (x4 : Int32) (f : Int32 → St → Prop) : Prop := (∃ m : Nat, wl_X1_meetsAgainst_3 f m S a0 a1 x2 a3 x4 0)
set_option maxRecDepth 100000 in
set_option maxHeartbeats 4000000 in
theorem c_X1_meetsAgainst (l : Launch) (S : St) (a0 : Nat) (a1 : Nat) (x2 : Int32) (a3 : Nat) (x4 : Int32) (f : Int32 → St → Prop) (hw : w_X1_meetsAgainst S a0 a1 x2 a3 x4 f) : Ct l yX1_meetsAgainst (Cond.code yX1_meetsAgainst cX1_meetsAgainst 8 (some .boolean)) { frames := 4, cells := 0, slots := 0, locals := 86 } 0 0 S [.ref a0, .ref a1, .int x2, .ref a3, .int x4] (pI f) nox := by
  refine entry (by decide +kernel) rfl rfl (by first | decide | exact nl rfl) rfl ?_
  intro X h hq
  have L3 : ∀ (n : Nat) (S : St) (a0 : Nat) (a1 : Nat) (x2 : Int32) (a3 : Nat) (x4 : Int32) (x5 : Int32), wl_X1_meetsAgainst_3 f n S a0 a1 x2 a3 x4 x5 → pw X 0 0 S 3 [(0, .ref a0), (1, .ref a1), (2, .int x2), (3, .ref a3), (4, .int x4), (5, .int x5)] [] := by
    intro n
    induction n with
    | zero => intro S a0 a1 x2 a3 x4 x5 hw; exact hw.elim
    | succ n ih =>
      intro S a0 a1 x2 a3 x4 x5 hw
      unfold wl_X1_meetsAgainst_3 at hw
      refine r_iload h 5 rfl dX1_meetsAgainst_3 ?_
      refine r_aload_n h 0 rfl rfl dX1_meetsAgainst_5 ?_
      obtain ⟨h2, hw⟩ := hw
      obtain ⟨b3, h4, hw⟩ := hw
      refine r_getr h kci2 in2 (k := 0) (by decide) rfl rfl q152 h2 h4 dX1_meetsAgainst_6 ?_
      obtain ⟨h5, hw⟩ := hw
      refine r_callV h (fun l => c_Jx4a65c_size_8abf5 l _ _ _ hw) q258 q239 q240 q59 q241 nd_Jx4a65c_size_8abf5 ⟨by decide, by decide⟩ rfl rfl ⟨by decide, by decide⟩ kci0 rfl h5 rfl (by first | decide | exact nl rfl) rfl dX1_meetsAgainst_9 nxk (kI fun r6 S7 hw => ?_)
      refine r_icmp_ge h 79 dX1_meetsAgainst_12 (by decide) (fun hc => ?_) (fun hc => ?_)
      · replace hw := hw.1 hc
        refine r_iconst h (v := 0) (by decide) dX1_meetsAgainst_79 ?_
        exact r_zret h hq (ty := .boolean) rfl rfl ⟨_, rfl, hw⟩ (by decide) (by decide) dX1_meetsAgainst_80
      · replace hw := hw.2 hc
        refine r_aload_n h 0 rfl rfl dX1_meetsAgainst_15 ?_
        obtain ⟨h9, hw⟩ := hw
        obtain ⟨b10, h11, hw⟩ := hw
        refine r_getr h kci2 in2 (k := 0) (by decide) rfl rfl q152 h9 h11 dX1_meetsAgainst_16 ?_
        refine r_iload h 5 rfl dX1_meetsAgainst_19 ?_
        obtain ⟨h12, hw⟩ := hw
        refine r_callV h (fun l => c_Jx4a65c_get_915e3 l _ _ _ _ hw) q259 q260 q261 q59 q262 nd_Jx4a65c_get_915e3 ⟨by decide, by decide⟩ rfl rfl ⟨by decide, by decide⟩ kci0 rfl h12 rfl (by first | decide | exact nl rfl) rfl dX1_meetsAgainst_21 nxk (kA fun b13 S14 hw => ?_)
        obtain ⟨h16, hw⟩ := hw
        refine r_castS h kci3 q273 h16 dX1_meetsAgainst_24 ?_
        refine r_astore h [1, 2, 3, 4, 5, 6, 0] (by decide) rfl dX1_meetsAgainst_27 ?_
        refine r_aload h 6 rfl dX1_meetsAgainst_29 ?_
        refine r_aload_n h 3 rfl rfl dX1_meetsAgainst_31 ?_
        refine r_callV h (fun l => c_X2_indexOf l _ _ _ _ hw) q813 q381 q382 q82 q383 nd_X2_indexOf ⟨by decide, by decide⟩ rfl rfl ⟨by decide, by decide⟩ kci3 rfl h16 rfl (by first | decide | exact nl rfl) rfl dX1_meetsAgainst_32 nxk (kI fun r17 S18 hw => ?_)
        refine r_istore h [1, 2, 3, 4, 5, 6, 7, 0] (by decide) rfl dX1_meetsAgainst_35 ?_
        refine r_aload h 6 rfl dX1_meetsAgainst_37 ?_
        refine r_aload_n h 1 rfl rfl dX1_meetsAgainst_39 ?_
        obtain ⟨h20, hw⟩ := hw
        refine r_callV h (fun l => c_X2_hangsDuring l _ _ _ _ hw) q331 q332 q333 q82 q334 nd_X2_hangsDuring ⟨by decide, by decide⟩ rfl rfl ⟨by decide, by decide⟩ kci3 rfl h20 rfl (by first | decide | exact nl rfl) rfl dX1_meetsAgainst_40 nxk (kI fun r21 S22 hw => ?_)
        refine r_if_eq h 73 dX1_meetsAgainst_43 (by decide) (fun hc => ?_) (fun hc => ?_)
        · replace hw := hw.1 hc
          refine r_iinc h (j := 5) (v := (x5 + 1)) [1, 2, 3, 4, 5, 0, 6, 7] rfl rfl (by decide) rfl dX1_meetsAgainst_73 ?_
          refine r_goto h 3 dX1_meetsAgainst_76 (by decide) ?_
          refine r_vs [0, 1, 2, 3, 4, 5] rfl ?_
          exact ih _ _ _ _ _ _ _ hw
        · replace hw := hw.2 hc
          refine r_iload h 7 rfl dX1_meetsAgainst_46 ?_
          refine r_iconst h (v := (-1)) (by decide) dX1_meetsAgainst_48 ?_
          refine r_icmp_eq h 73 dX1_meetsAgainst_49 (by decide) (fun hc => ?_) (fun hc => ?_)
          · replace hw := hw.1 hc
            refine r_iinc h (j := 5) (v := (x5 + 1)) [1, 2, 3, 4, 5, 0, 6, 7] rfl rfl (by decide) rfl dX1_meetsAgainst_73 ?_
            refine r_goto h 3 dX1_meetsAgainst_76 (by decide) ?_
            refine r_vs [0, 1, 2, 3, 4, 5] rfl ?_
            exact ih _ _ _ _ _ _ _ hw
          · replace hw := hw.2 hc
            refine r_iload h 4 rfl dX1_meetsAgainst_52 ?_
            refine r_iload_n h 2 rfl rfl dX1_meetsAgainst_54 ?_
            refine r_aload h 6 rfl dX1_meetsAgainst_55 ?_
            obtain ⟨h24, hw⟩ := hw
            obtain ⟨b25, h26, hw⟩ := hw
            refine r_getrN h kci3 in3 (k := 5) (by decide) rfl rfl n878 h24 h26 dX1_meetsAgainst_57 ?_
            refine r_iload h 7 rfl dX1_meetsAgainst_60 ?_
            refine r_callSN h (fun l => c_X9_numberAt l _ _ _ _ hw) n302 q303 q55 q304 nd_X9_numberAt ⟨by decide, by decide⟩ rfl rfl ⟨by decide, by decide⟩ (as := [.ref b25, .int r17]) rfl (by first | decide | exact nl rfl) rfl dX1_meetsAgainst_62 nxk (kI fun r27 S28 hw => ?_)
            refine r_callSN h (fun l => c_X9_isBroken l _ _ _ _ _ hw) n339 q340 q55 q341 nd_X9_isBroken ⟨by decide, by decide⟩ rfl rfl ⟨by decide, by decide⟩ (as := [.int x4, .int x2, .int r27]) rfl (by first | decide | exact nl rfl) rfl dX1_meetsAgainst_65 nxk (kI fun r30 S31 hw => ?_)
            refine r_if_eq h 73 dX1_meetsAgainst_68 (by decide) (fun hc => ?_) (fun hc => ?_)
            · replace hw := hw.1 hc
              refine r_iinc h (j := 5) (v := (x5 + 1)) [1, 2, 3, 4, 5, 0, 6, 7] rfl rfl (by decide) rfl dX1_meetsAgainst_73 ?_
              refine r_goto h 3 dX1_meetsAgainst_76 (by decide) ?_
              refine r_vs [0, 1, 2, 3, 4, 5] rfl ?_
              exact ih _ _ _ _ _ _ _ hw
            · replace hw := hw.2 hc
              refine r_iconst h (v := 1) (by decide) dX1_meetsAgainst_71 ?_
              exact r_zret h hq (ty := .boolean) rfl rfl ⟨_, rfl, hw⟩ (by decide) (by decide) dX1_meetsAgainst_72
  unfold w_X1_meetsAgainst at hw
  refine r_iconst h (v := 0) (by decide) dX1_meetsAgainst_0 ?_
  refine r_istore h [1, 2, 3, 4, 5, 0] (by decide) rfl dX1_meetsAgainst_1 ?_
  obtain ⟨m, hw⟩ := hw
  exact L3 m _ _ _ _ _ _ _ hw

def wl_X1_hangsAgainst_3 (f : Int32 → St → Prop) : Nat → St → Nat → Nat → Nat → Int32 → Int32 → Prop
  | 0, _, _, _, _, _, _ => False
  | n + 1, S, a0, a1, a2, x3, x4 => ok S a0 2 ∧ ∃ b3 : Nat, sP S a0 0 = some b3 ∧ ok S b3 0 ∧ w_Jx4a65c_size_8abf5 S b3 (fun (r6 : Int32) (S7 : St) => (((r6 ≤ x4) → f 0 S7) ∧ ((¬ r6 ≤ x4) → ok S7 a0 2 ∧ ∃ b10 : Nat, sP S7 a0 0 = some b10 ∧ ok S7 b10 0 ∧ w_Jx4a65c_get_915e3 S7 b10 x4 (fun (b13 : Nat) (S14 : St) => ok S14 b13 3 ∧ w_X2_indexOf S14 b13 a1 (fun (r17 : Int32) (S18 : St) => ok S18 b13 3 ∧ (((¬ (sI S18 b13 6) = 112) → wl_X1_hangsAgainst_3 f n S18 a0 a1 a2 x3 (x4 + 1)) ∧ (((sI S18 b13 6) = 112) → (((r17 = (-1)) → wl_X1_hangsAgainst_3 f n S18 a0 a1 a2 x3 (x4 + 1)) ∧ ((¬ r17 = (-1)) → ∃ b21 : Nat, sP S18 b13 5 = some b21 ∧ w_X9_numberAt S18 b21 r17 (fun (r23 : Int32) (S24 : St) => ok S24 a0 2 ∧ w_X1_meetsAgainst S24 a0 b13 r23 a2 x3 (fun (r27 : Int32) (S28 : St) => (((r27 = 0) → wl_X1_hangsAgainst_3 f n S28 a0 a1 a2 x3 (x4 + 1)) ∧ ((¬ r27 = 0) → f 1 S28)))))))))))))
def w_X1_hangsAgainst (S : St) (a0 : Nat) (a1 : Nat) (a2 : Nat) (x3 : Int32) (f : Int32 → St → Prop) : Prop := (∃ m : Nat, wl_X1_hangsAgainst_3 f m S a0 a1 a2 x3 0)
set_option maxRecDepth 100000 in
set_option maxHeartbeats 4000000 in
theorem c_X1_hangsAgainst (l : Launch) (S : St) (a0 : Nat) (a1 : Nat) (a2 : Nat) (x3 : Int32) (f : Int32 → St → Prop) (hw : w_X1_hangsAgainst S a0 a1 a2 x3 f) : Ct l yX1_hangsAgainst (Cond.code yX1_hangsAgainst cX1_hangsAgainst 7 (some .boolean)) { frames := 5, cells := 0, slots := 0, locals := 113 } 0 0 S [.ref a0, .ref a1, .ref a2, .int x3] (pI f) nox := by
  refine entry (by decide +kernel) rfl rfl (by first | decide | exact nl rfl) rfl ?_
  intro X h hq
  have L3 : ∀ (n : Nat) (S : St) (a0 : Nat) (a1 : Nat) (a2 : Nat) (x3 : Int32) (x4 : Int32), wl_X1_hangsAgainst_3 f n S a0 a1 a2 x3 x4 → pw X 0 0 S 3 [(0, .ref a0), (1, .ref a1), (2, .ref a2), (3, .int x3), (4, .int x4)] [] := by
    intro n
    induction n with
    | zero => intro S a0 a1 a2 x3 x4 hw; exact hw.elim
    | succ n ih =>
      intro S a0 a1 a2 x3 x4 hw
      unfold wl_X1_hangsAgainst_3 at hw
      refine r_iload h 4 rfl dX1_hangsAgainst_3 ?_
      refine r_aload_n h 0 rfl rfl dX1_hangsAgainst_5 ?_
      obtain ⟨h2, hw⟩ := hw
      obtain ⟨b3, h4, hw⟩ := hw
      refine r_getr h kci2 in2 (k := 0) (by decide) rfl rfl q152 h2 h4 dX1_hangsAgainst_6 ?_
      obtain ⟨h5, hw⟩ := hw
      refine r_callV h (fun l => c_Jx4a65c_size_8abf5 l _ _ _ hw) q258 q239 q240 q59 q241 nd_Jx4a65c_size_8abf5 ⟨by decide, by decide⟩ rfl rfl ⟨by decide, by decide⟩ kci0 rfl h5 rfl (by first | decide | exact nl rfl) rfl dX1_hangsAgainst_9 nxk (kI fun r6 S7 hw => ?_)
      refine r_icmp_ge h 82 dX1_hangsAgainst_12 (by decide) (fun hc => ?_) (fun hc => ?_)
      · replace hw := hw.1 hc
        refine r_iconst h (v := 0) (by decide) dX1_hangsAgainst_82 ?_
        exact r_zret h hq (ty := .boolean) rfl rfl ⟨_, rfl, hw⟩ (by decide) (by decide) dX1_hangsAgainst_83
      · replace hw := hw.2 hc
        refine r_aload_n h 0 rfl rfl dX1_hangsAgainst_15 ?_
        obtain ⟨h9, hw⟩ := hw
        obtain ⟨b10, h11, hw⟩ := hw
        refine r_getr h kci2 in2 (k := 0) (by decide) rfl rfl q152 h9 h11 dX1_hangsAgainst_16 ?_
        refine r_iload h 4 rfl dX1_hangsAgainst_19 ?_
        obtain ⟨h12, hw⟩ := hw
        refine r_callV h (fun l => c_Jx4a65c_get_915e3 l _ _ _ _ hw) q259 q260 q261 q59 q262 nd_Jx4a65c_get_915e3 ⟨by decide, by decide⟩ rfl rfl ⟨by decide, by decide⟩ kci0 rfl h12 rfl (by first | decide | exact nl rfl) rfl dX1_hangsAgainst_21 nxk (kA fun b13 S14 hw => ?_)
        obtain ⟨h16, hw⟩ := hw
        refine r_castS h kci3 q273 h16 dX1_hangsAgainst_24 ?_
        refine r_astore h [1, 2, 3, 4, 5, 0] (by decide) rfl dX1_hangsAgainst_27 ?_
        refine r_aload h 5 rfl dX1_hangsAgainst_29 ?_
        refine r_aload_n h 1 rfl rfl dX1_hangsAgainst_31 ?_
        refine r_callV h (fun l => c_X2_indexOf l _ _ _ _ hw) q813 q381 q382 q82 q383 nd_X2_indexOf ⟨by decide, by decide⟩ rfl rfl ⟨by decide, by decide⟩ kci3 rfl h16 rfl (by first | decide | exact nl rfl) rfl dX1_hangsAgainst_32 nxk (kI fun r17 S18 hw => ?_)
        refine r_istore h [1, 2, 3, 4, 5, 6, 0] (by decide) rfl dX1_hangsAgainst_35 ?_
        refine r_aload h 5 rfl dX1_hangsAgainst_37 ?_
        obtain ⟨h20, hw⟩ := hw
        refine r_getiN h kci3 in3 (k := 6) (by decide) rfl rfl n881 h20 dX1_hangsAgainst_39 ?_
        refine r_bipush h (v := 112) (by decide) dX1_hangsAgainst_42 ?_
        refine r_icmp_ne h 76 dX1_hangsAgainst_44 (by decide) (fun hc => ?_) (fun hc => ?_)
        · replace hw := hw.1 hc
          refine r_iinc h (j := 4) (v := (x4 + 1)) [1, 2, 3, 4, 0, 5, 6] rfl rfl (by decide) rfl dX1_hangsAgainst_76 ?_
          refine r_goto h 3 dX1_hangsAgainst_79 (by decide) ?_
          refine r_vs [0, 1, 2, 3, 4] rfl ?_
          exact ih _ _ _ _ _ _ hw
        · replace hw := hw.2 hc
          refine r_iload h 6 rfl dX1_hangsAgainst_47 ?_
          refine r_iconst h (v := (-1)) (by decide) dX1_hangsAgainst_49 ?_
          refine r_icmp_eq h 76 dX1_hangsAgainst_50 (by decide) (fun hc => ?_) (fun hc => ?_)
          · replace hw := hw.1 hc
            refine r_iinc h (j := 4) (v := (x4 + 1)) [1, 2, 3, 4, 0, 5, 6] rfl rfl (by decide) rfl dX1_hangsAgainst_76 ?_
            refine r_goto h 3 dX1_hangsAgainst_79 (by decide) ?_
            refine r_vs [0, 1, 2, 3, 4] rfl ?_
            exact ih _ _ _ _ _ _ hw
          · replace hw := hw.2 hc
            refine r_aload_n h 0 rfl rfl dX1_hangsAgainst_53 ?_
            refine r_aload h 5 rfl dX1_hangsAgainst_54 ?_
            refine r_aload h 5 rfl dX1_hangsAgainst_56 ?_
            obtain ⟨b21, h22, hw⟩ := hw
            refine r_getrN h kci3 in3 (k := 5) (by decide) rfl rfl n878 h20 h22 dX1_hangsAgainst_58 ?_
            refine r_iload h 6 rfl dX1_hangsAgainst_61 ?_
            refine r_callSN h (fun l => c_X9_numberAt l _ _ _ _ hw) n302 q303 q55 q304 nd_X9_numberAt ⟨by decide, by decide⟩ rfl rfl ⟨by decide, by decide⟩ (as := [.ref b21, .int r17]) rfl (by first | decide | exact nl rfl) rfl dX1_hangsAgainst_63 nxk (kI fun r23 S24 hw => ?_)
            refine r_aload_n h 2 rfl rfl dX1_hangsAgainst_66 ?_
            refine r_iload_n h 3 rfl rfl dX1_hangsAgainst_67 ?_
            obtain ⟨h26, hw⟩ := hw
            refine r_callV h (fun l => c_X1_meetsAgainst l _ _ _ _ _ _ _ hw) q814 q816 q18 q61 q817 nd_X1_meetsAgainst ⟨by decide, by decide⟩ rfl rfl ⟨by decide, by decide⟩ kci2 rfl h26 rfl (by first | decide | exact nl rfl) rfl dX1_hangsAgainst_68 nxk (kI fun r27 S28 hw => ?_)
            refine r_if_eq h 76 dX1_hangsAgainst_71 (by decide) (fun hc => ?_) (fun hc => ?_)
            · replace hw := hw.1 hc
              refine r_iinc h (j := 4) (v := (x4 + 1)) [1, 2, 3, 4, 0, 5, 6] rfl rfl (by decide) rfl dX1_hangsAgainst_76 ?_
              refine r_goto h 3 dX1_hangsAgainst_79 (by decide) ?_
              refine r_vs [0, 1, 2, 3, 4] rfl ?_
              exact ih _ _ _ _ _ _ hw
            · replace hw := hw.2 hc
              refine r_iconst h (v := 1) (by decide) dX1_hangsAgainst_74 ?_
              exact r_zret h hq (ty := .boolean) rfl rfl ⟨_, rfl, hw⟩ (by decide) (by decide) dX1_hangsAgainst_75
  unfold w_X1_hangsAgainst at hw
  refine r_iconst h (v := 0) (by decide) dX1_hangsAgainst_0 ?_
  refine r_istore h [1, 2, 3, 4, 0] (by decide) rfl dX1_hangsAgainst_1 ?_
  obtain ⟨m, hw⟩ := hw
  exact L3 m _ _ _ _ _ _ hw

def w_X7_keepOneSide (S : St) (a0 : Nat) (x1 : Int32) (x2 : Int32) (x3 : Int32) (f : St → Prop) : Prop := (((((x1 * 12) + x2) < 0) → f S) ∧ ((¬ ((x1 * 12) + x2) < 0) → ok S a0 8 ∧ ∃ b2 : Nat, sP S a0 0 = some b2 ∧ ok S b2 100 ∧ ((((Int32.ofNat (sN S b2)) ≤ ((x1 * 12) + x2)) → f S) ∧ ((¬ (Int32.ofNat (sN S b2)) ≤ ((x1 * 12) + x2)) → vp_in ((x1 * 12) + x2) (sN S b2) ∧ let S6 : St := setI S b2 (Int32.toNatClampNeg ((x1 * 12) + x2)) (vp_nar .char x3); f S6))))
set_option maxRecDepth 100000 in
set_option maxHeartbeats 4000000 in
theorem c_X7_keepOneSide (l : Launch) (S : St) (a0 : Nat) (x1 : Int32) (x2 : Int32) (x3 : Int32) (f : St → Prop) (hw : w_X7_keepOneSide S a0 x1 x2 x3 f) : Ct l yX7_keepOneSide (Cond.code yX7_keepOneSide cX7_keepOneSide 5 none) { frames := 0, cells := 0, slots := 0, locals := 0 } 0 0 S [.ref a0, .int x1, .int x2, .int x3] (pV f) nox := by
  refine entry (by decide +kernel) rfl rfl (by first | decide | exact nl rfl) rfl ?_
  intro X h hq
  unfold w_X7_keepOneSide at hw
  refine r_iload_n h 1 rfl rfl dX7_keepOneSide_0 ?_
  refine r_bipush h (v := 12) (by decide) dX7_keepOneSide_1 ?_
  refine r_imul h dX7_keepOneSide_3 ?_
  refine r_iload_n h 2 rfl rfl dX7_keepOneSide_4 ?_
  refine r_iadd h dX7_keepOneSide_5 ?_
  refine r_istore h [1, 4, 0] (by decide) rfl dX7_keepOneSide_6 ?_
  refine r_iload h 2 rfl dX7_keepOneSide_8 ?_
  refine r_if_lt h 31 dX7_keepOneSide_10 (by decide) (fun hc => ?_) (fun hc => ?_)
  · replace hw := hw.1 hc
    exact r_vret h hq rfl ⟨rfl, hw⟩ (by decide) (by decide) dX7_keepOneSide_31
  · replace hw := hw.2 hc
    refine r_iload h 2 rfl dX7_keepOneSide_13 ?_
    refine r_aload_n h 0 rfl rfl dX7_keepOneSide_15 ?_
    obtain ⟨h1, hw⟩ := hw
    obtain ⟨b2, h3, hw⟩ := hw
    refine r_getr h kci8 in8 (k := 0) (by decide) rfl rfl q139 h1 h3 dX7_keepOneSide_16 ?_
    obtain ⟨h4, hw⟩ := hw
    refine r_alen h h4 (by decide) dX7_keepOneSide_19 ?_
    refine r_icmp_ge h 31 dX7_keepOneSide_20 (by decide) (fun hc => ?_) (fun hc => ?_)
    · replace hw := hw.1 hc
      exact r_vret h hq rfl ⟨rfl, hw⟩ (by decide) (by decide) dX7_keepOneSide_31
    · replace hw := hw.2 hc
      refine r_aload_n h 0 rfl rfl dX7_keepOneSide_23 ?_
      refine r_getr h kci8 in8 (k := 0) (by decide) rfl rfl q139 h1 h3 dX7_keepOneSide_24 ?_
      refine r_iload h 2 rfl dX7_keepOneSide_27 ?_
      refine r_iload_n h 1 rfl rfl dX7_keepOneSide_29 ?_
      obtain ⟨h5, hw⟩ := hw
      refine r_cast h h4 h5 dX7_keepOneSide_30 ?_
      exact r_vret h hq rfl ⟨rfl, hw⟩ (by decide) (by decide) dX7_keepOneSide_31

def w_X7_keep (S : St) (a0 : Nat) (x1 : Int32) (x2 : Int32) (x3 : Int32) (f : St → Prop) : Prop := ok S a0 8 ∧ w_X7_keepOneSide S a0 x1 x2 x3 (fun (S2 : St) => ok S2 a0 8 ∧ w_X7_keepOneSide S2 a0 x2 x1 x3 (fun (S5 : St) => f S5))
set_option maxRecDepth 100000 in
set_option maxHeartbeats 4000000 in
theorem c_X7_keep (l : Launch) (S : St) (a0 : Nat) (x1 : Int32) (x2 : Int32) (x3 : Int32) (f : St → Prop) (hw : w_X7_keep S a0 x1 x2 x3 f) : Ct l yX7_keep (Cond.code yX7_keep cX7_keep 4 none) { frames := 1, cells := 0, slots := 0, locals := 24 } 0 0 S [.ref a0, .int x1, .int x2, .int x3] (pV f) nox := by
  refine entry (by decide +kernel) rfl rfl (by first | decide | exact nl rfl) rfl ?_
  intro X h hq
  unfold w_X7_keep at hw
  refine r_aload_n h 0 rfl rfl dX7_keep_0 ?_
  refine r_iload_n h 1 rfl rfl dX7_keep_1 ?_
  refine r_iload_n h 2 rfl rfl dX7_keep_2 ?_
  refine r_iload_n h 3 rfl rfl dX7_keep_3 ?_
  obtain ⟨h1, hw⟩ := hw
  refine r_callV h (fun l => c_X7_keepOneSide l _ _ _ _ _ _ hw) q823 q825 q19 q60 q826 nd_X7_keepOneSide ⟨by decide, by decide⟩ rfl rfl ⟨by decide, by decide⟩ kci8 rfl h1 rfl (by first | decide | exact nl rfl) rfl dX7_keep_4 nxk (kV fun  S2 hw => ?_)
  refine r_aload_n h 0 rfl rfl dX7_keep_7 ?_
  refine r_iload_n h 2 rfl rfl dX7_keep_8 ?_
  refine r_iload_n h 1 rfl rfl dX7_keep_9 ?_
  refine r_iload_n h 3 rfl rfl dX7_keep_10 ?_
  obtain ⟨h4, hw⟩ := hw
  refine r_callV h (fun l => c_X7_keepOneSide l _ _ _ _ _ _ hw) q823 q825 q19 q60 q826 nd_X7_keepOneSide ⟨by decide, by decide⟩ rfl rfl ⟨by decide, by decide⟩ kci8 rfl h4 rfl (by first | decide | exact nl rfl) rfl dX7_keep_11 nxk (kV fun  S5 hw => ?_)
  exact r_vret h hq rfl ⟨rfl, hw⟩ (by decide) (by decide) dX7_keep_14

def wl_X7_pairs_4 (f : Int32 → St → Prop) : Nat → St → Nat → Int32 → Int32 → Prop
  | 0, _, _, _, _ => False
  | n + 1, S, a0, x1, x2 => ok S a0 8 ∧ ∃ b3 : Nat, sP S a0 0 = some b3 ∧ ok S b3 100 ∧ ((((Int32.ofNat (sN S b3)) ≤ x2) → f (x1 / 2) S) ∧ ((¬ (Int32.ofNat (sN S b3)) ≤ x2) → vp_in x2 (sN S b3) ∧ ((((sI S b3 (Int32.toNatClampNeg x2)) = 0) → wl_X7_pairs_4 f n S a0 x1 (x2 + 1)) ∧ ((¬ (sI S b3 (Int32.toNatClampNeg x2)) = 0) → wl_X7_pairs_4 f n S a0 (x1 + 1) (x2 + 1)))))
def w_X7_pairs (S : St) (a0 : Nat) (f : Int32 → St → Prop) : Prop := (∃ m : Nat, wl_X7_pairs_4 f m S a0 0 0)
set_option maxRecDepth 100000 in
set_option maxHeartbeats 4000000 in
theorem c_X7_pairs (l : Launch) (S : St) (a0 : Nat) (f : Int32 → St → Prop) (hw : w_X7_pairs S a0 f) : Ct l yX7_pairs (Cond.code yX7_pairs cX7_pairs 3 (some .int)) { frames := 0, cells := 0, slots := 0, locals := 0 } 0 0 S [.ref a0] (pI f) nox := by
  refine entry (by decide +kernel) rfl rfl (by first | decide | exact nl rfl) rfl ?_
  intro X h hq
  have L4 : ∀ (n : Nat) (S : St) (a0 : Nat) (x1 : Int32) (x2 : Int32), wl_X7_pairs_4 f n S a0 x1 x2 → pw X 0 0 S 4 [(0, .ref a0), (1, .int x1), (2, .int x2)] [] := by
    intro n
    induction n with
    | zero => intro S a0 x1 x2 hw; exact hw.elim
    | succ n ih =>
      intro S a0 x1 x2 hw
      unfold wl_X7_pairs_4 at hw
      refine r_iload_n h 2 rfl rfl dX7_pairs_4 ?_
      refine r_aload_n h 0 rfl rfl dX7_pairs_5 ?_
      obtain ⟨h2, hw⟩ := hw
      obtain ⟨b3, h4, hw⟩ := hw
      refine r_getr h kci8 in8 (k := 0) (by decide) rfl rfl q139 h2 h4 dX7_pairs_6 ?_
      obtain ⟨h5, hw⟩ := hw
      refine r_alen h h5 (by decide) dX7_pairs_9 ?_
      refine r_icmp_ge h 31 dX7_pairs_10 (by decide) (fun hc => ?_) (fun hc => ?_)
      · replace hw := hw.1 hc
        refine r_iload_n h 1 rfl rfl dX7_pairs_31 ?_
        refine r_iconst h (v := 2) (by decide) dX7_pairs_32 ?_
        refine r_idiv h (by decide) dX7_pairs_33 ?_
        exact r_iret h hq rfl ⟨_, rfl, hw⟩ (by decide) (by decide) dX7_pairs_34
      · replace hw := hw.2 hc
        refine r_aload_n h 0 rfl rfl dX7_pairs_13 ?_
        refine r_getr h kci8 in8 (k := 0) (by decide) rfl rfl q139 h2 h4 dX7_pairs_14 ?_
        refine r_iload_n h 2 rfl rfl dX7_pairs_17 ?_
        obtain ⟨h6, hw⟩ := hw
        refine r_cald h h5 h6 dX7_pairs_18 ?_
        refine r_if_eq h 25 dX7_pairs_19 (by decide) (fun hc => ?_) (fun hc => ?_)
        · replace hw := hw.1 hc
          refine r_iinc h (j := 2) (v := (x2 + 1)) [1, 2, 0] rfl rfl (by decide) rfl dX7_pairs_25 ?_
          refine r_goto h 4 dX7_pairs_28 (by decide) ?_
          exact ih _ _ _ _ hw
        · replace hw := hw.2 hc
          refine r_iinc h (j := 1) (v := (x1 + 1)) [1, 0, 2] rfl rfl (by decide) rfl dX7_pairs_22 ?_
          refine r_iinc h (j := 2) (v := (x2 + 1)) [1, 2, 0] rfl rfl (by decide) rfl dX7_pairs_25 ?_
          refine r_goto h 4 dX7_pairs_28 (by decide) ?_
          exact ih _ _ _ _ hw
  unfold w_X7_pairs at hw
  refine r_iconst h (v := 0) (by decide) dX7_pairs_0 ?_
  refine r_istore_n h [1, 0] rfl (by decide) rfl dX7_pairs_1 ?_
  refine r_iconst h (v := 0) (by decide) dX7_pairs_2 ?_
  refine r_istore_n h [1, 2, 0] rfl (by decide) rfl dX7_pairs_3 ?_
  obtain ⟨m, hw⟩ := hw
  exact L4 m _ _ _ _ hw

def wl_X1_standsWhereItHangs_2 (f : Int32 → St → Prop) : Nat → St → Nat → Nat → Int32 → Prop
  | 0, _, _, _, _ => False
  | n + 1, S, a1, a2, x3 => ok S a1 3 ∧ ∃ b3 : Nat, sP S a1 4 = some b3 ∧ ok S b3 0 ∧ w_Jx4a65c_size_8abf5 S b3 (fun (r6 : Int32) (S7 : St) => (((r6 ≤ x3) → f 1 S7) ∧ ((¬ r6 ≤ x3) → ok S7 a1 3 ∧ ∃ b10 : Nat, sP S7 a1 4 = some b10 ∧ ok S7 b10 0 ∧ w_Jx4a65c_get_915e3 S7 b10 x3 (fun (b13 : Nat) (S14 : St) => ok S14 b13 9 ∧ ok S14 a1 3 ∧ ∃ b18 : Nat, sP S14 a1 5 = some b18 ∧ w_X9_numberAt S14 b18 x3 (fun (r20 : Int32) (S21 : St) => ok S21 a2 4 ∧ w_X3_suits S21 a2 b13 r20 (fun (r24 : Int32) (S25 : St) => (((¬ r24 = 0) → wl_X1_standsWhereItHangs_2 f n S25 a1 a2 (x3 + 1)) ∧ ((r24 = 0) → f 0 S25))))))))
def w_X1_standsWhereItHangs (S : St) (a0 : Nat) (a1 : Nat) (a2 : Nat) (f : Int32 → St → Prop) : Prop := (∃ m : Nat, wl_X1_standsWhereItHangs_2 f m S a1 a2 0)
set_option maxRecDepth 100000 in
set_option maxHeartbeats 4000000 in
theorem c_X1_standsWhereItHangs (l : Launch) (S : St) (a0 : Nat) (a1 : Nat) (a2 : Nat) (f : Int32 → St → Prop) (hw : w_X1_standsWhereItHangs S a0 a1 a2 f) : Ct l yX1_standsWhereItHangs (Cond.code yX1_standsWhereItHangs cX1_standsWhereItHangs 4 (some .boolean)) { frames := 4, cells := 0, slots := 0, locals := 86 } 0 0 S [.ref a0, .ref a1, .ref a2] (pI f) nox := by
  refine entry (by decide +kernel) rfl rfl (by first | decide | exact nl rfl) rfl ?_
  intro X h hq
  have L2 : ∀ (n : Nat) (S : St) (a1 : Nat) (a2 : Nat) (x3 : Int32), wl_X1_standsWhereItHangs_2 f n S a1 a2 x3 → pw X 0 0 S 2 [(1, .ref a1), (2, .ref a2), (3, .int x3)] [] := by
    intro n
    induction n with
    | zero => intro S a1 a2 x3 hw; exact hw.elim
    | succ n ih =>
      intro S a1 a2 x3 hw
      unfold wl_X1_standsWhereItHangs_2 at hw
      refine r_iload_n h 2 rfl rfl dX1_standsWhereItHangs_2 ?_
      refine r_aload_n h 0 rfl rfl dX1_standsWhereItHangs_3 ?_
      obtain ⟨h2, hw⟩ := hw
      obtain ⟨b3, h4, hw⟩ := hw
      refine r_getrN h kci3 in3 (k := 4) (by decide) rfl rfl n875 h2 h4 dX1_standsWhereItHangs_4 ?_
      obtain ⟨h5, hw⟩ := hw
      refine r_callV h (fun l => c_Jx4a65c_size_8abf5 l _ _ _ hw) q258 q239 q240 q59 q241 nd_Jx4a65c_size_8abf5 ⟨by decide, by decide⟩ rfl rfl ⟨by decide, by decide⟩ kci0 rfl h5 rfl (by first | decide | exact nl rfl) rfl dX1_standsWhereItHangs_7 nxk (kI fun r6 S7 hw => ?_)
      refine r_icmp_ge h 47 dX1_standsWhereItHangs_10 (by decide) (fun hc => ?_) (fun hc => ?_)
      · replace hw := hw.1 hc
        refine r_iconst h (v := 1) (by decide) dX1_standsWhereItHangs_47 ?_
        exact r_zret h hq (ty := .boolean) rfl rfl ⟨_, rfl, hw⟩ (by decide) (by decide) dX1_standsWhereItHangs_48
      · replace hw := hw.2 hc
        refine r_aload_n h 1 rfl rfl dX1_standsWhereItHangs_13 ?_
        refine r_aload_n h 0 rfl rfl dX1_standsWhereItHangs_14 ?_
        obtain ⟨h9, hw⟩ := hw
        obtain ⟨b10, h11, hw⟩ := hw
        refine r_getrN h kci3 in3 (k := 4) (by decide) rfl rfl n875 h9 h11 dX1_standsWhereItHangs_15 ?_
        refine r_iload_n h 2 rfl rfl dX1_standsWhereItHangs_18 ?_
        obtain ⟨h12, hw⟩ := hw
        refine r_callV h (fun l => c_Jx4a65c_get_915e3 l _ _ _ _ hw) q259 q260 q261 q59 q262 nd_Jx4a65c_get_915e3 ⟨by decide, by decide⟩ rfl rfl ⟨by decide, by decide⟩ kci0 rfl h12 rfl (by first | decide | exact nl rfl) rfl dX1_standsWhereItHangs_19 nxk (kA fun b13 S14 hw => ?_)
        obtain ⟨h16, hw⟩ := hw
        refine r_castS h kci9 q301 h16 dX1_standsWhereItHangs_22 ?_
        refine r_aload_n h 0 rfl rfl dX1_standsWhereItHangs_25 ?_
        obtain ⟨h17, hw⟩ := hw
        obtain ⟨b18, h19, hw⟩ := hw
        refine r_getrN h kci3 in3 (k := 5) (by decide) rfl rfl n878 h17 h19 dX1_standsWhereItHangs_26 ?_
        refine r_iload_n h 2 rfl rfl dX1_standsWhereItHangs_29 ?_
        refine r_callSN h (fun l => c_X9_numberAt l _ _ _ _ hw) n302 q303 q55 q304 nd_X9_numberAt ⟨by decide, by decide⟩ rfl rfl ⟨by decide, by decide⟩ (as := [.ref b18, .int x3]) rfl (by first | decide | exact nl rfl) rfl dX1_standsWhereItHangs_30 nxk (kI fun r20 S21 hw => ?_)
        obtain ⟨h23, hw⟩ := hw
        refine r_callV h (fun l => c_X3_suits l _ _ _ _ _ hw) q305 q306 q307 q56 q308 nd_X3_suits ⟨by decide, by decide⟩ rfl rfl ⟨by decide, by decide⟩ kci4 rfl h23 rfl (by first | decide | exact nl rfl) rfl dX1_standsWhereItHangs_33 nxk (kI fun r24 S25 hw => ?_)
        refine r_if_ne h 41 dX1_standsWhereItHangs_36 (by decide) (fun hc => ?_) (fun hc => ?_)
        · replace hw := hw.1 hc
          refine r_iinc h (j := 2) (v := (x3 + 1)) [1, 2, 0] rfl rfl (by decide) rfl dX1_standsWhereItHangs_41 ?_
          refine r_goto h 2 dX1_standsWhereItHangs_44 (by decide) ?_
          exact ih _ _ _ _ hw
        · replace hw := hw.2 hc
          refine r_iconst h (v := 0) (by decide) dX1_standsWhereItHangs_39 ?_
          exact r_zret h hq (ty := .boolean) rfl rfl ⟨_, rfl, hw⟩ (by decide) (by decide) dX1_standsWhereItHangs_40
  unfold w_X1_standsWhereItHangs at hw
  refine r_iconst h (v := 0) (by decide) dX1_standsWhereItHangs_0 ?_
  refine r_istore_n h [2, 3, 0] rfl (by decide) rfl dX1_standsWhereItHangs_1 ?_
  obtain ⟨m, hw⟩ := hw
  exact L2 m _ _ _ _ hw

def wl_X1_takeDownMisplaced_4 (f : Int32 → St → Prop) : Nat → St → Nat → Nat → Int32 → Int32 → Prop
  | 0, _, _, _, _, _ => False
  | n + 1, S, a0, a1, x2, x3 => ok S a0 2 ∧ ∃ b3 : Nat, sP S a0 0 = some b3 ∧ ok S b3 0 ∧ w_Jx4a65c_size_8abf5 S b3 (fun (r6 : Int32) (S7 : St) => (((r6 ≤ x3) → f x2 S7) ∧ ((¬ r6 ≤ x3) → ok S7 a0 2 ∧ ∃ b10 : Nat, sP S7 a0 0 = some b10 ∧ ok S7 b10 0 ∧ w_Jx4a65c_get_915e3 S7 b10 x3 (fun (b13 : Nat) (S14 : St) => ok S14 b13 3 ∧ (((¬ (sI S14 b13 6) = 112) → wl_X1_takeDownMisplaced_4 f n S14 a0 a1 x2 (x3 + 1)) ∧ (((sI S14 b13 6) = 112) → ok S14 a0 2 ∧ w_X1_standsWhereItHangs S14 a0 b13 a1 (fun (r18 : Int32) (S19 : St) => (((¬ r18 = 0) → wl_X1_takeDownMisplaced_4 f n S19 a0 a1 x2 (x3 + 1)) ∧ ((r18 = 0) → ok S19 b13 3 ∧ let S22 : St := setI S19 b13 6 119; wl_X1_takeDownMisplaced_4 f n S22 a0 a1 (x2 + 1) (x3 + 1))))))))))
def w_X1_takeDownMisplaced (S : St) (a0 : Nat) (a1 : Nat) (f : Int32 → St → Prop) : Prop := (∃ m : Nat, wl_X1_takeDownMisplaced_4 f m S a0 a1 0 0)
set_option maxRecDepth 100000 in
set_option maxHeartbeats 4000000 in
theorem c_X1_takeDownMisplaced (l : Launch) (S : St) (a0 : Nat) (a1 : Nat) (f : Int32 → St → Prop) (hw : w_X1_takeDownMisplaced S a0 a1 f) : Ct l yX1_takeDownMisplaced (Cond.code yX1_takeDownMisplaced cX1_takeDownMisplaced 5 (some .int)) { frames := 5, cells := 0, slots := 0, locals := 109 } 0 0 S [.ref a0, .ref a1] (pI f) nox := by
  refine entry (by decide +kernel) rfl rfl (by first | decide | exact nl rfl) rfl ?_
  intro X h hq
  have L4 : ∀ (n : Nat) (S : St) (a0 : Nat) (a1 : Nat) (x2 : Int32) (x3 : Int32), wl_X1_takeDownMisplaced_4 f n S a0 a1 x2 x3 → pw X 0 0 S 4 [(0, .ref a0), (1, .ref a1), (2, .int x2), (3, .int x3)] [] := by
    intro n
    induction n with
    | zero => intro S a0 a1 x2 x3 hw; exact hw.elim
    | succ n ih =>
      intro S a0 a1 x2 x3 hw
      unfold wl_X1_takeDownMisplaced_4 at hw
      refine r_iload_n h 3 rfl rfl dX1_takeDownMisplaced_4 ?_
      refine r_aload_n h 0 rfl rfl dX1_takeDownMisplaced_5 ?_
      obtain ⟨h2, hw⟩ := hw
      obtain ⟨b3, h4, hw⟩ := hw
      refine r_getr h kci2 in2 (k := 0) (by decide) rfl rfl q152 h2 h4 dX1_takeDownMisplaced_6 ?_
      obtain ⟨h5, hw⟩ := hw
      refine r_callV h (fun l => c_Jx4a65c_size_8abf5 l _ _ _ hw) q258 q239 q240 q59 q241 nd_Jx4a65c_size_8abf5 ⟨by decide, by decide⟩ rfl rfl ⟨by decide, by decide⟩ kci0 rfl h5 rfl (by first | decide | exact nl rfl) rfl dX1_takeDownMisplaced_9 nxk (kI fun r6 S7 hw => ?_)
      refine r_icmp_ge h 64 dX1_takeDownMisplaced_12 (by decide) (fun hc => ?_) (fun hc => ?_)
      · replace hw := hw.1 hc
        refine r_iload_n h 2 rfl rfl dX1_takeDownMisplaced_64 ?_
        exact r_iret h hq rfl ⟨_, rfl, hw⟩ (by decide) (by decide) dX1_takeDownMisplaced_65
      · replace hw := hw.2 hc
        refine r_aload_n h 0 rfl rfl dX1_takeDownMisplaced_15 ?_
        obtain ⟨h9, hw⟩ := hw
        obtain ⟨b10, h11, hw⟩ := hw
        refine r_getr h kci2 in2 (k := 0) (by decide) rfl rfl q152 h9 h11 dX1_takeDownMisplaced_16 ?_
        refine r_iload_n h 3 rfl rfl dX1_takeDownMisplaced_19 ?_
        obtain ⟨h12, hw⟩ := hw
        refine r_callV h (fun l => c_Jx4a65c_get_915e3 l _ _ _ _ hw) q259 q260 q261 q59 q262 nd_Jx4a65c_get_915e3 ⟨by decide, by decide⟩ rfl rfl ⟨by decide, by decide⟩ kci0 rfl h12 rfl (by first | decide | exact nl rfl) rfl dX1_takeDownMisplaced_20 nxk (kA fun b13 S14 hw => ?_)
        obtain ⟨h16, hw⟩ := hw
        refine r_castS h kci3 q273 h16 dX1_takeDownMisplaced_23 ?_
        refine r_astore h [1, 2, 3, 4, 0] (by decide) rfl dX1_takeDownMisplaced_26 ?_
        refine r_aload h 4 rfl dX1_takeDownMisplaced_28 ?_
        refine r_getiN h kci3 in3 (k := 6) (by decide) rfl rfl n881 h16 dX1_takeDownMisplaced_30 ?_
        refine r_bipush h (v := 112) (by decide) dX1_takeDownMisplaced_33 ?_
        refine r_icmp_ne h 58 dX1_takeDownMisplaced_35 (by decide) (fun hc => ?_) (fun hc => ?_)
        · replace hw := hw.1 hc
          refine r_iinc h (j := 3) (v := (x3 + 1)) [1, 2, 3, 0, 4] rfl rfl (by decide) rfl dX1_takeDownMisplaced_58 ?_
          refine r_goto h 4 dX1_takeDownMisplaced_61 (by decide) ?_
          refine r_vs [0, 1, 2, 3] rfl ?_
          exact ih _ _ _ _ _ hw
        · replace hw := hw.2 hc
          refine r_aload_n h 0 rfl rfl dX1_takeDownMisplaced_38 ?_
          refine r_aload h 4 rfl dX1_takeDownMisplaced_39 ?_
          refine r_aload_n h 1 rfl rfl dX1_takeDownMisplaced_41 ?_
          obtain ⟨h17, hw⟩ := hw
          refine r_callV h (fun l => c_X1_standsWhereItHangs l _ _ _ _ _ hw) q297 q299 q0 q61 q300 nd_X1_standsWhereItHangs ⟨by decide, by decide⟩ rfl rfl ⟨by decide, by decide⟩ kci2 rfl h17 rfl (by first | decide | exact nl rfl) rfl dX1_takeDownMisplaced_42 nxk (kI fun r18 S19 hw => ?_)
          refine r_if_ne h 58 dX1_takeDownMisplaced_45 (by decide) (fun hc => ?_) (fun hc => ?_)
          · replace hw := hw.1 hc
            refine r_iinc h (j := 3) (v := (x3 + 1)) [1, 2, 3, 0, 4] rfl rfl (by decide) rfl dX1_takeDownMisplaced_58 ?_
            refine r_goto h 4 dX1_takeDownMisplaced_61 (by decide) ?_
            refine r_vs [0, 1, 2, 3] rfl ?_
            exact ih _ _ _ _ _ hw
          · replace hw := hw.2 hc
            refine r_aload h 4 rfl dX1_takeDownMisplaced_48 ?_
            refine r_bipush h (v := 119) (by decide) dX1_takeDownMisplaced_50 ?_
            obtain ⟨h21, hw⟩ := hw
            refine r_putiN h kci3 in3 tyX2_ok nmX2 (k := 6) (by decide) rfl rfl rfl rfl rfl rfl n881 h21 dX1_takeDownMisplaced_52 ?_
            refine r_iinc h (j := 2) (v := (x2 + 1)) [1, 2, 0, 3, 4] rfl rfl (by decide) rfl dX1_takeDownMisplaced_55 ?_
            refine r_iinc h (j := 3) (v := (x3 + 1)) [1, 2, 3, 0, 4] rfl rfl (by decide) rfl dX1_takeDownMisplaced_58 ?_
            refine r_goto h 4 dX1_takeDownMisplaced_61 (by decide) ?_
            refine r_vs [0, 1, 2, 3] rfl ?_
            exact ih _ _ _ _ _ hw
  unfold w_X1_takeDownMisplaced at hw
  refine r_iconst h (v := 0) (by decide) dX1_takeDownMisplaced_0 ?_
  refine r_istore_n h [1, 2, 0] rfl (by decide) rfl dX1_takeDownMisplaced_1 ?_
  refine r_iconst h (v := 0) (by decide) dX1_takeDownMisplaced_2 ?_
  refine r_istore_n h [1, 2, 3, 0] rfl (by decide) rfl dX1_takeDownMisplaced_3 ?_
  obtain ⟨m, hw⟩ := hw
  exact L4 m _ _ _ _ _ hw

def w_X8_isFrom (S : St) (a0 : Nat) (a1 : Nat) (f : Int32 → St → Prop) : Prop := ok S a0 9 ∧ ((sP S a0 6 = none → f 0 S) ∧ (∀ b3 : Nat, sP S a0 6 = some b3 → ok S b3 5 ∧ ok S a1 5 ∧ (((¬ (sI S b3 0) = (sI S a1 0)) → f 0 S) ∧ (((sI S b3 0) = (sI S a1 0)) → f 1 S))))
set_option maxRecDepth 100000 in
set_option maxHeartbeats 4000000 in
theorem c_X8_isFrom (l : Launch) (S : St) (a0 : Nat) (a1 : Nat) (f : Int32 → St → Prop) (hw : w_X8_isFrom S a0 a1 f) : Ct l yX8_isFrom (Cond.code yX8_isFrom cX8_isFrom 2 (some .boolean)) { frames := 0, cells := 0, slots := 0, locals := 0 } 0 0 S [.ref a0, .ref a1] (pI f) nox := by
  refine entry (by decide +kernel) rfl rfl (by first | decide | exact nl rfl) rfl ?_
  intro X h hq
  unfold w_X8_isFrom at hw
  refine r_aload_n h 0 rfl rfl dX8_isFrom_0 ?_
  obtain ⟨h1, hw⟩ := hw
  obtain ⟨hw1, hw2⟩ := hw
  rcases h2 : sP _ a0 6 with _ | b3
  · replace hw := hw1 h2
    refine r_getr0 h kci9 in9 (k := 6) (by decide) rfl rfl q778 h1 h2 dX8_isFrom_1 ?_
    refine r_ifnull_N h 25 dX8_isFrom_4 (by decide) ?_
    refine r_iconst h (v := 0) (by decide) dX8_isFrom_25 ?_
    exact r_zret h hq (ty := .boolean) rfl rfl ⟨_, rfl, hw⟩ (by decide) (by decide) dX8_isFrom_26
  · replace hw := hw2 b3 h2
    refine r_getr h kci9 in9 (k := 6) (by decide) rfl rfl q778 h1 h2 dX8_isFrom_1 ?_
    refine r_ifnull_R h dX8_isFrom_4 ?_
    refine r_aload_n h 0 rfl rfl dX8_isFrom_7 ?_
    refine r_getr h kci9 in9 (k := 6) (by decide) rfl rfl q778 h1 h2 dX8_isFrom_8 ?_
    obtain ⟨h4, hw⟩ := hw
    refine r_getiN h kci5 in5 (k := 0) (by decide) rfl rfl n731 h4 dX8_isFrom_11 ?_
    refine r_aload_n h 1 rfl rfl dX8_isFrom_14 ?_
    obtain ⟨h5, hw⟩ := hw
    refine r_getiN h kci5 in5 (k := 0) (by decide) rfl rfl n731 h5 dX8_isFrom_15 ?_
    refine r_icmp_ne h 25 dX8_isFrom_18 (by decide) (fun hc => ?_) (fun hc => ?_)
    · replace hw := hw.1 hc
      refine r_iconst h (v := 0) (by decide) dX8_isFrom_25 ?_
      exact r_zret h hq (ty := .boolean) rfl rfl ⟨_, rfl, hw⟩ (by decide) (by decide) dX8_isFrom_26
    · replace hw := hw.2 hc
      refine r_iconst h (v := 1) (by decide) dX8_isFrom_21 ?_
      refine r_goto h 26 dX8_isFrom_22 (by decide) ?_
      exact r_zret h hq (ty := .boolean) rfl rfl ⟨_, rfl, hw⟩ (by decide) (by decide) dX8_isFrom_26

def w_X3_init (S : St) (a0 : Nat) (f : St → Prop) : Prop := ∀ q1 : Nat, q1 ∉ sL S → let S3 : St := newO S q1 0; w_Jx4a65c_init_da8c8 S3 q1 (fun (S5 : St) => ok S5 a0 4 ∧ let S8 : St := setP S5 a0 0 (some q1); f S8)
set_option maxRecDepth 100000 in
set_option maxHeartbeats 4000000 in
theorem c_X3_init (l : Launch) (S : St) (a0 : Nat) (f : St → Prop) (hw : w_X3_init S a0 f) : Ct l yX3_init (Cond.code yX3_init cX3_init 1 none) { frames := 4, cells := 1, slots := 3, locals := 72 } 1 3 S [.ref a0] (pV f) nox := by
  refine entry (by decide +kernel) rfl rfl (by first | decide | exact nl rfl) rfl ?_
  intro X h hq
  unfold w_X3_init at hw
  refine r_aload_n h 0 rfl rfl dX3_init_0 ?_
  refine r_objInit h q99 q92 q93 (by first | decide | exact nl rfl) (by first | decide | exact nl rfl) dX3_init_1 ?_
  refine r_aload_n h 0 rfl rfl dX3_init_4 ?_
  refine r_new h kci0 in0 tyJx4a65c_ok df0 q100 q101 q59 (by first | decide | exact nl rfl) (by first | decide | exact nl rfl) dX3_init_5 (fun q1 h2 => ?_)
  replace hw := hw q1 h2
  refine r_dup h rfl dX3_init_8 ?_
  refine r_callI h (fun l => c_Jx4a65c_init_da8c8 l _ _ _ hw) q102 q103 q59 q104 nd_Jx4a65c_init_da8c8 rfl ⟨by decide, by decide⟩ rfl rfl ⟨by decide, by decide⟩ (as := []) rfl (by first | decide | exact nl rfl) rfl dX3_init_9 nxk (kV fun  S5 hw => ?_)
  obtain ⟨h7, hw⟩ := hw
  refine r_putrF h (v := (some q1)) rfl kci4 in4 tyX3_ok nmX3 (k := 0) (by decide) rfl rfl rfl rfl rfl rfl rfl rfl q126 h7 dX3_init_12 ?_
  exact r_vret h hq rfl ⟨rfl, hw⟩ (by decide) (by decide) dX3_init_15

def w_X7_init (S : St) (a0 : Nat) (f : St → Prop) : Prop := ∀ q1 : Nat, q1 ∉ sL S → let S3 : St := newA S q1 100 144; ok S3 a0 8 ∧ let S6 : St := setP S3 a0 0 (some q1); f S6
set_option maxRecDepth 100000 in
set_option maxHeartbeats 4000000 in
theorem c_X7_init (l : Launch) (S : St) (a0 : Nat) (f : St → Prop) (hw : w_X7_init S a0 f) : Ct l yX7_init (Cond.code yX7_init cX7_init 1 none) { frames := 1, cells := 1, slots := 144, locals := 12 } 1 144 S [.ref a0] (pV f) nox := by
  refine entry (by decide +kernel) rfl rfl (by first | decide | exact nl rfl) rfl ?_
  intro X h hq
  unfold w_X7_init at hw
  refine r_aload_n h 0 rfl rfl dX7_init_0 ?_
  refine r_objInit h q138 q92 q93 (by first | decide | exact nl rfl) (by first | decide | exact nl rfl) dX7_init_1 ?_
  refine r_aload_n h 0 rfl rfl dX7_init_4 ?_
  refine r_sipush h (v := 144) (by decide) dX7_init_5 ?_
  refine r_newC h (N := 144) q143 (by first | decide | exact nl rfl) (by first | decide | exact nl rfl) (by first | decide | exact nl rfl) (by first | decide | exact nl rfl) (by first | decide | exact nl rfl) dX7_init_8 (fun q1 h2 => ?_)
  replace hw := hw q1 h2
  obtain ⟨h5, hw⟩ := hw
  refine r_putrF h (v := (some q1)) rfl kci8 in8 tyX7_ok nmX7 (k := 0) (by decide) rfl rfl rfl rfl rfl rfl rfl rfl q139 h5 dX7_init_10 ?_
  exact r_vret h hq rfl ⟨rfl, hw⟩ (by decide) (by decide) dX7_init_13

def w_X1_init (S : St) (a0 : Nat) (f : St → Prop) : Prop := ∀ q1 : Nat, q1 ∉ sL S → let S3 : St := newO S q1 0; w_Jx4a65c_init_da8c8 S3 q1 (fun (S5 : St) => ok S5 a0 2 ∧ let S8 : St := setP S5 a0 0 (some q1); f S8)
set_option maxRecDepth 100000 in
set_option maxHeartbeats 4000000 in
theorem c_X1_init (l : Launch) (S : St) (a0 : Nat) (f : St → Prop) (hw : w_X1_init S a0 f) : Ct l yX1_init (Cond.code yX1_init cX1_init 1 none) { frames := 4, cells := 1, slots := 3, locals := 72 } 1 3 S [.ref a0] (pV f) nox := by
  refine entry (by decide +kernel) rfl rfl (by first | decide | exact nl rfl) rfl ?_
  intro X h hq
  unfold w_X1_init at hw
  refine r_aload_n h 0 rfl rfl dX1_init_0 ?_
  refine r_objInit h q149 q92 q93 (by first | decide | exact nl rfl) (by first | decide | exact nl rfl) dX1_init_1 ?_
  refine r_aload_n h 0 rfl rfl dX1_init_4 ?_
  refine r_new h kci0 in0 tyJx4a65c_ok df0 q150 q101 q59 (by first | decide | exact nl rfl) (by first | decide | exact nl rfl) dX1_init_5 (fun q1 h2 => ?_)
  replace hw := hw q1 h2
  refine r_dup h rfl dX1_init_8 ?_
  refine r_callI h (fun l => c_Jx4a65c_init_da8c8 l _ _ _ hw) q151 q103 q59 q104 nd_Jx4a65c_init_da8c8 rfl ⟨by decide, by decide⟩ rfl rfl ⟨by decide, by decide⟩ (as := []) rfl (by first | decide | exact nl rfl) rfl dX1_init_9 nxk (kV fun  S5 hw => ?_)
  obtain ⟨h7, hw⟩ := hw
  refine r_putrF h (v := (some q1)) rfl kci2 in2 tyX1_ok nmX1 (k := 0) (by decide) rfl rfl rfl rfl rfl rfl rfl rfl q152 h7 dX1_init_12 ?_
  exact r_vret h hq rfl ⟨rfl, hw⟩ (by decide) (by decide) dX1_init_15

def wl_X2_insuredSum_4 (f : Int64 → St → Prop) : Nat → St → Nat → Int64 → Int32 → Prop
  | 0, _, _, _, _ => False
  | n + 1, S, a0, x1, x3 => ok S a0 3 ∧ ∃ b3 : Nat, sP S a0 4 = some b3 ∧ ok S b3 0 ∧ w_Jx4a65c_size_8abf5 S b3 (fun (r6 : Int32) (S7 : St) => (((r6 ≤ x3) → f x1 S7) ∧ ((¬ r6 ≤ x3) → ok S7 a0 3 ∧ ∃ b10 : Nat, sP S7 a0 4 = some b10 ∧ ok S7 b10 0 ∧ w_Jx4a65c_get_915e3 S7 b10 x3 (fun (b13 : Nat) (S14 : St) => ok S14 b13 9 ∧ ((sP S14 b13 6 = none → wl_X2_insuredSum_4 f n S14 a0 x1 (x3 + 1)) ∧ (∀ b18 : Nat, sP S14 b13 6 = some b18 → ok S14 a0 3 ∧ w_X2_days S14 a0 (fun (r20 : Int32) (S21 : St) => ok S21 b13 9 ∧ w_X8_travelDays S21 b13 (fun (r24 : Int32) (S25 : St) => wl_X2_insuredSum_4 f n S25 a0 (x1 + ((Int32.toInt64 (sI S14 b13 5)) * (Int32.toInt64 (r20 + (2 * r24))))) (x3 + 1)))))))))
def w_X2_insuredSum (S : St) (a0 : Nat) (f : Int64 → St → Prop) : Prop := (∃ m : Nat, wl_X2_insuredSum_4 f m S a0 0 0)
set_option maxRecDepth 100000 in
set_option maxHeartbeats 4000000 in
theorem c_X2_insuredSum (l : Launch) (S : St) (a0 : Nat) (f : Int64 → St → Prop) (hw : w_X2_insuredSum S a0 f) : Ct l yX2_insuredSum (Cond.code yX2_insuredSum cX2_insuredSum 5 (some .long)) { frames := 3, cells := 0, slots := 0, locals := 64 } 0 0 S [.ref a0] (pJ f) nox := by
  refine entry (by decide +kernel) rfl rfl (by first | decide | exact nl rfl) rfl ?_
  intro X h hq
  have L4 : ∀ (n : Nat) (S : St) (a0 : Nat) (x1 : Int64) (x3 : Int32), wl_X2_insuredSum_4 f n S a0 x1 x3 → pw X 0 0 S 4 [(0, .ref a0), (1, .long x1), (3, .int x3)] [] := by
    intro n
    induction n with
    | zero => intro S a0 x1 x3 hw; exact hw.elim
    | succ n ih =>
      intro S a0 x1 x3 hw
      unfold wl_X2_insuredSum_4 at hw
      refine r_iload_n h 2 rfl rfl dX2_insuredSum_4 ?_
      refine r_aload_n h 0 rfl rfl dX2_insuredSum_5 ?_
      obtain ⟨h2, hw⟩ := hw
      obtain ⟨b3, h4, hw⟩ := hw
      refine r_getr h kci3 in3 (k := 4) (by decide) rfl rfl q872 h2 h4 dX2_insuredSum_6 ?_
      obtain ⟨h5, hw⟩ := hw
      refine r_callV h (fun l => c_Jx4a65c_size_8abf5 l _ _ _ hw) q278 q239 q240 q59 q241 nd_Jx4a65c_size_8abf5 ⟨by decide, by decide⟩ rfl rfl ⟨by decide, by decide⟩ kci0 rfl h5 rfl (by first | decide | exact nl rfl) rfl dX2_insuredSum_9 nxk (kI fun r6 S7 hw => ?_)
      refine r_icmp_ge h 65 dX2_insuredSum_12 (by decide) (fun hc => ?_) (fun hc => ?_)
      · replace hw := hw.1 hc
        refine r_lload_n h 1 rfl rfl dX2_insuredSum_65 ?_
        exact r_lret h hq rfl ⟨_, rfl, hw⟩ (by decide) (by decide) dX2_insuredSum_66
      · replace hw := hw.2 hc
        refine r_aload_n h 0 rfl rfl dX2_insuredSum_15 ?_
        obtain ⟨h9, hw⟩ := hw
        obtain ⟨b10, h11, hw⟩ := hw
        refine r_getr h kci3 in3 (k := 4) (by decide) rfl rfl q872 h9 h11 dX2_insuredSum_16 ?_
        refine r_iload_n h 2 rfl rfl dX2_insuredSum_19 ?_
        obtain ⟨h12, hw⟩ := hw
        refine r_callV h (fun l => c_Jx4a65c_get_915e3 l _ _ _ _ hw) q279 q260 q261 q59 q262 nd_Jx4a65c_get_915e3 ⟨by decide, by decide⟩ rfl rfl ⟨by decide, by decide⟩ kci0 rfl h12 rfl (by first | decide | exact nl rfl) rfl dX2_insuredSum_20 nxk (kA fun b13 S14 hw => ?_)
        obtain ⟨h16, hw⟩ := hw
        refine r_castS h kci9 q280 h16 dX2_insuredSum_23 ?_
        refine r_astore h [1, 2, 3, 0] (by decide) rfl dX2_insuredSum_26 ?_
        refine r_aload h 3 rfl dX2_insuredSum_28 ?_
        obtain ⟨hw1, hw2⟩ := hw
        rcases h17 : sP _ b13 6 with _ | b18
        · replace hw := hw1 h17
          refine r_getr0N h kci9 in9 (k := 6) (by decide) rfl rfl n779 h16 h17 dX2_insuredSum_30 ?_
          refine r_ifnull_N h 59 dX2_insuredSum_33 (by decide) ?_
          refine r_iinc h (j := 2) (v := (x3 + 1)) [1, 2, 0, 3] rfl rfl (by decide) rfl dX2_insuredSum_59 ?_
          refine r_goto h 4 dX2_insuredSum_62 (by decide) ?_
          refine r_vs [0, 1, 2] rfl ?_
          exact ih _ _ _ _ hw
        · replace hw := hw2 b18 h17
          refine r_getrN h kci9 in9 (k := 6) (by decide) rfl rfl n779 h16 h17 dX2_insuredSum_30 ?_
          refine r_ifnull_R h dX2_insuredSum_33 ?_
          refine r_lload_n h 1 rfl rfl dX2_insuredSum_36 ?_
          refine r_aload h 3 rfl dX2_insuredSum_37 ?_
          refine r_getiN h kci9 in9 (k := 5) (by decide) rfl rfl n777 h16 dX2_insuredSum_39 ?_
          refine r_i2l h dX2_insuredSum_42 ?_
          refine r_aload_n h 0 rfl rfl dX2_insuredSum_43 ?_
          obtain ⟨h19, hw⟩ := hw
          refine r_callV h (fun l => c_X2_days l _ _ _ hw) q281 q282 q283 q82 q284 nd_X2_days ⟨by decide, by decide⟩ rfl rfl ⟨by decide, by decide⟩ kci3 rfl h19 rfl (by first | decide | exact nl rfl) rfl dX2_insuredSum_44 nxk (kI fun r20 S21 hw => ?_)
          refine r_iconst h (v := 2) (by decide) dX2_insuredSum_47 ?_
          refine r_aload h 3 rfl dX2_insuredSum_48 ?_
          obtain ⟨h23, hw⟩ := hw
          refine r_callV h (fun l => c_X8_travelDays l _ _ _ hw) q285 q286 q287 q81 q288 nd_X8_travelDays ⟨by decide, by decide⟩ rfl rfl ⟨by decide, by decide⟩ kci9 rfl h23 rfl (by first | decide | exact nl rfl) rfl dX2_insuredSum_50 nxk (kI fun r24 S25 hw => ?_)
          refine r_imul h dX2_insuredSum_53 ?_
          refine r_iadd h dX2_insuredSum_54 ?_
          refine r_i2l h dX2_insuredSum_55 ?_
          refine r_lmul h dX2_insuredSum_56 ?_
          refine r_ladd h dX2_insuredSum_57 ?_
          refine r_lstore_n h [1, 0, 2] rfl (by decide) rfl dX2_insuredSum_58 ?_
          refine r_iinc h (j := 2) (v := (x3 + 1)) [1, 2, 0] rfl rfl (by decide) rfl dX2_insuredSum_59 ?_
          refine r_goto h 4 dX2_insuredSum_62 (by decide) ?_
          exact ih _ _ _ _ hw
  unfold w_X2_insuredSum at hw
  refine r_lconst h (v := 0) (by decide) dX2_insuredSum_0 ?_
  refine r_lstore_n h [1, 0] rfl (by decide) rfl dX2_insuredSum_1 ?_
  refine r_iconst h (v := 0) (by decide) dX2_insuredSum_2 ?_
  refine r_istore_n h [1, 2, 0] rfl (by decide) rfl dX2_insuredSum_3 ?_
  obtain ⟨m, hw⟩ := hw
  exact L4 m _ _ _ _ hw

def wl_X1_insuredSum_4 (f : Int64 → St → Prop) : Nat → St → Nat → Int64 → Int32 → Prop
  | 0, _, _, _, _ => False
  | n + 1, S, a0, x1, x3 => ok S a0 2 ∧ ∃ b3 : Nat, sP S a0 0 = some b3 ∧ ok S b3 0 ∧ w_Jx4a65c_size_8abf5 S b3 (fun (r6 : Int32) (S7 : St) => (((r6 ≤ x3) → f x1 S7) ∧ ((¬ r6 ≤ x3) → ok S7 a0 2 ∧ ∃ b10 : Nat, sP S7 a0 0 = some b10 ∧ ok S7 b10 0 ∧ w_Jx4a65c_get_915e3 S7 b10 x3 (fun (b13 : Nat) (S14 : St) => ok S14 b13 3 ∧ (((¬ (sI S14 b13 6) = 112) → wl_X1_insuredSum_4 f n S14 a0 x1 (x3 + 1)) ∧ (((sI S14 b13 6) = 112) → ok S14 a0 2 ∧ ∃ b18 : Nat, sP S14 a0 0 = some b18 ∧ ok S14 b18 0 ∧ w_Jx4a65c_get_915e3 S14 b18 x3 (fun (b21 : Nat) (S22 : St) => ok S22 b21 3 ∧ w_X2_insuredSum S22 b21 (fun (r25 : Int64) (S26 : St) => wl_X1_insuredSum_4 f n S26 a0 (x1 + r25) (x3 + 1)))))))))
def w_X1_insuredSum (S : St) (a0 : Nat) (f : Int64 → St → Prop) : Prop := (∃ m : Nat, wl_X1_insuredSum_4 f m S a0 0 0)
set_option maxRecDepth 100000 in
set_option maxHeartbeats 4000000 in
theorem c_X1_insuredSum (l : Launch) (S : St) (a0 : Nat) (f : Int64 → St → Prop) (hw : w_X1_insuredSum S a0 f) : Ct l yX1_insuredSum (Cond.code yX1_insuredSum cX1_insuredSum 4 (some .long)) { frames := 4, cells := 0, slots := 0, locals := 88 } 0 0 S [.ref a0] (pJ f) nox := by
  refine entry (by decide +kernel) rfl rfl (by first | decide | exact nl rfl) rfl ?_
  intro X h hq
  have L4 : ∀ (n : Nat) (S : St) (a0 : Nat) (x1 : Int64) (x3 : Int32), wl_X1_insuredSum_4 f n S a0 x1 x3 → pw X 0 0 S 4 [(0, .ref a0), (1, .long x1), (3, .int x3)] [] := by
    intro n
    induction n with
    | zero => intro S a0 x1 x3 hw; exact hw.elim
    | succ n ih =>
      intro S a0 x1 x3 hw
      unfold wl_X1_insuredSum_4 at hw
      refine r_iload_n h 2 rfl rfl dX1_insuredSum_4 ?_
      refine r_aload_n h 0 rfl rfl dX1_insuredSum_5 ?_
      obtain ⟨h2, hw⟩ := hw
      obtain ⟨b3, h4, hw⟩ := hw
      refine r_getr h kci2 in2 (k := 0) (by decide) rfl rfl q152 h2 h4 dX1_insuredSum_6 ?_
      obtain ⟨h5, hw⟩ := hw
      refine r_callV h (fun l => c_Jx4a65c_size_8abf5 l _ _ _ hw) q258 q239 q240 q59 q241 nd_Jx4a65c_size_8abf5 ⟨by decide, by decide⟩ rfl rfl ⟨by decide, by decide⟩ kci0 rfl h5 rfl (by first | decide | exact nl rfl) rfl dX1_insuredSum_9 nxk (kI fun r6 S7 hw => ?_)
      refine r_icmp_ge h 57 dX1_insuredSum_12 (by decide) (fun hc => ?_) (fun hc => ?_)
      · replace hw := hw.1 hc
        refine r_lload_n h 1 rfl rfl dX1_insuredSum_57 ?_
        exact r_lret h hq rfl ⟨_, rfl, hw⟩ (by decide) (by decide) dX1_insuredSum_58
      · replace hw := hw.2 hc
        refine r_aload_n h 0 rfl rfl dX1_insuredSum_15 ?_
        obtain ⟨h9, hw⟩ := hw
        obtain ⟨b10, h11, hw⟩ := hw
        refine r_getr h kci2 in2 (k := 0) (by decide) rfl rfl q152 h9 h11 dX1_insuredSum_16 ?_
        refine r_iload_n h 2 rfl rfl dX1_insuredSum_19 ?_
        obtain ⟨h12, hw⟩ := hw
        refine r_callV h (fun l => c_Jx4a65c_get_915e3 l _ _ _ _ hw) q259 q260 q261 q59 q262 nd_Jx4a65c_get_915e3 ⟨by decide, by decide⟩ rfl rfl ⟨by decide, by decide⟩ kci0 rfl h12 rfl (by first | decide | exact nl rfl) rfl dX1_insuredSum_20 nxk (kA fun b13 S14 hw => ?_)
        obtain ⟨h16, hw⟩ := hw
        refine r_castS h kci3 q273 h16 dX1_insuredSum_23 ?_
        refine r_getiN h kci3 in3 (k := 6) (by decide) rfl rfl n881 h16 dX1_insuredSum_26 ?_
        refine r_bipush h (v := 112) (by decide) dX1_insuredSum_29 ?_
        refine r_icmp_ne h 51 dX1_insuredSum_31 (by decide) (fun hc => ?_) (fun hc => ?_)
        · replace hw := hw.1 hc
          refine r_iinc h (j := 2) (v := (x3 + 1)) [1, 2, 0] rfl rfl (by decide) rfl dX1_insuredSum_51 ?_
          refine r_goto h 4 dX1_insuredSum_54 (by decide) ?_
          exact ih _ _ _ _ hw
        · replace hw := hw.2 hc
          refine r_lload_n h 1 rfl rfl dX1_insuredSum_34 ?_
          refine r_aload_n h 0 rfl rfl dX1_insuredSum_35 ?_
          obtain ⟨h17, hw⟩ := hw
          obtain ⟨b18, h19, hw⟩ := hw
          refine r_getr h kci2 in2 (k := 0) (by decide) rfl rfl q152 h17 h19 dX1_insuredSum_36 ?_
          refine r_iload_n h 2 rfl rfl dX1_insuredSum_39 ?_
          obtain ⟨h20, hw⟩ := hw
          refine r_callV h (fun l => c_Jx4a65c_get_915e3 l _ _ _ _ hw) q259 q260 q261 q59 q262 nd_Jx4a65c_get_915e3 ⟨by decide, by decide⟩ rfl rfl ⟨by decide, by decide⟩ kci0 rfl h20 rfl (by first | decide | exact nl rfl) rfl dX1_insuredSum_40 nxk (kA fun b21 S22 hw => ?_)
          obtain ⟨h24, hw⟩ := hw
          refine r_castS h kci3 q273 h24 dX1_insuredSum_43 ?_
          refine r_callV h (fun l => c_X2_insuredSum l _ _ _ hw) q274 q275 q276 q82 q277 nd_X2_insuredSum ⟨by decide, by decide⟩ rfl rfl ⟨by decide, by decide⟩ kci3 rfl h24 rfl (by first | decide | exact nl rfl) rfl dX1_insuredSum_46 nxk (kJ fun r25 S26 hw => ?_)
          refine r_ladd h dX1_insuredSum_49 ?_
          refine r_lstore_n h [1, 0, 2] rfl (by decide) rfl dX1_insuredSum_50 ?_
          refine r_iinc h (j := 2) (v := (x3 + 1)) [1, 2, 0] rfl rfl (by decide) rfl dX1_insuredSum_51 ?_
          refine r_goto h 4 dX1_insuredSum_54 (by decide) ?_
          exact ih _ _ _ _ hw
  unfold w_X1_insuredSum at hw
  refine r_lconst h (v := 0) (by decide) dX1_insuredSum_0 ?_
  refine r_lstore_n h [1, 0] rfl (by decide) rfl dX1_insuredSum_1 ?_
  refine r_iconst h (v := 0) (by decide) dX1_insuredSum_2 ?_
  refine r_istore_n h [1, 2, 0] rfl (by decide) rfl dX1_insuredSum_3 ?_
  obtain ⟨m, hw⟩ := hw
  exact L4 m _ _ _ _ hw

def wl_X1_keepsApart_2 (f : Int32 → St → Prop) : Nat → St → Nat → Nat → Nat → Int32 → Prop
  | 0, _, _, _, _, _ => False
  | n + 1, S, a0, a1, a2, x3 => ok S a1 3 ∧ ∃ b3 : Nat, sP S a1 4 = some b3 ∧ ok S b3 0 ∧ w_Jx4a65c_size_8abf5 S b3 (fun (r6 : Int32) (S7 : St) => (((r6 ≤ x3) → f 1 S7) ∧ ((¬ r6 ≤ x3) → ok S7 a1 3 ∧ ∃ b10 : Nat, sP S7 a1 4 = some b10 ∧ ok S7 b10 0 ∧ w_Jx4a65c_get_915e3 S7 b10 x3 (fun (b13 : Nat) (S14 : St) => ok S14 b13 9 ∧ ok S14 a1 3 ∧ ∃ b18 : Nat, sP S14 a1 5 = some b18 ∧ w_X9_numberAt S14 b18 x3 (fun (r20 : Int32) (S21 : St) => ok S21 a0 2 ∧ w_X1_isAgainst S21 a0 a2 a1 b13 r20 (fun (r24 : Int32) (S25 : St) => (((r24 = 0) → wl_X1_keepsApart_2 f n S25 a0 a1 a2 (x3 + 1)) ∧ ((¬ r24 = 0) → f 0 S25))))))))
def w_X1_keepsApart (S : St) (a0 : Nat) (a1 : Nat) (a2 : Nat) (f : Int32 → St → Prop) : Prop := (∃ m : Nat, wl_X1_keepsApart_2 f m S a0 a1 a2 0)
set_option maxRecDepth 100000 in
set_option maxHeartbeats 4000000 in
theorem c_X1_keepsApart (l : Launch) (S : St) (a0 : Nat) (a1 : Nat) (a2 : Nat) (f : Int32 → St → Prop) (hw : w_X1_keepsApart S a0 a1 a2 f) : Ct l yX1_keepsApart (Cond.code yX1_keepsApart cX1_keepsApart 4 (some .boolean)) { frames := 4, cells := 0, slots := 0, locals := 92 } 0 0 S [.ref a0, .ref a1, .ref a2] (pI f) nox := by
  refine entry (by decide +kernel) rfl rfl (by first | decide | exact nl rfl) rfl ?_
  intro X h hq
  have L2 : ∀ (n : Nat) (S : St) (a0 : Nat) (a1 : Nat) (a2 : Nat) (x3 : Int32), wl_X1_keepsApart_2 f n S a0 a1 a2 x3 → pw X 0 0 S 2 [(0, .ref a0), (1, .ref a1), (2, .ref a2), (3, .int x3)] [] := by
    intro n
    induction n with
    | zero => intro S a0 a1 a2 x3 hw; exact hw.elim
    | succ n ih =>
      intro S a0 a1 a2 x3 hw
      unfold wl_X1_keepsApart_2 at hw
      refine r_iload_n h 3 rfl rfl dX1_keepsApart_2 ?_
      refine r_aload_n h 1 rfl rfl dX1_keepsApart_3 ?_
      obtain ⟨h2, hw⟩ := hw
      obtain ⟨b3, h4, hw⟩ := hw
      refine r_getrN h kci3 in3 (k := 4) (by decide) rfl rfl n875 h2 h4 dX1_keepsApart_4 ?_
      obtain ⟨h5, hw⟩ := hw
      refine r_callV h (fun l => c_Jx4a65c_size_8abf5 l _ _ _ hw) q258 q239 q240 q59 q241 nd_Jx4a65c_size_8abf5 ⟨by decide, by decide⟩ rfl rfl ⟨by decide, by decide⟩ kci0 rfl h5 rfl (by first | decide | exact nl rfl) rfl dX1_keepsApart_7 nxk (kI fun r6 S7 hw => ?_)
      refine r_icmp_ge h 49 dX1_keepsApart_10 (by decide) (fun hc => ?_) (fun hc => ?_)
      · replace hw := hw.1 hc
        refine r_iconst h (v := 1) (by decide) dX1_keepsApart_49 ?_
        exact r_zret h hq (ty := .boolean) rfl rfl ⟨_, rfl, hw⟩ (by decide) (by decide) dX1_keepsApart_50
      · replace hw := hw.2 hc
        refine r_aload_n h 0 rfl rfl dX1_keepsApart_13 ?_
        refine r_aload_n h 2 rfl rfl dX1_keepsApart_14 ?_
        refine r_aload_n h 1 rfl rfl dX1_keepsApart_15 ?_
        refine r_aload_n h 1 rfl rfl dX1_keepsApart_16 ?_
        obtain ⟨h9, hw⟩ := hw
        obtain ⟨b10, h11, hw⟩ := hw
        refine r_getrN h kci3 in3 (k := 4) (by decide) rfl rfl n875 h9 h11 dX1_keepsApart_17 ?_
        refine r_iload_n h 3 rfl rfl dX1_keepsApart_20 ?_
        obtain ⟨h12, hw⟩ := hw
        refine r_callV h (fun l => c_Jx4a65c_get_915e3 l _ _ _ _ hw) q259 q260 q261 q59 q262 nd_Jx4a65c_get_915e3 ⟨by decide, by decide⟩ rfl rfl ⟨by decide, by decide⟩ kci0 rfl h12 rfl (by first | decide | exact nl rfl) rfl dX1_keepsApart_21 nxk (kA fun b13 S14 hw => ?_)
        obtain ⟨h16, hw⟩ := hw
        refine r_castS h kci9 q301 h16 dX1_keepsApart_24 ?_
        refine r_aload_n h 1 rfl rfl dX1_keepsApart_27 ?_
        obtain ⟨h17, hw⟩ := hw
        obtain ⟨b18, h19, hw⟩ := hw
        refine r_getrN h kci3 in3 (k := 5) (by decide) rfl rfl n878 h17 h19 dX1_keepsApart_28 ?_
        refine r_iload_n h 3 rfl rfl dX1_keepsApart_31 ?_
        refine r_callSN h (fun l => c_X9_numberAt l _ _ _ _ hw) n302 q303 q55 q304 nd_X9_numberAt ⟨by decide, by decide⟩ rfl rfl ⟨by decide, by decide⟩ (as := [.ref b18, .int x3]) rfl (by first | decide | exact nl rfl) rfl dX1_keepsApart_32 nxk (kI fun r20 S21 hw => ?_)
        obtain ⟨h23, hw⟩ := hw
        refine r_callV h (fun l => c_X1_isAgainst l _ _ _ _ _ _ _ hw) q327 q328 q329 q61 q330 nd_X1_isAgainst ⟨by decide, by decide⟩ rfl rfl ⟨by decide, by decide⟩ kci2 rfl h23 rfl (by first | decide | exact nl rfl) rfl dX1_keepsApart_35 nxk (kI fun r24 S25 hw => ?_)
        refine r_if_eq h 43 dX1_keepsApart_38 (by decide) (fun hc => ?_) (fun hc => ?_)
        · replace hw := hw.1 hc
          refine r_iinc h (j := 3) (v := (x3 + 1)) [1, 2, 3, 0] rfl rfl (by decide) rfl dX1_keepsApart_43 ?_
          refine r_goto h 2 dX1_keepsApart_46 (by decide) ?_
          exact ih _ _ _ _ _ hw
        · replace hw := hw.2 hc
          refine r_iconst h (v := 0) (by decide) dX1_keepsApart_41 ?_
          exact r_zret h hq (ty := .boolean) rfl rfl ⟨_, rfl, hw⟩ (by decide) (by decide) dX1_keepsApart_42
  unfold w_X1_keepsApart at hw
  refine r_iconst h (v := 0) (by decide) dX1_keepsApart_0 ?_
  refine r_istore_n h [1, 2, 3, 0] rfl (by decide) rfl dX1_keepsApart_1 ?_
  obtain ⟨m, hw⟩ := hw
  exact L2 m _ _ _ _ _ hw

def wl_X1_allHangWell_2 (f : Int32 → St → Prop) : Nat → St → Nat → Nat → Nat → Int32 → Prop
  | 0, _, _, _, _, _ => False
  | n + 1, S, a0, a1, a2, x3 => ok S a0 2 ∧ ∃ b3 : Nat, sP S a0 0 = some b3 ∧ ok S b3 0 ∧ w_Jx4a65c_size_8abf5 S b3 (fun (r6 : Int32) (S7 : St) => (((r6 ≤ x3) → f 1 S7) ∧ ((¬ r6 ≤ x3) → ok S7 a0 2 ∧ ∃ b10 : Nat, sP S7 a0 0 = some b10 ∧ ok S7 b10 0 ∧ w_Jx4a65c_get_915e3 S7 b10 x3 (fun (b13 : Nat) (S14 : St) => ok S14 b13 3 ∧ (((¬ (sI S14 b13 6) = 112) → wl_X1_allHangWell_2 f n S14 a0 a1 a2 (x3 + 1)) ∧ (((sI S14 b13 6) = 112) → ok S14 a0 2 ∧ w_X1_standsWhereItHangs S14 a0 b13 a1 (fun (r18 : Int32) (S19 : St) => (((r18 = 0) → f 0 S19) ∧ ((¬ r18 = 0) → ok S19 a0 2 ∧ w_X1_keepsApart S19 a0 b13 a2 (fun (r22 : Int32) (S23 : St) => (((¬ r22 = 0) → wl_X1_allHangWell_2 f n S23 a0 a1 a2 (x3 + 1)) ∧ ((r22 = 0) → f 0 S23))))))))))))
def w_X1_allHangWell (S : St) (a0 : Nat) (a1 : Nat) (a2 : Nat) (f : Int32 → St → Prop) : Prop := (∃ m : Nat, wl_X1_allHangWell_2 f m S a0 a1 a2 0)
set_option maxRecDepth 100000 in
set_option maxHeartbeats 4000000 in
theorem c_X1_allHangWell (l : Launch) (S : St) (a0 : Nat) (a1 : Nat) (a2 : Nat) (f : Int32 → St → Prop) (hw : w_X1_allHangWell S a0 a1 a2 f) : Ct l yX1_allHangWell (Cond.code yX1_allHangWell cX1_allHangWell 5 (some .boolean)) { frames := 5, cells := 0, slots := 0, locals := 115 } 0 0 S [.ref a0, .ref a1, .ref a2] (pI f) nox := by
  refine entry (by decide +kernel) rfl rfl (by first | decide | exact nl rfl) rfl ?_
  intro X h hq
  have L2 : ∀ (n : Nat) (S : St) (a0 : Nat) (a1 : Nat) (a2 : Nat) (x3 : Int32), wl_X1_allHangWell_2 f n S a0 a1 a2 x3 → pw X 0 0 S 2 [(0, .ref a0), (1, .ref a1), (2, .ref a2), (3, .int x3)] [] := by
    intro n
    induction n with
    | zero => intro S a0 a1 a2 x3 hw; exact hw.elim
    | succ n ih =>
      intro S a0 a1 a2 x3 hw
      unfold wl_X1_allHangWell_2 at hw
      refine r_iload_n h 3 rfl rfl dX1_allHangWell_2 ?_
      refine r_aload_n h 0 rfl rfl dX1_allHangWell_3 ?_
      obtain ⟨h2, hw⟩ := hw
      obtain ⟨b3, h4, hw⟩ := hw
      refine r_getr h kci2 in2 (k := 0) (by decide) rfl rfl q152 h2 h4 dX1_allHangWell_4 ?_
      obtain ⟨h5, hw⟩ := hw
      refine r_callV h (fun l => c_Jx4a65c_size_8abf5 l _ _ _ hw) q258 q239 q240 q59 q241 nd_Jx4a65c_size_8abf5 ⟨by decide, by decide⟩ rfl rfl ⟨by decide, by decide⟩ kci0 rfl h5 rfl (by first | decide | exact nl rfl) rfl dX1_allHangWell_7 nxk (kI fun r6 S7 hw => ?_)
      refine r_icmp_ge h 64 dX1_allHangWell_10 (by decide) (fun hc => ?_) (fun hc => ?_)
      · replace hw := hw.1 hc
        refine r_iconst h (v := 1) (by decide) dX1_allHangWell_64 ?_
        exact r_zret h hq (ty := .boolean) rfl rfl ⟨_, rfl, hw⟩ (by decide) (by decide) dX1_allHangWell_65
      · replace hw := hw.2 hc
        refine r_aload_n h 0 rfl rfl dX1_allHangWell_13 ?_
        obtain ⟨h9, hw⟩ := hw
        obtain ⟨b10, h11, hw⟩ := hw
        refine r_getr h kci2 in2 (k := 0) (by decide) rfl rfl q152 h9 h11 dX1_allHangWell_14 ?_
        refine r_iload_n h 3 rfl rfl dX1_allHangWell_17 ?_
        obtain ⟨h12, hw⟩ := hw
        refine r_callV h (fun l => c_Jx4a65c_get_915e3 l _ _ _ _ hw) q259 q260 q261 q59 q262 nd_Jx4a65c_get_915e3 ⟨by decide, by decide⟩ rfl rfl ⟨by decide, by decide⟩ kci0 rfl h12 rfl (by first | decide | exact nl rfl) rfl dX1_allHangWell_18 nxk (kA fun b13 S14 hw => ?_)
        obtain ⟨h16, hw⟩ := hw
        refine r_castS h kci3 q273 h16 dX1_allHangWell_21 ?_
        refine r_astore h [1, 2, 3, 4, 0] (by decide) rfl dX1_allHangWell_24 ?_
        refine r_aload h 4 rfl dX1_allHangWell_26 ?_
        refine r_getiN h kci3 in3 (k := 6) (by decide) rfl rfl n881 h16 dX1_allHangWell_28 ?_
        refine r_bipush h (v := 112) (by decide) dX1_allHangWell_31 ?_
        refine r_icmp_ne h 58 dX1_allHangWell_33 (by decide) (fun hc => ?_) (fun hc => ?_)
        · replace hw := hw.1 hc
          refine r_iinc h (j := 3) (v := (x3 + 1)) [1, 2, 3, 0, 4] rfl rfl (by decide) rfl dX1_allHangWell_58 ?_
          refine r_goto h 2 dX1_allHangWell_61 (by decide) ?_
          refine r_vs [0, 1, 2, 3] rfl ?_
          exact ih _ _ _ _ _ hw
        · replace hw := hw.2 hc
          refine r_aload_n h 0 rfl rfl dX1_allHangWell_36 ?_
          refine r_aload h 4 rfl dX1_allHangWell_37 ?_
          refine r_aload_n h 1 rfl rfl dX1_allHangWell_39 ?_
          obtain ⟨h17, hw⟩ := hw
          refine r_callV h (fun l => c_X1_standsWhereItHangs l _ _ _ _ _ hw) q297 q299 q0 q61 q300 nd_X1_standsWhereItHangs ⟨by decide, by decide⟩ rfl rfl ⟨by decide, by decide⟩ kci2 rfl h17 rfl (by first | decide | exact nl rfl) rfl dX1_allHangWell_40 nxk (kI fun r18 S19 hw => ?_)
          refine r_if_eq h 56 dX1_allHangWell_43 (by decide) (fun hc => ?_) (fun hc => ?_)
          · replace hw := hw.1 hc
            refine r_iconst h (v := 0) (by decide) dX1_allHangWell_56 ?_
            exact r_zret h hq (ty := .boolean) rfl rfl ⟨_, rfl, hw⟩ (by decide) (by decide) dX1_allHangWell_57
          · replace hw := hw.2 hc
            refine r_aload_n h 0 rfl rfl dX1_allHangWell_46 ?_
            refine r_aload h 4 rfl dX1_allHangWell_47 ?_
            refine r_aload_n h 2 rfl rfl dX1_allHangWell_49 ?_
            obtain ⟨h21, hw⟩ := hw
            refine r_callV h (fun l => c_X1_keepsApart l _ _ _ _ _ hw) q323 q325 q1 q61 q326 nd_X1_keepsApart ⟨by decide, by decide⟩ rfl rfl ⟨by decide, by decide⟩ kci2 rfl h21 rfl (by first | decide | exact nl rfl) rfl dX1_allHangWell_50 nxk (kI fun r22 S23 hw => ?_)
            refine r_if_ne h 58 dX1_allHangWell_53 (by decide) (fun hc => ?_) (fun hc => ?_)
            · replace hw := hw.1 hc
              refine r_iinc h (j := 3) (v := (x3 + 1)) [1, 2, 3, 0, 4] rfl rfl (by decide) rfl dX1_allHangWell_58 ?_
              refine r_goto h 2 dX1_allHangWell_61 (by decide) ?_
              refine r_vs [0, 1, 2, 3] rfl ?_
              exact ih _ _ _ _ _ hw
            · replace hw := hw.2 hc
              refine r_iconst h (v := 0) (by decide) dX1_allHangWell_56 ?_
              exact r_zret h hq (ty := .boolean) rfl rfl ⟨_, rfl, hw⟩ (by decide) (by decide) dX1_allHangWell_57
  unfold w_X1_allHangWell at hw
  refine r_iconst h (v := 0) (by decide) dX1_allHangWell_0 ?_
  refine r_istore_n h [1, 2, 3, 0] rfl (by decide) rfl dX1_allHangWell_1 ?_
  obtain ⟨m, hw⟩ := hw
  exact L2 m _ _ _ _ _ hw

def wl_X1_fitsOn_12 (f : Int32 → St → Prop) (k2 : St → Nat → Nat → Int32 → Prop) : Nat → St → Nat → Nat → Int32 → Int32 → Prop
  | 0, _, _, _, _, _ => False
  | n + 1, S, a0, a1, x2, x3 => (((99 < x3) → k2 S a0 a1 (x2 + 1)) ∧ ((¬ 99 < x3) → ok S a0 2 ∧ w_X1_takenOn S a0 x2 x3 (fun (r8 : Int32) (S9 : St) => ok S9 a1 4 ∧ w_X3_lengthOf S9 a1 x2 (fun (r12 : Int32) (S13 : St) => (((r8 ≤ r12) → wl_X1_fitsOn_12 f k2 n S13 a0 a1 x2 (x3 + 1)) ∧ ((¬ r8 ≤ r12) → f 0 S13))))))
def wl_X1_fitsOn_2 (f : Int32 → St → Prop) : Nat → St → Nat → Nat → Int32 → Prop
  | 0, _, _, _, _ => False
  | n + 1, S, a0, a1, x2 => ok S a1 4 ∧ w_X3_walls S a1 (fun (r3 : Int32) (S4 : St) => (((r3 ≤ x2) → f 1 S4) ∧ ((¬ r3 ≤ x2) → (∃ m : Nat, wl_X1_fitsOn_12 f (wl_X1_fitsOn_2 f n) m S4 a0 a1 x2 0))))
def w_X1_fitsOn (S : St) (a0 : Nat) (a1 : Nat) (f : Int32 → St → Prop) : Prop := (∃ m : Nat, wl_X1_fitsOn_2 f m S a0 a1 0)
set_option maxRecDepth 100000 in
set_option maxHeartbeats 4000000 in
theorem c_X1_fitsOn (l : Launch) (S : St) (a0 : Nat) (a1 : Nat) (f : Int32 → St → Prop) (hw : w_X1_fitsOn S a0 a1 f) : Ct l yX1_fitsOn (Cond.code yX1_fitsOn cX1_fitsOn 4 (some .boolean)) { frames := 5, cells := 0, slots := 0, locals := 112 } 0 0 S [.ref a0, .ref a1] (pI f) nox := by
  refine entry (by decide +kernel) rfl rfl (by first | decide | exact nl rfl) rfl ?_
  intro X h hq
  have L12 : ∀ (k2 : St → Nat → Nat → Int32 → Prop), (∀ (S : St) (a0 : Nat) (a1 : Nat) (x2 : Int32), k2 S a0 a1 x2 → pw X 0 0 S 2 [(0, .ref a0), (1, .ref a1), (2, .int x2)] []) → ∀ (n : Nat) (S : St) (a0 : Nat) (a1 : Nat) (x2 : Int32) (x3 : Int32), wl_X1_fitsOn_12 f k2 n S a0 a1 x2 x3 → pw X 0 0 S 12 [(0, .ref a0), (1, .ref a1), (2, .int x2), (3, .int x3)] [] := by
    intro k2 hk2 n
    induction n with
    | zero => intro S a0 a1 x2 x3 hw; exact hw.elim
    | succ n ih =>
      intro S a0 a1 x2 x3 hw
      unfold wl_X1_fitsOn_12 at hw
      refine r_iload_n h 3 rfl rfl dX1_fitsOn_12 ?_
      refine r_bipush h (v := 99) (by decide) dX1_fitsOn_13 ?_
      refine r_icmp_gt h 40 dX1_fitsOn_15 (by decide) (fun hc => ?_) (fun hc => ?_)
      · replace hw := hw.1 hc
        refine r_iinc h (j := 2) (v := (x2 + 1)) [1, 2, 0, 3] rfl rfl (by decide) rfl dX1_fitsOn_40 ?_
        refine r_goto h 2 dX1_fitsOn_43 (by decide) ?_
        refine r_vs [0, 1, 2] rfl ?_
        exact hk2 _ _ _ _ hw
      · replace hw := hw.2 hc
        refine r_aload_n h 0 rfl rfl dX1_fitsOn_18 ?_
        refine r_iload_n h 2 rfl rfl dX1_fitsOn_19 ?_
        refine r_iload_n h 3 rfl rfl dX1_fitsOn_20 ?_
        obtain ⟨h7, hw⟩ := hw
        refine r_callV h (fun l => c_X1_takenOn l _ _ _ _ _ hw) q347 q348 q349 q61 q350 nd_X1_takenOn ⟨by decide, by decide⟩ rfl rfl ⟨by decide, by decide⟩ kci2 rfl h7 rfl (by first | decide | exact nl rfl) rfl dX1_fitsOn_21 nxk (kI fun r8 S9 hw => ?_)
        refine r_aload_n h 1 rfl rfl dX1_fitsOn_24 ?_
        refine r_iload_n h 2 rfl rfl dX1_fitsOn_25 ?_
        obtain ⟨h11, hw⟩ := hw
        refine r_callV h (fun l => c_X3_lengthOf l _ _ _ _ hw) q359 q360 q361 q56 q362 nd_X3_lengthOf ⟨by decide, by decide⟩ rfl rfl ⟨by decide, by decide⟩ kci4 rfl h11 rfl (by first | decide | exact nl rfl) rfl dX1_fitsOn_26 nxk (kI fun r12 S13 hw => ?_)
        refine r_icmp_le h 34 dX1_fitsOn_29 (by decide) (fun hc => ?_) (fun hc => ?_)
        · replace hw := hw.1 hc
          refine r_iinc h (j := 3) (v := (x3 + 1)) [1, 2, 3, 0] rfl rfl (by decide) rfl dX1_fitsOn_34 ?_
          refine r_goto h 12 dX1_fitsOn_37 (by decide) ?_
          exact ih _ _ _ _ _ hw
        · replace hw := hw.2 hc
          refine r_iconst h (v := 0) (by decide) dX1_fitsOn_32 ?_
          exact r_zret h hq (ty := .boolean) rfl rfl ⟨_, rfl, hw⟩ (by decide) (by decide) dX1_fitsOn_33
  have L2 : ∀ (n : Nat) (S : St) (a0 : Nat) (a1 : Nat) (x2 : Int32), wl_X1_fitsOn_2 f n S a0 a1 x2 → pw X 0 0 S 2 [(0, .ref a0), (1, .ref a1), (2, .int x2)] [] := by
    intro n
    induction n with
    | zero => intro S a0 a1 x2 hw; exact hw.elim
    | succ n ih =>
      intro S a0 a1 x2 hw
      unfold wl_X1_fitsOn_2 at hw
      refine r_iload_n h 2 rfl rfl dX1_fitsOn_2 ?_
      refine r_aload_n h 1 rfl rfl dX1_fitsOn_3 ?_
      obtain ⟨h2, hw⟩ := hw
      refine r_callV h (fun l => c_X3_walls l _ _ _ hw) q346 q310 q311 q56 q312 nd_X3_walls ⟨by decide, by decide⟩ rfl rfl ⟨by decide, by decide⟩ kci4 rfl h2 rfl (by first | decide | exact nl rfl) rfl dX1_fitsOn_4 nxk (kI fun r3 S4 hw => ?_)
      refine r_icmp_ge h 46 dX1_fitsOn_7 (by decide) (fun hc => ?_) (fun hc => ?_)
      · replace hw := hw.1 hc
        refine r_iconst h (v := 1) (by decide) dX1_fitsOn_46 ?_
        exact r_zret h hq (ty := .boolean) rfl rfl ⟨_, rfl, hw⟩ (by decide) (by decide) dX1_fitsOn_47
      · replace hw := hw.2 hc
        refine r_iconst h (v := 0) (by decide) dX1_fitsOn_10 ?_
        refine r_istore_n h [1, 2, 3, 0] rfl (by decide) rfl dX1_fitsOn_11 ?_
        obtain ⟨m, hw⟩ := hw
        exact L12 _ ih m _ _ _ _ _ hw
  unfold w_X1_fitsOn at hw
  refine r_iconst h (v := 0) (by decide) dX1_fitsOn_0 ?_
  refine r_istore_n h [1, 2, 0] rfl (by decide) rfl dX1_fitsOn_1 ?_
  obtain ⟨m, hw⟩ := hw
  exact L2 m _ _ _ _ hw

def wl_X1_allowsTakingAll_2 (f : Int32 → St → Prop) : Nat → St → Nat → Nat → Int32 → Prop
  | 0, _, _, _, _ => False
  | n + 1, S, a0, a1, x2 => ok S a1 3 ∧ ∃ b3 : Nat, sP S a1 4 = some b3 ∧ ok S b3 0 ∧ w_Jx4a65c_size_8abf5 S b3 (fun (r6 : Int32) (S7 : St) => (((r6 ≤ x2) → f 1 S7) ∧ ((¬ r6 ≤ x2) → ok S7 a1 3 ∧ ∃ b10 : Nat, sP S7 a1 4 = some b10 ∧ ok S7 b10 0 ∧ w_Jx4a65c_get_915e3 S7 b10 x2 (fun (b13 : Nat) (S14 : St) => ok S14 b13 9 ∧ ok S14 a0 2 ∧ w_X1_allowsTaking S14 a0 a1 b13 (fun (r18 : Int32) (S19 : St) => (((¬ r18 = 0) → wl_X1_allowsTakingAll_2 f n S19 a0 a1 (x2 + 1)) ∧ ((r18 = 0) → f 0 S19)))))))
def w_X1_allowsTakingAll (S : St) (a0 : Nat) (a1 : Nat) (f : Int32 → St → Prop) : Prop := (∃ m : Nat, wl_X1_allowsTakingAll_2 f m S a0 a1 0)
set_option maxRecDepth 100000 in
set_option maxHeartbeats 4000000 in
theorem c_X1_allowsTakingAll (l : Launch) (S : St) (a0 : Nat) (a1 : Nat) (f : Int32 → St → Prop) (hw : w_X1_allowsTakingAll S a0 a1 f) : Ct l yX1_allowsTakingAll (Cond.code yX1_allowsTakingAll cX1_allowsTakingAll 3 (some .boolean)) { frames := 6, cells := 0, slots := 0, locals := 135 } 0 0 S [.ref a0, .ref a1] (pI f) nox := by
  refine entry (by decide +kernel) rfl rfl (by first | decide | exact nl rfl) rfl ?_
  intro X h hq
  have L2 : ∀ (n : Nat) (S : St) (a0 : Nat) (a1 : Nat) (x2 : Int32), wl_X1_allowsTakingAll_2 f n S a0 a1 x2 → pw X 0 0 S 2 [(0, .ref a0), (1, .ref a1), (2, .int x2)] [] := by
    intro n
    induction n with
    | zero => intro S a0 a1 x2 hw; exact hw.elim
    | succ n ih =>
      intro S a0 a1 x2 hw
      unfold wl_X1_allowsTakingAll_2 at hw
      refine r_iload_n h 2 rfl rfl dX1_allowsTakingAll_2 ?_
      refine r_aload_n h 1 rfl rfl dX1_allowsTakingAll_3 ?_
      obtain ⟨h2, hw⟩ := hw
      obtain ⟨b3, h4, hw⟩ := hw
      refine r_getrN h kci3 in3 (k := 4) (by decide) rfl rfl n875 h2 h4 dX1_allowsTakingAll_4 ?_
      obtain ⟨h5, hw⟩ := hw
      refine r_callV h (fun l => c_Jx4a65c_size_8abf5 l _ _ _ hw) q258 q239 q240 q59 q241 nd_Jx4a65c_size_8abf5 ⟨by decide, by decide⟩ rfl rfl ⟨by decide, by decide⟩ kci0 rfl h5 rfl (by first | decide | exact nl rfl) rfl dX1_allowsTakingAll_7 nxk (kI fun r6 S7 hw => ?_)
      refine r_icmp_ge h 40 dX1_allowsTakingAll_10 (by decide) (fun hc => ?_) (fun hc => ?_)
      · replace hw := hw.1 hc
        refine r_iconst h (v := 1) (by decide) dX1_allowsTakingAll_40 ?_
        exact r_zret h hq (ty := .boolean) rfl rfl ⟨_, rfl, hw⟩ (by decide) (by decide) dX1_allowsTakingAll_41
      · replace hw := hw.2 hc
        refine r_aload_n h 0 rfl rfl dX1_allowsTakingAll_13 ?_
        refine r_aload_n h 1 rfl rfl dX1_allowsTakingAll_14 ?_
        refine r_aload_n h 1 rfl rfl dX1_allowsTakingAll_15 ?_
        obtain ⟨h9, hw⟩ := hw
        obtain ⟨b10, h11, hw⟩ := hw
        refine r_getrN h kci3 in3 (k := 4) (by decide) rfl rfl n875 h9 h11 dX1_allowsTakingAll_16 ?_
        refine r_iload_n h 2 rfl rfl dX1_allowsTakingAll_19 ?_
        obtain ⟨h12, hw⟩ := hw
        refine r_callV h (fun l => c_Jx4a65c_get_915e3 l _ _ _ _ hw) q259 q260 q261 q59 q262 nd_Jx4a65c_get_915e3 ⟨by decide, by decide⟩ rfl rfl ⟨by decide, by decide⟩ kci0 rfl h12 rfl (by first | decide | exact nl rfl) rfl dX1_allowsTakingAll_20 nxk (kA fun b13 S14 hw => ?_)
        obtain ⟨h16, hw⟩ := hw
        refine r_castS h kci9 q301 h16 dX1_allowsTakingAll_23 ?_
        obtain ⟨h17, hw⟩ := hw
        refine r_callV h (fun l => c_X1_allowsTaking l _ _ _ _ _ hw) q371 q372 q373 q61 q374 nd_X1_allowsTaking ⟨by decide, by decide⟩ rfl rfl ⟨by decide, by decide⟩ kci2 rfl h17 rfl (by first | decide | exact nl rfl) rfl dX1_allowsTakingAll_26 nxk (kI fun r18 S19 hw => ?_)
        refine r_if_ne h 34 dX1_allowsTakingAll_29 (by decide) (fun hc => ?_) (fun hc => ?_)
        · replace hw := hw.1 hc
          refine r_iinc h (j := 2) (v := (x2 + 1)) [1, 2, 0] rfl rfl (by decide) rfl dX1_allowsTakingAll_34 ?_
          refine r_goto h 2 dX1_allowsTakingAll_37 (by decide) ?_
          exact ih _ _ _ _ hw
        · replace hw := hw.2 hc
          refine r_iconst h (v := 0) (by decide) dX1_allowsTakingAll_32 ?_
          exact r_zret h hq (ty := .boolean) rfl rfl ⟨_, rfl, hw⟩ (by decide) (by decide) dX1_allowsTakingAll_33
  unfold w_X1_allowsTakingAll at hw
  refine r_iconst h (v := 0) (by decide) dX1_allowsTakingAll_0 ?_
  refine r_istore_n h [1, 2, 0] rfl (by decide) rfl dX1_allowsTakingAll_1 ?_
  obtain ⟨m, hw⟩ := hw
  exact L2 m _ _ _ _ hw

def wl_X1_takesWell_2 (f : Int32 → St → Prop) : Nat → St → Nat → Int32 → Prop
  | 0, _, _, _ => False
  | n + 1, S, a0, x1 => ok S a0 2 ∧ ∃ b3 : Nat, sP S a0 0 = some b3 ∧ ok S b3 0 ∧ w_Jx4a65c_size_8abf5 S b3 (fun (r6 : Int32) (S7 : St) => (((r6 ≤ x1) → f 1 S7) ∧ ((¬ r6 ≤ x1) → ok S7 a0 2 ∧ ∃ b10 : Nat, sP S7 a0 0 = some b10 ∧ ok S7 b10 0 ∧ w_Jx4a65c_get_915e3 S7 b10 x1 (fun (b13 : Nat) (S14 : St) => ok S14 b13 3 ∧ (((¬ (sI S14 b13 6) = 112) → wl_X1_takesWell_2 f n S14 a0 (x1 + 1)) ∧ (((sI S14 b13 6) = 112) → ok S14 a0 2 ∧ w_X1_allowsTakingAll S14 a0 b13 (fun (r18 : Int32) (S19 : St) => (((¬ r18 = 0) → wl_X1_takesWell_2 f n S19 a0 (x1 + 1)) ∧ ((r18 = 0) → f 0 S19)))))))))
def w_X1_takesWell (S : St) (a0 : Nat) (f : Int32 → St → Prop) : Prop := (∃ m : Nat, wl_X1_takesWell_2 f m S a0 0)
set_option maxRecDepth 100000 in
set_option maxHeartbeats 4000000 in
theorem c_X1_takesWell (l : Launch) (S : St) (a0 : Nat) (f : Int32 → St → Prop) (hw : w_X1_takesWell S a0 f) : Ct l yX1_takesWell (Cond.code yX1_takesWell cX1_takesWell 3 (some .boolean)) { frames := 7, cells := 0, slots := 0, locals := 157 } 0 0 S [.ref a0] (pI f) nox := by
  refine entry (by decide +kernel) rfl rfl (by first | decide | exact nl rfl) rfl ?_
  intro X h hq
  have L2 : ∀ (n : Nat) (S : St) (a0 : Nat) (x1 : Int32), wl_X1_takesWell_2 f n S a0 x1 → pw X 0 0 S 2 [(0, .ref a0), (1, .int x1)] [] := by
    intro n
    induction n with
    | zero => intro S a0 x1 hw; exact hw.elim
    | succ n ih =>
      intro S a0 x1 hw
      unfold wl_X1_takesWell_2 at hw
      refine r_iload_n h 1 rfl rfl dX1_takesWell_2 ?_
      refine r_aload_n h 0 rfl rfl dX1_takesWell_3 ?_
      obtain ⟨h2, hw⟩ := hw
      obtain ⟨b3, h4, hw⟩ := hw
      refine r_getr h kci2 in2 (k := 0) (by decide) rfl rfl q152 h2 h4 dX1_takesWell_4 ?_
      obtain ⟨h5, hw⟩ := hw
      refine r_callV h (fun l => c_Jx4a65c_size_8abf5 l _ _ _ hw) q258 q239 q240 q59 q241 nd_Jx4a65c_size_8abf5 ⟨by decide, by decide⟩ rfl rfl ⟨by decide, by decide⟩ kci0 rfl h5 rfl (by first | decide | exact nl rfl) rfl dX1_takesWell_7 nxk (kI fun r6 S7 hw => ?_)
      refine r_icmp_ge h 50 dX1_takesWell_10 (by decide) (fun hc => ?_) (fun hc => ?_)
      · replace hw := hw.1 hc
        refine r_iconst h (v := 1) (by decide) dX1_takesWell_50 ?_
        exact r_zret h hq (ty := .boolean) rfl rfl ⟨_, rfl, hw⟩ (by decide) (by decide) dX1_takesWell_51
      · replace hw := hw.2 hc
        refine r_aload_n h 0 rfl rfl dX1_takesWell_13 ?_
        obtain ⟨h9, hw⟩ := hw
        obtain ⟨b10, h11, hw⟩ := hw
        refine r_getr h kci2 in2 (k := 0) (by decide) rfl rfl q152 h9 h11 dX1_takesWell_14 ?_
        refine r_iload_n h 1 rfl rfl dX1_takesWell_17 ?_
        obtain ⟨h12, hw⟩ := hw
        refine r_callV h (fun l => c_Jx4a65c_get_915e3 l _ _ _ _ hw) q259 q260 q261 q59 q262 nd_Jx4a65c_get_915e3 ⟨by decide, by decide⟩ rfl rfl ⟨by decide, by decide⟩ kci0 rfl h12 rfl (by first | decide | exact nl rfl) rfl dX1_takesWell_18 nxk (kA fun b13 S14 hw => ?_)
        obtain ⟨h16, hw⟩ := hw
        refine r_castS h kci3 q273 h16 dX1_takesWell_21 ?_
        refine r_astore_n h [1, 2, 0] rfl (by decide) rfl dX1_takesWell_24 ?_
        refine r_aload_n h 2 rfl rfl dX1_takesWell_25 ?_
        refine r_getiN h kci3 in3 (k := 6) (by decide) rfl rfl n881 h16 dX1_takesWell_26 ?_
        refine r_bipush h (v := 112) (by decide) dX1_takesWell_29 ?_
        refine r_icmp_ne h 44 dX1_takesWell_31 (by decide) (fun hc => ?_) (fun hc => ?_)
        · replace hw := hw.1 hc
          refine r_iinc h (j := 1) (v := (x1 + 1)) [1, 0, 2] rfl rfl (by decide) rfl dX1_takesWell_44 ?_
          refine r_goto h 2 dX1_takesWell_47 (by decide) ?_
          refine r_vs [0, 1] rfl ?_
          exact ih _ _ _ hw
        · replace hw := hw.2 hc
          refine r_aload_n h 0 rfl rfl dX1_takesWell_34 ?_
          refine r_aload_n h 2 rfl rfl dX1_takesWell_35 ?_
          obtain ⟨h17, hw⟩ := hw
          refine r_callV h (fun l => c_X1_allowsTakingAll l _ _ _ _ hw) q367 q369 q2 q61 q370 nd_X1_allowsTakingAll ⟨by decide, by decide⟩ rfl rfl ⟨by decide, by decide⟩ kci2 rfl h17 rfl (by first | decide | exact nl rfl) rfl dX1_takesWell_36 nxk (kI fun r18 S19 hw => ?_)
          refine r_if_ne h 44 dX1_takesWell_39 (by decide) (fun hc => ?_) (fun hc => ?_)
          · replace hw := hw.1 hc
            refine r_iinc h (j := 1) (v := (x1 + 1)) [1, 0, 2] rfl rfl (by decide) rfl dX1_takesWell_44 ?_
            refine r_goto h 2 dX1_takesWell_47 (by decide) ?_
            refine r_vs [0, 1] rfl ?_
            exact ih _ _ _ hw
          · replace hw := hw.2 hc
            refine r_iconst h (v := 0) (by decide) dX1_takesWell_42 ?_
            exact r_zret h hq (ty := .boolean) rfl rfl ⟨_, rfl, hw⟩ (by decide) (by decide) dX1_takesWell_43
  unfold w_X1_takesWell at hw
  refine r_iconst h (v := 0) (by decide) dX1_takesWell_0 ?_
  refine r_istore_n h [1, 0] rfl (by decide) rfl dX1_takesWell_1 ?_
  obtain ⟨m, hw⟩ := hw
  exact L2 m _ _ _ hw
