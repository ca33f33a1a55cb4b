def w_X9_addExhibition (S : St) (a0 : Nat) (x1 : Int32) (x2 : Int32) (x3 : Int32) (f : Int32 → St → Prop) (exc : String → St → Prop) : Prop := w_X9_isWithin S x1 0 99 (fun (r1 : Int32) (S2 : St) => (((r1 = 0) → exc "java/lang/IllegalArgumentException" S2) ∧ ((¬ r1 = 0) → w_X9_isWithin S2 x2 x1 99 (fun (r4 : Int32) (S5 : St) => (((r4 = 0) → exc "java/lang/IllegalArgumentException" S5) ∧ ((¬ r4 = 0) → w_X9_isWithin S5 x3 0 50 (fun (r7 : Int32) (S8 : St) => (((¬ r7 = 0) → ok S8 a0 10 ∧ ∃ b11 : Nat, sP S8 a0 4 = some b11 ∧ ok S8 b11 2 ∧ ∃ b14 : Nat, sP S8 b11 0 = some b14 ∧ ok S8 b14 0 ∧ w_Jx4a65c_size_8abf5 S8 b14 (fun (r17 : Int32) (S18 : St) => (((r17 < 8) → ∀ q20 : Nat, q20 ∉ sL S18 → let S22 : St := newO S18 q20 3; ok S22 a0 10 ∧ ∃ b25 : Nat, sP S22 a0 4 = some b25 ∧ ok S22 b25 2 ∧ ∃ b28 : Nat, sP S22 b25 0 = some b28 ∧ ok S22 b28 0 ∧ w_Jx4a65c_size_8abf5 S22 b28 (fun (r31 : Int32) (S32 : St) => w_X2_init S32 q20 r31 x1 x2 x3 (fun (S34 : St) => ok S34 a0 10 ∧ ∃ b37 : Nat, sP S34 a0 4 = some b37 ∧ ok S34 b37 2 ∧ ∃ b40 : Nat, sP S34 b37 0 = some b40 ∧ ok S34 b40 0 ∧ w_Jx4a65c_add_9ea2d S34 b40 q20 (fun (r43 : Int32) (S44 : St) => ok S44 q20 3 ∧ f (sI S44 q20 0) S44)))) ∧ ((¬ r17 < 8) → exc "java/lang/IllegalStateException" S18)))) ∧ ((r7 = 0) → exc "java/lang/IllegalArgumentException" S8)))))))))
set_option maxRecDepth 100000 in
set_option maxHeartbeats 4000000 in
theorem c_X9_addExhibition (l : Launch) (S : St) (a0 : Nat) (x1 : Int32) (x2 : Int32) (x3 : Int32) (f : Int32 → St → Prop) (exc : String → St → Prop) (hw : w_X9_addExhibition S a0 x1 x2 x3 f exc) : Ct l yX9_addExhibition (Cond.code yX9_addExhibition cX9_addExhibition 5 (some .int)) { frames := 7, cells := 4, slots := 35, locals := 191 } 4 35 S [.ref a0, .int x1, .int x2, .int x3] (pI f) exc := by
  refine entry (by decide +kernel) rfl rfl (by first | decide | exact nl rfl) rfl ?_
  intro X h hq
  unfold w_X9_addExhibition at hw
  refine r_iload_n h 1 rfl rfl dX9_addExhibition_0 ?_
  refine r_iconst h (v := 0) (by decide) dX9_addExhibition_1 ?_
  refine r_bipush h (v := 99) (by decide) dX9_addExhibition_2 ?_
  refine r_callS h (fun l => c_X9_isWithin l _ _ _ _ _ hw) q472 q315 q55 q316 nd_X9_isWithin ⟨by decide, by decide⟩ rfl rfl ⟨by decide, by decide⟩ (as := [.int x1, .int 0, .int 99]) rfl (by first | decide | exact nl rfl) rfl dX9_addExhibition_4 nxk (kI fun r1 S2 hw => ?_)
  refine r_if_eq h 30 dX9_addExhibition_7 (by decide) (fun hc => ?_) (fun hc => ?_)
  · replace hw := hw.1 hc
    exact r_throwS h hq th66 q473 q68 (is := 64) (text := "a number is out of range") (by decide +kernel) hw dX9_addExhibition_30 dX9_addExhibition_33 dX9_addExhibition_34 dX9_addExhibition_36 dX9_addExhibition_39 (by first | decide | exact nl rfl) (by first | decide | exact nl rfl) (by first | decide | exact nl rfl) (by first | decide | exact nl rfl) (by first | decide | exact nl rfl) (by first | decide | exact nl rfl)
  · replace hw := hw.2 hc
    refine r_iload_n h 2 rfl rfl dX9_addExhibition_10 ?_
    refine r_iload_n h 1 rfl rfl dX9_addExhibition_11 ?_
    refine r_bipush h (v := 99) (by decide) dX9_addExhibition_12 ?_
    refine r_callS h (fun l => c_X9_isWithin l _ _ _ _ _ hw) q472 q315 q55 q316 nd_X9_isWithin ⟨by decide, by decide⟩ rfl rfl ⟨by decide, by decide⟩ (as := [.int x2, .int x1, .int 99]) rfl (by first | decide | exact nl rfl) rfl dX9_addExhibition_14 nxk (kI fun r4 S5 hw => ?_)
    refine r_if_eq h 30 dX9_addExhibition_17 (by decide) (fun hc => ?_) (fun hc => ?_)
    · replace hw := hw.1 hc
      exact r_throwS h hq th66 q473 q68 (is := 64) (text := "a number is out of range") (by decide +kernel) hw dX9_addExhibition_30 dX9_addExhibition_33 dX9_addExhibition_34 dX9_addExhibition_36 dX9_addExhibition_39 (by first | decide | exact nl rfl) (by first | decide | exact nl rfl) (by first | decide | exact nl rfl) (by first | decide | exact nl rfl) (by first | decide | exact nl rfl) (by first | decide | exact nl rfl)
    · replace hw := hw.2 hc
      refine r_iload_n h 3 rfl rfl dX9_addExhibition_20 ?_
      refine r_iconst h (v := 0) (by decide) dX9_addExhibition_21 ?_
      refine r_bipush h (v := 50) (by decide) dX9_addExhibition_22 ?_
      refine r_callS h (fun l => c_X9_isWithin l _ _ _ _ _ hw) q472 q315 q55 q316 nd_X9_isWithin ⟨by decide, by decide⟩ rfl rfl ⟨by decide, by decide⟩ (as := [.int x3, .int 0, .int 50]) rfl (by first | decide | exact nl rfl) rfl dX9_addExhibition_24 nxk (kI fun r7 S8 hw => ?_)
      refine r_if_ne h 40 dX9_addExhibition_27 (by decide) (fun hc => ?_) (fun hc => ?_)
      · replace hw := hw.1 hc
        refine r_aload_n h 0 rfl rfl dX9_addExhibition_40 ?_
        obtain ⟨h10, hw⟩ := hw
        obtain ⟨b11, h12, hw⟩ := hw
        refine r_getr h kci10 in10 (k := 4) (by decide) rfl rfl q213 h10 h12 dX9_addExhibition_41 ?_
        obtain ⟨h13, hw⟩ := hw
        obtain ⟨b14, h15, hw⟩ := hw
        refine r_getrN h kci2 in2 (k := 0) (by decide) rfl rfl n153 h13 h15 dX9_addExhibition_44 ?_
        obtain ⟨h16, hw⟩ := hw
        refine r_callV h (fun l => c_Jx4a65c_size_8abf5 l _ _ _ hw) q238 q239 q240 q59 q241 nd_Jx4a65c_size_8abf5 ⟨by decide, by decide⟩ rfl rfl ⟨by decide, by decide⟩ kci0 rfl h16 rfl (by first | decide | exact nl rfl) rfl dX9_addExhibition_47 nxk (kI fun r17 S18 hw => ?_)
        refine r_bipush h (v := 8) (by decide) dX9_addExhibition_50 ?_
        refine r_icmp_lt h 65 dX9_addExhibition_52 (by decide) (fun hc => ?_) (fun hc => ?_)
        · replace hw := hw.1 hc
          refine r_new h kci3 in3 tyX2_ok df3 q394 q855 q82 (by first | decide | exact nl rfl) (by first | decide | exact nl rfl) dX9_addExhibition_65 (fun q20 h21 => ?_)
          replace hw := hw q20 h21
          refine r_dup h rfl dX9_addExhibition_68 ?_
          refine r_aload_n h 0 rfl rfl dX9_addExhibition_69 ?_
          obtain ⟨h24, hw⟩ := hw
          obtain ⟨b25, h26, hw⟩ := hw
          refine r_getr h kci10 in10 (k := 4) (by decide) rfl rfl q213 h24 h26 dX9_addExhibition_70 ?_
          obtain ⟨h27, hw⟩ := hw
          obtain ⟨b28, h29, hw⟩ := hw
          refine r_getrN h kci2 in2 (k := 0) (by decide) rfl rfl n153 h27 h29 dX9_addExhibition_73 ?_
          obtain ⟨h30, hw⟩ := hw
          refine r_callV h (fun l => c_Jx4a65c_size_8abf5 l _ _ _ hw) q238 q239 q240 q59 q241 nd_Jx4a65c_size_8abf5 ⟨by decide, by decide⟩ rfl rfl ⟨by decide, by decide⟩ kci0 rfl h30 rfl (by first | decide | exact nl rfl) rfl dX9_addExhibition_76 nxk (kI fun r31 S32 hw => ?_)
          refine r_iload_n h 1 rfl rfl dX9_addExhibition_79 ?_
          refine r_iload_n h 2 rfl rfl dX9_addExhibition_80 ?_
          refine r_iload_n h 3 rfl rfl dX9_addExhibition_81 ?_
          refine r_callI h (fun l => c_X2_init l _ _ _ _ _ _ _ hw) q856 q857 q82 q858 nd_X2_init rfl ⟨by decide, by decide⟩ rfl rfl ⟨by decide, by decide⟩ (as := [.int r31, .int x1, .int x2, .int x3]) rfl (by first | decide | exact nl rfl) rfl dX9_addExhibition_82 nxk (kV fun  S34 hw => ?_)
          refine r_astore h [1, 0] (by decide) rfl dX9_addExhibition_85 ?_
          refine r_aload_n h 0 rfl rfl dX9_addExhibition_87 ?_
          obtain ⟨h36, hw⟩ := hw
          obtain ⟨b37, h38, hw⟩ := hw
          refine r_getr h kci10 in10 (k := 4) (by decide) rfl rfl q213 h36 h38 dX9_addExhibition_88 ?_
          obtain ⟨h39, hw⟩ := hw
          obtain ⟨b40, h41, hw⟩ := hw
          refine r_getrN h kci2 in2 (k := 0) (by decide) rfl rfl n153 h39 h41 dX9_addExhibition_91 ?_
          refine r_aload h 1 rfl dX9_addExhibition_94 ?_
          obtain ⟨h42, hw⟩ := hw
          refine r_callV h (fun l => c_Jx4a65c_add_9ea2d l _ _ _ _ hw) q586 q587 q588 q59 q589 nd_Jx4a65c_add_9ea2d ⟨by decide, by decide⟩ rfl rfl ⟨by decide, by decide⟩ kci0 rfl h42 rfl (by first | decide | exact nl rfl) rfl dX9_addExhibition_96 nxk (kI fun r43 S44 hw => ?_)
          refine r_pop h rfl dX9_addExhibition_99 ?_
          refine r_aload h 1 rfl dX9_addExhibition_100 ?_
          obtain ⟨h46, hw⟩ := hw
          refine r_getiN h kci3 in3 (k := 0) (by decide) rfl rfl n864 h46 dX9_addExhibition_102 ?_
          exact r_iret h hq rfl ⟨_, rfl, hw⟩ (by decide) (by decide) dX9_addExhibition_105
        · replace hw := hw.2 hc
          exact r_throwS h hq th80 q545 q69 (is := 162) (text := "there are 8 exhibitions") (by decide +kernel) hw dX9_addExhibition_55 dX9_addExhibition_58 dX9_addExhibition_59 dX9_addExhibition_61 dX9_addExhibition_64 (by first | decide | exact nl rfl) (by first | decide | exact nl rfl) (by first | decide | exact nl rfl) (by first | decide | exact nl rfl) (by first | decide | exact nl rfl) (by first | decide | exact nl rfl)
      · replace hw := hw.2 hc
        exact r_throwS h hq th66 q473 q68 (is := 64) (text := "a number is out of range") (by decide +kernel) hw dX9_addExhibition_30 dX9_addExhibition_33 dX9_addExhibition_34 dX9_addExhibition_36 dX9_addExhibition_39 (by first | decide | exact nl rfl) (by first | decide | exact nl rfl) (by first | decide | exact nl rfl) (by first | decide | exact nl rfl) (by first | decide | exact nl rfl) (by first | decide | exact nl rfl)

def w_X9_addLender (S : St) (a0 : Nat) (x1 : Int32) (x2 : Int32) (x3 : Int32) (f : Int32 → St → Prop) (exc : String → St → Prop) : Prop := w_X9_isWithin S x1 1 9999 (fun (r1 : Int32) (S2 : St) => (((r1 = 0) → exc "java/lang/IllegalArgumentException" S2) ∧ ((¬ r1 = 0) → w_X9_isWithin S2 x2 0 9 (fun (r4 : Int32) (S5 : St) => (((r4 = 0) → exc "java/lang/IllegalArgumentException" S5) ∧ ((¬ r4 = 0) → w_X9_isWithin S5 x3 1 100 (fun (r7 : Int32) (S8 : St) => (((¬ r7 = 0) → ok S8 a0 10 ∧ ∃ b11 : Nat, sP S8 a0 1 = some b11 ∧ ok S8 b11 0 ∧ w_Jx4a65c_size_8abf5 S8 b11 (fun (r14 : Int32) (S15 : St) => (((r14 < 4) → ∀ q17 : Nat, q17 ∉ sL S15 → let S19 : St := newO S15 q17 5; ok S19 a0 10 ∧ ∃ b22 : Nat, sP S19 a0 1 = some b22 ∧ ok S19 b22 0 ∧ w_Jx4a65c_size_8abf5 S19 b22 (fun (r25 : Int32) (S26 : St) => w_X4_init S26 q17 r25 x1 x2 x3 (fun (S28 : St) => ok S28 a0 10 ∧ ∃ b31 : Nat, sP S28 a0 1 = some b31 ∧ ok S28 b31 0 ∧ w_Jx4a65c_add_9ea2d S28 b31 q17 (fun (r34 : Int32) (S35 : St) => ok S35 q17 5 ∧ f (sI S35 q17 0) S35)))) ∧ ((¬ r14 < 4) → exc "java/lang/IllegalStateException" S15)))) ∧ ((r7 = 0) → exc "java/lang/IllegalArgumentException" S8)))))))))
set_option maxRecDepth 100000 in
set_option maxHeartbeats 4000000 in
theorem c_X9_addLender (l : Launch) (S : St) (a0 : Nat) (x1 : Int32) (x2 : Int32) (x3 : Int32) (f : Int32 → St → Prop) (exc : String → St → Prop) (hw : w_X9_addLender S a0 x1 x2 x3 f exc) : Ct l yX9_addLender (Cond.code yX9_addLender cX9_addLender 5 (some .int)) { frames := 7, cells := 2, slots := 24, locals := 191 } 2 24 S [.ref a0, .int x1, .int x2, .int x3] (pI f) exc := by
  refine entry (by decide +kernel) rfl rfl (by first | decide | exact nl rfl) rfl ?_
  intro X h hq
  unfold w_X9_addLender at hw
  refine r_iload_n h 1 rfl rfl dX9_addLender_0 ?_
  refine r_iconst h (v := 1) (by decide) dX9_addLender_1 ?_
  refine r_sipush h (v := 9999) (by decide) dX9_addLender_2 ?_
  refine r_callS h (fun l => c_X9_isWithin l _ _ _ _ _ hw) q472 q315 q55 q316 nd_X9_isWithin ⟨by decide, by decide⟩ rfl rfl ⟨by decide, by decide⟩ (as := [.int x1, .int 1, .int 9999]) rfl (by first | decide | exact nl rfl) rfl dX9_addLender_5 nxk (kI fun r1 S2 hw => ?_)
  refine r_if_eq h 31 dX9_addLender_8 (by decide) (fun hc => ?_) (fun hc => ?_)
  · replace hw := hw.1 hc
    exact r_throwS h hq th66 q473 q68 (is := 64) (text := "a number is out of range") (by decide +kernel) hw dX9_addLender_31 dX9_addLender_34 dX9_addLender_35 dX9_addLender_37 dX9_addLender_40 (by first | decide | exact nl rfl) (by first | decide | exact nl rfl) (by first | decide | exact nl rfl) (by first | decide | exact nl rfl) (by first | decide | exact nl rfl) (by first | decide | exact nl rfl)
  · replace hw := hw.2 hc
    refine r_iload_n h 2 rfl rfl dX9_addLender_11 ?_
    refine r_iconst h (v := 0) (by decide) dX9_addLender_12 ?_
    refine r_bipush h (v := 9) (by decide) dX9_addLender_13 ?_
    refine r_callS h (fun l => c_X9_isWithin l _ _ _ _ _ hw) q472 q315 q55 q316 nd_X9_isWithin ⟨by decide, by decide⟩ rfl rfl ⟨by decide, by decide⟩ (as := [.int x2, .int 0, .int 9]) rfl (by first | decide | exact nl rfl) rfl dX9_addLender_15 nxk (kI fun r4 S5 hw => ?_)
    refine r_if_eq h 31 dX9_addLender_18 (by decide) (fun hc => ?_) (fun hc => ?_)
    · replace hw := hw.1 hc
      exact r_throwS h hq th66 q473 q68 (is := 64) (text := "a number is out of range") (by decide +kernel) hw dX9_addLender_31 dX9_addLender_34 dX9_addLender_35 dX9_addLender_37 dX9_addLender_40 (by first | decide | exact nl rfl) (by first | decide | exact nl rfl) (by first | decide | exact nl rfl) (by first | decide | exact nl rfl) (by first | decide | exact nl rfl) (by first | decide | exact nl rfl)
    · replace hw := hw.2 hc
      refine r_iload_n h 3 rfl rfl dX9_addLender_21 ?_
      refine r_iconst h (v := 1) (by decide) dX9_addLender_22 ?_
      refine r_bipush h (v := 100) (by decide) dX9_addLender_23 ?_
      refine r_callS h (fun l => c_X9_isWithin l _ _ _ _ _ hw) q472 q315 q55 q316 nd_X9_isWithin ⟨by decide, by decide⟩ rfl rfl ⟨by decide, by decide⟩ (as := [.int x3, .int 1, .int 100]) rfl (by first | decide | exact nl rfl) rfl dX9_addLender_25 nxk (kI fun r7 S8 hw => ?_)
      refine r_if_ne h 41 dX9_addLender_28 (by decide) (fun hc => ?_) (fun hc => ?_)
      · replace hw := hw.1 hc
        refine r_aload_n h 0 rfl rfl dX9_addLender_41 ?_
        obtain ⟨h10, hw⟩ := hw
        obtain ⟨b11, h12, hw⟩ := hw
        refine r_getr h kci10 in10 (k := 1) (by decide) rfl rfl q210 h10 h12 dX9_addLender_42 ?_
        obtain ⟨h13, hw⟩ := hw
        refine r_callV h (fun l => c_Jx4a65c_size_8abf5 l _ _ _ hw) q238 q239 q240 q59 q241 nd_Jx4a65c_size_8abf5 ⟨by decide, by decide⟩ rfl rfl ⟨by decide, by decide⟩ kci0 rfl h13 rfl (by first | decide | exact nl rfl) rfl dX9_addLender_45 nxk (kI fun r14 S15 hw => ?_)
        refine r_iconst h (v := 4) (by decide) dX9_addLender_48 ?_
        refine r_icmp_lt h 62 dX9_addLender_49 (by decide) (fun hc => ?_) (fun hc => ?_)
        · replace hw := hw.1 hc
          refine r_new h kci5 in5 tyX4_ok df5 q724 q725 q80 (by first | decide | exact nl rfl) (by first | decide | exact nl rfl) dX9_addLender_62 (fun q17 h18 => ?_)
          replace hw := hw q17 h18
          refine r_dup h rfl dX9_addLender_65 ?_
          refine r_aload_n h 0 rfl rfl dX9_addLender_66 ?_
          obtain ⟨h21, hw⟩ := hw
          obtain ⟨b22, h23, hw⟩ := hw
          refine r_getr h kci10 in10 (k := 1) (by decide) rfl rfl q210 h21 h23 dX9_addLender_67 ?_
          obtain ⟨h24, hw⟩ := hw
          refine r_callV h (fun l => c_Jx4a65c_size_8abf5 l _ _ _ hw) q238 q239 q240 q59 q241 nd_Jx4a65c_size_8abf5 ⟨by decide, by decide⟩ rfl rfl ⟨by decide, by decide⟩ kci0 rfl h24 rfl (by first | decide | exact nl rfl) rfl dX9_addLender_70 nxk (kI fun r25 S26 hw => ?_)
          refine r_iload_n h 1 rfl rfl dX9_addLender_73 ?_
          refine r_iload_n h 2 rfl rfl dX9_addLender_74 ?_
          refine r_iload_n h 3 rfl rfl dX9_addLender_75 ?_
          refine r_callI h (fun l => c_X4_init l _ _ _ _ _ _ _ hw) q726 q727 q80 q728 nd_X4_init rfl ⟨by decide, by decide⟩ rfl rfl ⟨by decide, by decide⟩ (as := [.int r25, .int x1, .int x2, .int x3]) rfl (by first | decide | exact nl rfl) rfl dX9_addLender_76 nxk (kV fun  S28 hw => ?_)
          refine r_astore h [1, 0] (by decide) rfl dX9_addLender_79 ?_
          refine r_aload_n h 0 rfl rfl dX9_addLender_81 ?_
          obtain ⟨h30, hw⟩ := hw
          obtain ⟨b31, h32, hw⟩ := hw
          refine r_getr h kci10 in10 (k := 1) (by decide) rfl rfl q210 h30 h32 dX9_addLender_82 ?_
          refine r_aload h 1 rfl dX9_addLender_85 ?_
          obtain ⟨h33, hw⟩ := hw
          refine r_callV h (fun l => c_Jx4a65c_add_9ea2d l _ _ _ _ hw) q586 q587 q588 q59 q589 nd_Jx4a65c_add_9ea2d ⟨by decide, by decide⟩ rfl rfl ⟨by decide, by decide⟩ kci0 rfl h33 rfl (by first | decide | exact nl rfl) rfl dX9_addLender_87 nxk (kI fun r34 S35 hw => ?_)
          refine r_pop h rfl dX9_addLender_90 ?_
          refine r_aload h 1 rfl dX9_addLender_91 ?_
          obtain ⟨h37, hw⟩ := hw
          refine r_getiN h kci5 in5 (k := 0) (by decide) rfl rfl n732 h37 dX9_addLender_93 ?_
          exact r_iret h hq rfl ⟨_, rfl, hw⟩ (by decide) (by decide) dX9_addLender_96
        · replace hw := hw.2 hc
          exact r_throwS h hq th80 q545 q69 (is := 108) (text := "there are 4 lenders") (by decide +kernel) hw dX9_addLender_52 dX9_addLender_55 dX9_addLender_56 dX9_addLender_58 dX9_addLender_61 (by first | decide | exact nl rfl) (by first | decide | exact nl rfl) (by first | decide | exact nl rfl) (by first | decide | exact nl rfl) (by first | decide | exact nl rfl) (by first | decide | exact nl rfl)
      · replace hw := hw.2 hc
        exact r_throwS h hq th66 q473 q68 (is := 64) (text := "a number is out of range") (by decide +kernel) hw dX9_addLender_31 dX9_addLender_34 dX9_addLender_35 dX9_addLender_37 dX9_addLender_40 (by first | decide | exact nl rfl) (by first | decide | exact nl rfl) (by first | decide | exact nl rfl) (by first | decide | exact nl rfl) (by first | decide | exact nl rfl) (by first | decide | exact nl rfl)

def w_X9_findsWorkByWork (S : St) (a0 : Nat) (a1 : Nat) (f : Int32 → St → Prop) : Prop := ok S a0 10 ∧ ∃ b2 : Nat, sP S a0 5 = some b2 ∧ ∃ b4 : Nat, sP S a0 0 = some b4 ∧ ∃ b6 : Nat, sP S a0 4 = some b6 ∧ ∃ b8 : Nat, sP S a0 3 = some b8 ∧ ok S b2 1 ∧ w_X0_prepare S b2 a1 b4 b6 b8 (fun (r11 : Int32) (S12 : St) => (((r11 = 0) → f 0 S12) ∧ ((¬ r11 = 0) → ok S12 a0 10 ∧ ∃ b15 : Nat, sP S12 a0 5 = some b15 ∧ ok S12 b15 1 ∧ w_X0_hangWorkByWork S12 b15 (fun (r18 : Int32) (S19 : St) => (((r18 = 0) → f 0 S19) ∧ ((¬ r18 = 0) → f 1 S19))))))
set_option maxRecDepth 100000 in
set_option maxHeartbeats 4000000 in
theorem c_X9_findsWorkByWork (l : Launch) (S : St) (a0 : Nat) (a1 : Nat) (f : Int32 → St → Prop) (hw : w_X9_findsWorkByWork S a0 a1 f) : Ct l yX9_findsWorkByWork (Cond.code yX9_findsWorkByWork cX9_findsWorkByWork 2 (some .boolean)) { frames := 11, cells := 0, slots := 0, locals := 243 } 0 0 S [.ref a0, .ref a1] (pI f) nox := by
  refine entry (by decide +kernel) rfl rfl (by first | decide | exact nl rfl) rfl ?_
  intro X h hq
  unfold w_X9_findsWorkByWork at hw
  refine r_aload_n h 0 rfl rfl dX9_findsWorkByWork_0 ?_
  obtain ⟨h1, hw⟩ := hw
  obtain ⟨b2, h3, hw⟩ := hw
  refine r_getr h kci10 in10 (k := 5) (by decide) rfl rfl q214 h1 h3 dX9_findsWorkByWork_1 ?_
  refine r_aload_n h 1 rfl rfl dX9_findsWorkByWork_4 ?_
  refine r_aload_n h 0 rfl rfl dX9_findsWorkByWork_5 ?_
  obtain ⟨b4, h5, hw⟩ := hw
  refine r_getr h kci10 in10 (k := 0) (by decide) rfl rfl q209 h1 h5 dX9_findsWorkByWork_6 ?_
  refine r_aload_n h 0 rfl rfl dX9_findsWorkByWork_9 ?_
  obtain ⟨b6, h7, hw⟩ := hw
  refine r_getr h kci10 in10 (k := 4) (by decide) rfl rfl q213 h1 h7 dX9_findsWorkByWork_10 ?_
  refine r_aload_n h 0 rfl rfl dX9_findsWorkByWork_13 ?_
  obtain ⟨b8, h9, hw⟩ := hw
  refine r_getr h kci10 in10 (k := 3) (by decide) rfl rfl q212 h1 h9 dX9_findsWorkByWork_14 ?_
  obtain ⟨h10, hw⟩ := hw
  refine r_callV h (fun l => c_X0_prepare l _ _ _ _ _ _ _ hw) q399 q400 q401 q62 q402 nd_X0_prepare ⟨by decide, by decide⟩ rfl rfl ⟨by decide, by decide⟩ kci1 rfl h10 rfl (by first | decide | exact nl rfl) rfl dX9_findsWorkByWork_17 nxk (kI fun r11 S12 hw => ?_)
  refine r_if_eq h 37 dX9_findsWorkByWork_20 (by decide) (fun hc => ?_) (fun hc => ?_)
  · replace hw := hw.1 hc
    refine r_iconst h (v := 0) (by decide) dX9_findsWorkByWork_37 ?_
    exact r_zret h hq (ty := .boolean) rfl rfl ⟨_, rfl, hw⟩ (by decide) (by decide) dX9_findsWorkByWork_38
  · replace hw := hw.2 hc
    refine r_aload_n h 0 rfl rfl dX9_findsWorkByWork_23 ?_
    obtain ⟨h14, hw⟩ := hw
    obtain ⟨b15, h16, hw⟩ := hw
    refine r_getr h kci10 in10 (k := 5) (by decide) rfl rfl q214 h14 h16 dX9_findsWorkByWork_24 ?_
    obtain ⟨h17, hw⟩ := hw
    refine r_callV h (fun l => c_X0_hangWorkByWork l _ _ _ hw) q428 q429 q430 q62 q431 nd_X0_hangWorkByWork ⟨by decide, by decide⟩ rfl rfl ⟨by decide, by decide⟩ kci1 rfl h17 rfl (by first | decide | exact nl rfl) rfl dX9_findsWorkByWork_27 nxk (kI fun r18 S19 hw => ?_)
    refine r_if_eq h 37 dX9_findsWorkByWork_30 (by decide) (fun hc => ?_) (fun hc => ?_)
    · replace hw := hw.1 hc
      refine r_iconst h (v := 0) (by decide) dX9_findsWorkByWork_37 ?_
      exact r_zret h hq (ty := .boolean) rfl rfl ⟨_, rfl, hw⟩ (by decide) (by decide) dX9_findsWorkByWork_38
    · replace hw := hw.2 hc
      refine r_iconst h (v := 1) (by decide) dX9_findsWorkByWork_33 ?_
      refine r_goto h 38 dX9_findsWorkByWork_34 (by decide) ?_
      exact r_zret h hq (ty := .boolean) rfl rfl ⟨_, rfl, hw⟩ (by decide) (by decide) dX9_findsWorkByWork_38

def w_X9_hangAsFound (S : St) (a0 : Nat) (a1 : Nat) (f : St → Prop) : Prop := ok S a0 10 ∧ ∃ b2 : Nat, sP S a0 5 = some b2 ∧ ok S b2 1 ∧ ∃ b5 : Nat, sP S b2 4 = some b5 ∧ ok S a1 3 ∧ w_X2_hangAs S a1 b5 (fun (S8 : St) => ok S8 a0 10 ∧ let S11 : St := setI S8 a0 7 ((sI S8 a0 7) + 1); f S11)
set_option maxRecDepth 100000 in
set_option maxHeartbeats 4000000 in
theorem c_X9_hangAsFound (l : Launch) (S : St) (a0 : Nat) (a1 : Nat) (f : St → Prop) (hw : w_X9_hangAsFound S a0 a1 f) : Ct l yX9_hangAsFound (Cond.code yX9_hangAsFound cX9_hangAsFound 2 none) { frames := 2, cells := 0, slots := 0, locals := 44 } 0 0 S [.ref a0, .ref a1] (pV f) nox := by
  refine entry (by decide +kernel) rfl rfl (by first | decide | exact nl rfl) rfl ?_
  intro X h hq
  unfold w_X9_hangAsFound at hw
  refine r_aload_n h 1 rfl rfl dX9_hangAsFound_0 ?_
  refine r_aload_n h 0 rfl rfl dX9_hangAsFound_1 ?_
  obtain ⟨h1, hw⟩ := hw
  obtain ⟨b2, h3, hw⟩ := hw
  refine r_getr h kci10 in10 (k := 5) (by decide) rfl rfl q214 h1 h3 dX9_hangAsFound_2 ?_
  obtain ⟨h4, hw⟩ := hw
  obtain ⟨b5, h6, hw⟩ := hw
  refine r_getrN h kci1 in1 (k := 4) (by decide) rfl rfl n168 h4 h6 dX9_hangAsFound_5 ?_
  obtain ⟨h7, hw⟩ := hw
  refine r_callV h (fun l => c_X2_hangAs l _ _ _ _ hw) q658 q659 q660 q82 q661 nd_X2_hangAs ⟨by decide, by decide⟩ rfl rfl ⟨by decide, by decide⟩ kci3 rfl h7 rfl (by first | decide | exact nl rfl) rfl dX9_hangAsFound_8 nxk (kV fun  S8 hw => ?_)
  refine r_aload_n h 0 rfl rfl dX9_hangAsFound_11 ?_
  refine r_dup h rfl dX9_hangAsFound_12 ?_
  obtain ⟨h10, hw⟩ := hw
  refine r_geti h kci10 in10 (k := 7) (by decide) rfl rfl q216 h10 dX9_hangAsFound_13 ?_
  refine r_iconst h (v := 1) (by decide) dX9_hangAsFound_16 ?_
  refine r_iadd h dX9_hangAsFound_17 ?_
  refine r_puti h kci10 in10 tyX9_ok nmX9 (k := 7) (by decide) rfl rfl rfl rfl rfl rfl q216 h10 dX9_hangAsFound_18 ?_
  exact r_vret h hq rfl ⟨rfl, hw⟩ (by decide) (by decide) dX9_hangAsFound_21

def wl_X9_planThoseThatWait_4 (f : Int32 → St → Prop) : Nat → St → Nat → Int32 → Int32 → Prop
  | 0, _, _, _, _ => False
  | n + 1, S, a0, x1, x2 => ok S a0 10 ∧ ∃ b3 : Nat, sP S a0 4 = some b3 ∧ ok S b3 2 ∧ ∃ b6 : Nat, sP S b3 0 = some b6 ∧ ok S b6 0 ∧ w_Jx4a65c_size_8abf5 S b6 (fun (r9 : Int32) (S10 : St) => (((r9 ≤ x2) → f x1 S10) ∧ ((¬ r9 ≤ x2) → ok S10 a0 10 ∧ ∃ b13 : Nat, sP S10 a0 4 = some b13 ∧ ok S10 b13 2 ∧ ∃ b16 : Nat, sP S10 b13 0 = some b16 ∧ ok S10 b16 0 ∧ w_Jx4a65c_get_915e3 S10 b16 x2 (fun (b19 : Nat) (S20 : St) => ok S20 b19 3 ∧ (((¬ (sI S20 b19 6) = 119) → wl_X9_planThoseThatWait_4 f n S20 a0 x1 (x2 + 1)) ∧ (((sI S20 b19 6) = 119) → ok S20 a0 10 ∧ w_X9_findsWorkByWork S20 a0 b19 (fun (r24 : Int32) (S25 : St) => (((r24 = 0) → wl_X9_planThoseThatWait_4 f n S25 a0 x1 (x2 + 1)) ∧ ((¬ r24 = 0) → ok S25 a0 10 ∧ w_X9_hangAsFound S25 a0 b19 (fun (S28 : St) => wl_X9_planThoseThatWait_4 f n S28 a0 (x1 + 1) (x2 + 1)))))))))))
def w_X9_planThoseThatWait (S : St) (a0 : Nat) (f : Int32 → St → Prop) : Prop := (∃ m : Nat, wl_X9_planThoseThatWait_4 f m S a0 0 0)
set_option maxRecDepth 100000 in
set_option maxHeartbeats 4000000 in
theorem c_X9_planThoseThatWait (l : Launch) (S : St) (a0 : Nat) (f : Int32 → St → Prop) (hw : w_X9_planThoseThatWait S a0 f) : Ct l yX9_planThoseThatWait (Cond.code yX9_planThoseThatWait cX9_planThoseThatWait 4 (some .int)) { frames := 12, cells := 0, slots := 0, locals := 264 } 0 0 S [.ref a0] (pI f) nox := by
  refine entry (by decide +kernel) rfl rfl (by first | decide | exact nl rfl) rfl ?_
  intro X h hq
  have L4 : ∀ (n : Nat) (S : St) (a0 : Nat) (x1 : Int32) (x2 : Int32), wl_X9_planThoseThatWait_4 f n S a0 x1 x2 → pw X 0 0 S 4 [(0, .ref a0), (1, .int x1), (2, .int x2)] [] := by
    intro n
    induction n with
    | zero => intro S a0 x1 x2 hw; exact hw.elim
    | succ n ih =>
      intro S a0 x1 x2 hw
      unfold wl_X9_planThoseThatWait_4 at hw
      refine r_iload_n h 2 rfl rfl dX9_planThoseThatWait_4 ?_
      refine r_aload_n h 0 rfl rfl dX9_planThoseThatWait_5 ?_
      obtain ⟨h2, hw⟩ := hw
      obtain ⟨b3, h4, hw⟩ := hw
      refine r_getr h kci10 in10 (k := 4) (by decide) rfl rfl q213 h2 h4 dX9_planThoseThatWait_6 ?_
      obtain ⟨h5, hw⟩ := hw
      obtain ⟨b6, h7, hw⟩ := hw
      refine r_getrN h kci2 in2 (k := 0) (by decide) rfl rfl n153 h5 h7 dX9_planThoseThatWait_9 ?_
      obtain ⟨h8, hw⟩ := hw
      refine r_callV h (fun l => c_Jx4a65c_size_8abf5 l _ _ _ hw) q238 q239 q240 q59 q241 nd_Jx4a65c_size_8abf5 ⟨by decide, by decide⟩ rfl rfl ⟨by decide, by decide⟩ kci0 rfl h8 rfl (by first | decide | exact nl rfl) rfl dX9_planThoseThatWait_12 nxk (kI fun r9 S10 hw => ?_)
      refine r_icmp_ge h 64 dX9_planThoseThatWait_15 (by decide) (fun hc => ?_) (fun hc => ?_)
      · replace hw := hw.1 hc
        refine r_iload_n h 1 rfl rfl dX9_planThoseThatWait_64 ?_
        exact r_iret h hq rfl ⟨_, rfl, hw⟩ (by decide) (by decide) dX9_planThoseThatWait_65
      · replace hw := hw.2 hc
        refine r_aload_n h 0 rfl rfl dX9_planThoseThatWait_18 ?_
        obtain ⟨h12, hw⟩ := hw
        obtain ⟨b13, h14, hw⟩ := hw
        refine r_getr h kci10 in10 (k := 4) (by decide) rfl rfl q213 h12 h14 dX9_planThoseThatWait_19 ?_
        obtain ⟨h15, hw⟩ := hw
        obtain ⟨b16, h17, hw⟩ := hw
        refine r_getrN h kci2 in2 (k := 0) (by decide) rfl rfl n153 h15 h17 dX9_planThoseThatWait_22 ?_
        refine r_iload_n h 2 rfl rfl dX9_planThoseThatWait_25 ?_
        obtain ⟨h18, hw⟩ := hw
        refine r_callV h (fun l => c_Jx4a65c_get_915e3 l _ _ _ _ hw) q393 q260 q261 q59 q262 nd_Jx4a65c_get_915e3 ⟨by decide, by decide⟩ rfl rfl ⟨by decide, by decide⟩ kci0 rfl h18 rfl (by first | decide | exact nl rfl) rfl dX9_planThoseThatWait_26 nxk (kA fun b19 S20 hw => ?_)
        obtain ⟨h22, hw⟩ := hw
        refine r_castS h kci3 q394 h22 dX9_planThoseThatWait_29 ?_
        refine r_astore_n h [1, 2, 3, 0] rfl (by decide) rfl dX9_planThoseThatWait_32 ?_
        refine r_aload_n h 3 rfl rfl dX9_planThoseThatWait_33 ?_
        refine r_getiN h kci3 in3 (k := 6) (by decide) rfl rfl n882 h22 dX9_planThoseThatWait_34 ?_
        refine r_bipush h (v := 119) (by decide) dX9_planThoseThatWait_37 ?_
        refine r_icmp_ne h 58 dX9_planThoseThatWait_39 (by decide) (fun hc => ?_) (fun hc => ?_)
        · replace hw := hw.1 hc
          refine r_iinc h (j := 2) (v := (x2 + 1)) [1, 2, 0, 3] rfl rfl (by decide) rfl dX9_planThoseThatWait_58 ?_
          refine r_goto h 4 dX9_planThoseThatWait_61 (by decide) ?_
          refine r_vs [0, 1, 2] rfl ?_
          exact ih _ _ _ _ hw
        · replace hw := hw.2 hc
          refine r_aload_n h 0 rfl rfl dX9_planThoseThatWait_42 ?_
          refine r_aload_n h 3 rfl rfl dX9_planThoseThatWait_43 ?_
          obtain ⟨h23, hw⟩ := hw
          refine r_callV h (fun l => c_X9_findsWorkByWork l _ _ _ _ hw) q395 q397 q4 q55 q398 nd_X9_findsWorkByWork ⟨by decide, by decide⟩ rfl rfl ⟨by decide, by decide⟩ kci10 rfl h23 rfl (by first | decide | exact nl rfl) rfl dX9_planThoseThatWait_44 nxk (kI fun r24 S25 hw => ?_)
          refine r_if_eq h 58 dX9_planThoseThatWait_47 (by decide) (fun hc => ?_) (fun hc => ?_)
          · replace hw := hw.1 hc
            refine r_iinc h (j := 2) (v := (x2 + 1)) [1, 2, 0, 3] rfl rfl (by decide) rfl dX9_planThoseThatWait_58 ?_
            refine r_goto h 4 dX9_planThoseThatWait_61 (by decide) ?_
            refine r_vs [0, 1, 2] rfl ?_
            exact ih _ _ _ _ hw
          · replace hw := hw.2 hc
            refine r_aload_n h 0 rfl rfl dX9_planThoseThatWait_50 ?_
            refine r_aload_n h 3 rfl rfl dX9_planThoseThatWait_51 ?_
            obtain ⟨h27, hw⟩ := hw
            refine r_callV h (fun l => c_X9_hangAsFound l _ _ _ _ hw) q654 q656 q15 q55 q657 nd_X9_hangAsFound ⟨by decide, by decide⟩ rfl rfl ⟨by decide, by decide⟩ kci10 rfl h27 rfl (by first | decide | exact nl rfl) rfl dX9_planThoseThatWait_52 nxk (kV fun  S28 hw => ?_)
            refine r_iinc h (j := 1) (v := (x1 + 1)) [1, 0, 2, 3] rfl rfl (by decide) rfl dX9_planThoseThatWait_55 ?_
            refine r_iinc h (j := 2) (v := (x2 + 1)) [1, 2, 0, 3] rfl rfl (by decide) rfl dX9_planThoseThatWait_58 ?_
            refine r_goto h 4 dX9_planThoseThatWait_61 (by decide) ?_
            refine r_vs [0, 1, 2] rfl ?_
            exact ih _ _ _ _ hw
  unfold w_X9_planThoseThatWait at hw
  refine r_iconst h (v := 0) (by decide) dX9_planThoseThatWait_0 ?_
  refine r_istore_n h [1, 0] rfl (by decide) rfl dX9_planThoseThatWait_1 ?_
  refine r_iconst h (v := 0) (by decide) dX9_planThoseThatWait_2 ?_
  refine r_istore_n h [1, 2, 0] rfl (by decide) rfl dX9_planThoseThatWait_3 ?_
  obtain ⟨m, hw⟩ := hw
  exact L4 m _ _ _ _ hw

def w_X9_addRoom (S : St) (a0 : Nat) (x1 : Int32) (x2 : Int32) (x3 : Int32) (x4 : Int32) (f : Int32 → St → Prop) (exc : String → St → Prop) : Prop := w_X9_isClimate S x1 x2 (fun (r1 : Int32) (S2 : St) => (((r1 = 0) → exc "java/lang/IllegalArgumentException" S2) ∧ ((¬ r1 = 0) → w_X9_isWithin S2 x3 1 400 (fun (r4 : Int32) (S5 : St) => (((r4 = 0) → exc "java/lang/IllegalArgumentException" S5) ∧ ((¬ r4 = 0) → w_X9_isWithin S5 x4 1 400 (fun (r7 : Int32) (S8 : St) => (((¬ r7 = 0) → ok S8 a0 10 ∧ ∃ b11 : Nat, sP S8 a0 0 = some b11 ∧ ok S8 b11 4 ∧ ∃ b14 : Nat, sP S8 b11 0 = some b14 ∧ ok S8 b14 0 ∧ w_Jx4a65c_size_8abf5 S8 b14 (fun (r17 : Int32) (S18 : St) => (((r17 < 4) → ok S18 a0 10 ∧ ∃ b21 : Nat, sP S18 a0 0 = some b21 ∧ ok S18 b21 4 ∧ ∃ b24 : Nat, sP S18 b21 0 = some b24 ∧ ∀ q26 : Nat, q26 ∉ sL S18 → let S28 : St := newO S18 q26 7; w_X6_init S28 q26 x1 x2 x3 x4 (fun (S30 : St) => ok S30 b24 0 ∧ w_Jx4a65c_add_9ea2d S30 b24 q26 (fun (r33 : Int32) (S34 : St) => ok S34 a0 10 ∧ w_X9_planThoseThatWait S34 a0 (fun (r37 : Int32) (S38 : St) => ok S38 a0 10 ∧ ∃ b41 : Nat, sP S38 a0 0 = some b41 ∧ ok S38 b41 4 ∧ ∃ b44 : Nat, sP S38 b41 0 = some b44 ∧ ok S38 b44 0 ∧ w_Jx4a65c_size_8abf5 S38 b44 (fun (r47 : Int32) (S48 : St) => f (r47 - 1) S48))))) ∧ ((¬ r17 < 4) → exc "java/lang/IllegalStateException" S18)))) ∧ ((r7 = 0) → exc "java/lang/IllegalArgumentException" S8)))))))))
set_option maxRecDepth 100000 in
set_option maxHeartbeats 4000000 in
theorem c_X9_addRoom (l : Launch) (S : St) (a0 : Nat) (x1 : Int32) (x2 : Int32) (x3 : Int32) (x4 : Int32) (f : Int32 → St → Prop) (exc : String → St → Prop) (hw : w_X9_addRoom S a0 x1 x2 x3 x4 f exc) : Ct l yX9_addRoom (Cond.code yX9_addRoom cX9_addRoom 5 (some .int)) { frames := 13, cells := 2, slots := 24, locals := 287 } 2 24 S [.ref a0, .int x1, .int x2, .int x3, .int x4] (pI f) exc := by
  refine entry (by decide +kernel) rfl rfl (by first | decide | exact nl rfl) rfl ?_
  intro X h hq
  unfold w_X9_addRoom at hw
  refine r_iload_n h 1 rfl rfl dX9_addRoom_0 ?_
  refine r_iload_n h 2 rfl rfl dX9_addRoom_1 ?_
  refine r_callS h (fun l => c_X9_isClimate l _ _ _ _ hw) q469 q470 q55 q471 nd_X9_isClimate ⟨by decide, by decide⟩ rfl rfl ⟨by decide, by decide⟩ (as := [.int x1, .int x2]) rfl (by first | decide | exact nl rfl) rfl dX9_addRoom_2 nxk (kI fun r1 S2 hw => ?_)
  refine r_if_eq h 31 dX9_addRoom_5 (by decide) (fun hc => ?_) (fun hc => ?_)
  · replace hw := hw.1 hc
    exact r_throwS h hq th66 q473 q68 (is := 64) (text := "a number is out of range") (by decide +kernel) hw dX9_addRoom_31 dX9_addRoom_34 dX9_addRoom_35 dX9_addRoom_37 dX9_addRoom_40 (by first | decide | exact nl rfl) (by first | decide | exact nl rfl) (by first | decide | exact nl rfl) (by first | decide | exact nl rfl) (by first | decide | exact nl rfl) (by first | decide | exact nl rfl)
  · replace hw := hw.2 hc
    refine r_iload_n h 3 rfl rfl dX9_addRoom_8 ?_
    refine r_iconst h (v := 1) (by decide) dX9_addRoom_9 ?_
    refine r_sipush h (v := 400) (by decide) dX9_addRoom_10 ?_
    refine r_callS h (fun l => c_X9_isWithin l _ _ _ _ _ hw) q472 q315 q55 q316 nd_X9_isWithin ⟨by decide, by decide⟩ rfl rfl ⟨by decide, by decide⟩ (as := [.int x3, .int 1, .int 400]) rfl (by first | decide | exact nl rfl) rfl dX9_addRoom_13 nxk (kI fun r4 S5 hw => ?_)
    refine r_if_eq h 31 dX9_addRoom_16 (by decide) (fun hc => ?_) (fun hc => ?_)
    · replace hw := hw.1 hc
      exact r_throwS h hq th66 q473 q68 (is := 64) (text := "a number is out of range") (by decide +kernel) hw dX9_addRoom_31 dX9_addRoom_34 dX9_addRoom_35 dX9_addRoom_37 dX9_addRoom_40 (by first | decide | exact nl rfl) (by first | decide | exact nl rfl) (by first | decide | exact nl rfl) (by first | decide | exact nl rfl) (by first | decide | exact nl rfl) (by first | decide | exact nl rfl)
    · replace hw := hw.2 hc
      refine r_iload h 4 rfl dX9_addRoom_19 ?_
      refine r_iconst h (v := 1) (by decide) dX9_addRoom_21 ?_
      refine r_sipush h (v := 400) (by decide) dX9_addRoom_22 ?_
      refine r_callS h (fun l => c_X9_isWithin l _ _ _ _ _ hw) q472 q315 q55 q316 nd_X9_isWithin ⟨by decide, by decide⟩ rfl rfl ⟨by decide, by decide⟩ (as := [.int x4, .int 1, .int 400]) rfl (by first | decide | exact nl rfl) rfl dX9_addRoom_25 nxk (kI fun r7 S8 hw => ?_)
      refine r_if_ne h 41 dX9_addRoom_28 (by decide) (fun hc => ?_) (fun hc => ?_)
      · replace hw := hw.1 hc
        refine r_aload_n h 0 rfl rfl dX9_addRoom_41 ?_
        obtain ⟨h10, hw⟩ := hw
        obtain ⟨b11, h12, hw⟩ := hw
        refine r_getr h kci10 in10 (k := 0) (by decide) rfl rfl q209 h10 h12 dX9_addRoom_42 ?_
        obtain ⟨h13, hw⟩ := hw
        obtain ⟨b14, h15, hw⟩ := hw
        refine r_getrN h kci4 in4 (k := 0) (by decide) rfl rfl n127 h13 h15 dX9_addRoom_45 ?_
        obtain ⟨h16, hw⟩ := hw
        refine r_callV h (fun l => c_Jx4a65c_size_8abf5 l _ _ _ hw) q238 q239 q240 q59 q241 nd_Jx4a65c_size_8abf5 ⟨by decide, by decide⟩ rfl rfl ⟨by decide, by decide⟩ kci0 rfl h16 rfl (by first | decide | exact nl rfl) rfl dX9_addRoom_48 nxk (kI fun r17 S18 hw => ?_)
        refine r_iconst h (v := 4) (by decide) dX9_addRoom_51 ?_
        refine r_icmp_lt h 65 dX9_addRoom_52 (by decide) (fun hc => ?_) (fun hc => ?_)
        · replace hw := hw.1 hc
          refine r_aload_n h 0 rfl rfl dX9_addRoom_65 ?_
          obtain ⟨h20, hw⟩ := hw
          obtain ⟨b21, h22, hw⟩ := hw
          refine r_getr h kci10 in10 (k := 0) (by decide) rfl rfl q209 h20 h22 dX9_addRoom_66 ?_
          obtain ⟨h23, hw⟩ := hw
          obtain ⟨b24, h25, hw⟩ := hw
          refine r_getrN h kci4 in4 (k := 0) (by decide) rfl rfl n127 h23 h25 dX9_addRoom_69 ?_
          refine r_new h kci7 in7 tyX6_ok df7 q561 q562 q70 (by first | decide | exact nl rfl) (by first | decide | exact nl rfl) dX9_addRoom_72 (fun q26 h27 => ?_)
          replace hw := hw q26 h27
          refine r_dup h rfl dX9_addRoom_75 ?_
          refine r_iload_n h 1 rfl rfl dX9_addRoom_76 ?_
          refine r_iload_n h 2 rfl rfl dX9_addRoom_77 ?_
          refine r_iload_n h 3 rfl rfl dX9_addRoom_78 ?_
          refine r_iload h 4 rfl dX9_addRoom_79 ?_
          refine r_callI h (fun l => c_X6_init l _ _ _ _ _ _ _ hw) q563 q564 q70 q565 nd_X6_init rfl ⟨by decide, by decide⟩ rfl rfl ⟨by decide, by decide⟩ (as := [.int x1, .int x2, .int x3, .int x4]) rfl (by first | decide | exact nl rfl) rfl dX9_addRoom_81 nxk (kV fun  S30 hw => ?_)
          obtain ⟨h32, hw⟩ := hw
          refine r_callV h (fun l => c_Jx4a65c_add_9ea2d l _ _ _ _ hw) q586 q587 q588 q59 q589 nd_Jx4a65c_add_9ea2d ⟨by decide, by decide⟩ rfl rfl ⟨by decide, by decide⟩ kci0 rfl h32 rfl (by first | decide | exact nl rfl) rfl dX9_addRoom_84 nxk (kI fun r33 S34 hw => ?_)
          refine r_pop h rfl dX9_addRoom_87 ?_
          refine r_aload_n h 0 rfl rfl dX9_addRoom_88 ?_
          obtain ⟨h36, hw⟩ := hw
          refine r_callV h (fun l => c_X9_planThoseThatWait l _ _ _ hw) q650 q652 q14 q55 q653 nd_X9_planThoseThatWait ⟨by decide, by decide⟩ rfl rfl ⟨by decide, by decide⟩ kci10 rfl h36 rfl (by first | decide | exact nl rfl) rfl dX9_addRoom_89 nxk (kI fun r37 S38 hw => ?_)
          refine r_pop h rfl dX9_addRoom_92 ?_
          refine r_aload_n h 0 rfl rfl dX9_addRoom_93 ?_
          obtain ⟨h40, hw⟩ := hw
          obtain ⟨b41, h42, hw⟩ := hw
          refine r_getr h kci10 in10 (k := 0) (by decide) rfl rfl q209 h40 h42 dX9_addRoom_94 ?_
          obtain ⟨h43, hw⟩ := hw
          obtain ⟨b44, h45, hw⟩ := hw
          refine r_getrN h kci4 in4 (k := 0) (by decide) rfl rfl n127 h43 h45 dX9_addRoom_97 ?_
          obtain ⟨h46, hw⟩ := hw
          refine r_callV h (fun l => c_Jx4a65c_size_8abf5 l _ _ _ hw) q238 q239 q240 q59 q241 nd_Jx4a65c_size_8abf5 ⟨by decide, by decide⟩ rfl rfl ⟨by decide, by decide⟩ kci0 rfl h46 rfl (by first | decide | exact nl rfl) rfl dX9_addRoom_100 nxk (kI fun r47 S48 hw => ?_)
          refine r_iconst h (v := 1) (by decide) dX9_addRoom_103 ?_
          refine r_isub h dX9_addRoom_104 ?_
          exact r_iret h hq rfl ⟨_, rfl, hw⟩ (by decide) (by decide) dX9_addRoom_105
        · replace hw := hw.2 hc
          exact r_throwS h hq th80 q545 q69 (is := 78) (text := "there are 4 rooms") (by decide +kernel) hw dX9_addRoom_55 dX9_addRoom_58 dX9_addRoom_59 dX9_addRoom_61 dX9_addRoom_64 (by first | decide | exact nl rfl) (by first | decide | exact nl rfl) (by first | decide | exact nl rfl) (by first | decide | exact nl rfl) (by first | decide | exact nl rfl) (by first | decide | exact nl rfl)
      · replace hw := hw.2 hc
        exact r_throwS h hq th66 q473 q68 (is := 64) (text := "a number is out of range") (by decide +kernel) hw dX9_addRoom_31 dX9_addRoom_34 dX9_addRoom_35 dX9_addRoom_37 dX9_addRoom_40 (by first | decide | exact nl rfl) (by first | decide | exact nl rfl) (by first | decide | exact nl rfl) (by first | decide | exact nl rfl) (by first | decide | exact nl rfl) (by first | decide | exact nl rfl)

def w_X9_addWork (S : St) (a0 : Nat) (x1 : Int32) (x2 : Int32) (x3 : Int32) (x4 : Int32) (x5 : Int32) (x6 : Int32) (f : Int32 → St → Prop) (exc : String → St → Prop) : Prop := w_X9_isWithin S x1 1 200 (fun (r1 : Int32) (S2 : St) => (((r1 = 0) → exc "java/lang/IllegalArgumentException" S2) ∧ ((¬ r1 = 0) → w_X9_isWithin S2 x2 0 100 (fun (r4 : Int32) (S5 : St) => (((r4 = 0) → exc "java/lang/IllegalArgumentException" S5) ∧ ((¬ r4 = 0) → w_X9_isWithin S5 x3 x2 100 (fun (r7 : Int32) (S8 : St) => (((r7 = 0) → exc "java/lang/IllegalArgumentException" S8) ∧ ((¬ r7 = 0) → w_X9_isWithin S8 x4 0 100 (fun (r10 : Int32) (S11 : St) => (((r10 = 0) → exc "java/lang/IllegalArgumentException" S11) ∧ ((¬ r10 = 0) → w_X9_isWithin S11 x5 1 999 (fun (r13 : Int32) (S14 : St) => (((¬ r13 = 0) → ok S14 a0 10 ∧ ∃ b17 : Nat, sP S14 a0 1 = some b17 ∧ ok S14 b17 0 ∧ w_Jx4a65c_size_8abf5 S14 b17 (fun (r20 : Int32) (S21 : St) => w_X9_isWithin S21 x6 (-1) (r20 - 1) (fun (r23 : Int32) (S24 : St) => (((¬ r23 = 0) → ok S24 a0 10 ∧ ∃ b27 : Nat, sP S24 a0 2 = some b27 ∧ ok S24 b27 0 ∧ w_Jx4a65c_size_8abf5 S24 b27 (fun (r30 : Int32) (S31 : St) => (((r30 < 12) → ok S31 a0 10 ∧ ∃ b34 : Nat, sP S31 a0 1 = some b34 ∧ ok S31 b34 0 ∧ w_Jx4a65c_size_8abf5 S31 b34 (fun (r37 : Int32) (S38 : St) => w_X9_isWithin S38 x6 0 (r37 - 1) (fun (r40 : Int32) (S41 : St) => (((r40 = 0) → ∀ q43 : Nat, q43 ∉ sL S41 → let S45 : St := newO S41 q43 9; ok S45 a0 10 ∧ ∃ b48 : Nat, sP S45 a0 2 = some b48 ∧ ok S45 b48 0 ∧ w_Jx4a65c_size_8abf5 S45 b48 (fun (r51 : Int32) (S52 : St) => w_X8_initN6 S52 q43 r51 x1 x2 x3 x4 x5 (fun (S54 : St) => ok S54 a0 10 ∧ ∃ b57 : Nat, sP S54 a0 2 = some b57 ∧ ok S54 b57 0 ∧ w_Jx4a65c_add_9ea2d S54 b57 q43 (fun (r60 : Int32) (S61 : St) => ok S61 q43 9 ∧ f (sI S61 q43 0) S61)))) ∧ ((¬ r40 = 0) → ok S41 a0 10 ∧ ∃ b65 : Nat, sP S41 a0 1 = some b65 ∧ ok S41 b65 0 ∧ w_Jx4a65c_get_915e3 S41 b65 x6 (fun (b68 : Nat) (S69 : St) => ok S69 b68 5 ∧ ∀ q72 : Nat, q72 ∉ sL S69 → let S74 : St := newO S69 q72 9; ok S74 a0 10 ∧ ∃ b77 : Nat, sP S74 a0 2 = some b77 ∧ ok S74 b77 0 ∧ w_Jx4a65c_size_8abf5 S74 b77 (fun (r80 : Int32) (S81 : St) => w_X8_init S81 q72 r80 x1 x2 x3 x4 x5 b68 (fun (S83 : St) => ok S83 a0 10 ∧ ∃ b86 : Nat, sP S83 a0 2 = some b86 ∧ ok S83 b86 0 ∧ w_Jx4a65c_add_9ea2d S83 b86 q72 (fun (r89 : Int32) (S90 : St) => ok S90 q72 9 ∧ f (sI S90 q72 0) S90))))))))) ∧ ((¬ r30 < 12) → exc "java/lang/IllegalStateException" S31)))) ∧ ((r23 = 0) → exc "java/lang/IllegalArgumentException" S24))))) ∧ ((r13 = 0) → exc "java/lang/IllegalArgumentException" S14)))))))))))))))
set_option maxRecDepth 100000 in
set_option maxHeartbeats 4000000 in
theorem c_X9_addWork (l : Launch) (S : St) (a0 : Nat) (x1 : Int32) (x2 : Int32) (x3 : Int32) (x4 : Int32) (x5 : Int32) (x6 : Int32) (f : Int32 → St → Prop) (exc : String → St → Prop) (hw : w_X9_addWork S a0 x1 x2 x3 x4 x5 x6 f exc) : Ct l yX9_addWork (Cond.code yX9_addWork cX9_addWork 9 (some .int)) { frames := 7, cells := 2, slots := 27, locals := 191 } 2 27 S [.ref a0, .int x1, .int x2, .int x3, .int x4, .int x5, .int x6] (pI f) exc := by
  refine entry (by decide +kernel) rfl rfl (by first | decide | exact nl rfl) rfl ?_
  intro X h hq
  unfold w_X9_addWork at hw
  refine r_iload_n h 1 rfl rfl dX9_addWork_0 ?_
  refine r_iconst h (v := 1) (by decide) dX9_addWork_1 ?_
  refine r_sipush h (v := 200) (by decide) dX9_addWork_2 ?_
  refine r_callS h (fun l => c_X9_isWithin l _ _ _ _ _ hw) q472 q315 q55 q316 nd_X9_isWithin ⟨by decide, by decide⟩ rfl rfl ⟨by decide, by decide⟩ (as := [.int x1, .int 1, .int 200]) rfl (by first | decide | exact nl rfl) rfl dX9_addWork_5 nxk (kI fun r1 S2 hw => ?_)
  refine r_if_eq h 54 dX9_addWork_8 (by decide) (fun hc => ?_) (fun hc => ?_)
  · replace hw := hw.1 hc
    exact r_throwS h hq th66 q473 q68 (is := 64) (text := "a number is out of range") (by decide +kernel) hw dX9_addWork_54 dX9_addWork_57 dX9_addWork_58 dX9_addWork_60 dX9_addWork_63 (by first | decide | exact nl rfl) (by first | decide | exact nl rfl) (by first | decide | exact nl rfl) (by first | decide | exact nl rfl) (by first | decide | exact nl rfl) (by first | decide | exact nl rfl)
  · replace hw := hw.2 hc
    refine r_iload_n h 2 rfl rfl dX9_addWork_11 ?_
    refine r_iconst h (v := 0) (by decide) dX9_addWork_12 ?_
    refine r_bipush h (v := 100) (by decide) dX9_addWork_13 ?_
    refine r_callS h (fun l => c_X9_isWithin l _ _ _ _ _ hw) q472 q315 q55 q316 nd_X9_isWithin ⟨by decide, by decide⟩ rfl rfl ⟨by decide, by decide⟩ (as := [.int x2, .int 0, .int 100]) rfl (by first | decide | exact nl rfl) rfl dX9_addWork_15 nxk (kI fun r4 S5 hw => ?_)
    refine r_if_eq h 54 dX9_addWork_18 (by decide) (fun hc => ?_) (fun hc => ?_)
    · replace hw := hw.1 hc
      exact r_throwS h hq th66 q473 q68 (is := 64) (text := "a number is out of range") (by decide +kernel) hw dX9_addWork_54 dX9_addWork_57 dX9_addWork_58 dX9_addWork_60 dX9_addWork_63 (by first | decide | exact nl rfl) (by first | decide | exact nl rfl) (by first | decide | exact nl rfl) (by first | decide | exact nl rfl) (by first | decide | exact nl rfl) (by first | decide | exact nl rfl)
    · replace hw := hw.2 hc
      refine r_iload_n h 3 rfl rfl dX9_addWork_21 ?_
      refine r_iload_n h 2 rfl rfl dX9_addWork_22 ?_
      refine r_bipush h (v := 100) (by decide) dX9_addWork_23 ?_
      refine r_callS h (fun l => c_X9_isWithin l _ _ _ _ _ hw) q472 q315 q55 q316 nd_X9_isWithin ⟨by decide, by decide⟩ rfl rfl ⟨by decide, by decide⟩ (as := [.int x3, .int x2, .int 100]) rfl (by first | decide | exact nl rfl) rfl dX9_addWork_25 nxk (kI fun r7 S8 hw => ?_)
      refine r_if_eq h 54 dX9_addWork_28 (by decide) (fun hc => ?_) (fun hc => ?_)
      · replace hw := hw.1 hc
        exact r_throwS h hq th66 q473 q68 (is := 64) (text := "a number is out of range") (by decide +kernel) hw dX9_addWork_54 dX9_addWork_57 dX9_addWork_58 dX9_addWork_60 dX9_addWork_63 (by first | decide | exact nl rfl) (by first | decide | exact nl rfl) (by first | decide | exact nl rfl) (by first | decide | exact nl rfl) (by first | decide | exact nl rfl) (by first | decide | exact nl rfl)
      · replace hw := hw.2 hc
        refine r_iload h 4 rfl dX9_addWork_31 ?_
        refine r_iconst h (v := 0) (by decide) dX9_addWork_33 ?_
        refine r_bipush h (v := 100) (by decide) dX9_addWork_34 ?_
        refine r_callS h (fun l => c_X9_isWithin l _ _ _ _ _ hw) q472 q315 q55 q316 nd_X9_isWithin ⟨by decide, by decide⟩ rfl rfl ⟨by decide, by decide⟩ (as := [.int x4, .int 0, .int 100]) rfl (by first | decide | exact nl rfl) rfl dX9_addWork_36 nxk (kI fun r10 S11 hw => ?_)
        refine r_if_eq h 54 dX9_addWork_39 (by decide) (fun hc => ?_) (fun hc => ?_)
        · replace hw := hw.1 hc
          exact r_throwS h hq th66 q473 q68 (is := 64) (text := "a number is out of range") (by decide +kernel) hw dX9_addWork_54 dX9_addWork_57 dX9_addWork_58 dX9_addWork_60 dX9_addWork_63 (by first | decide | exact nl rfl) (by first | decide | exact nl rfl) (by first | decide | exact nl rfl) (by first | decide | exact nl rfl) (by first | decide | exact nl rfl) (by first | decide | exact nl rfl)
        · replace hw := hw.2 hc
          refine r_iload h 5 rfl dX9_addWork_42 ?_
          refine r_iconst h (v := 1) (by decide) dX9_addWork_44 ?_
          refine r_sipush h (v := 999) (by decide) dX9_addWork_45 ?_
          refine r_callS h (fun l => c_X9_isWithin l _ _ _ _ _ hw) q472 q315 q55 q316 nd_X9_isWithin ⟨by decide, by decide⟩ rfl rfl ⟨by decide, by decide⟩ (as := [.int x5, .int 1, .int 999]) rfl (by first | decide | exact nl rfl) rfl dX9_addWork_48 nxk (kI fun r13 S14 hw => ?_)
          refine r_if_ne h 64 dX9_addWork_51 (by decide) (fun hc => ?_) (fun hc => ?_)
          · replace hw := hw.1 hc
            refine r_iload h 6 rfl dX9_addWork_64 ?_
            refine r_iconst h (v := (-1)) (by decide) dX9_addWork_66 ?_
            refine r_aload_n h 0 rfl rfl dX9_addWork_67 ?_
            obtain ⟨h16, hw⟩ := hw
            obtain ⟨b17, h18, hw⟩ := hw
            refine r_getr h kci10 in10 (k := 1) (by decide) rfl rfl q210 h16 h18 dX9_addWork_68 ?_
            obtain ⟨h19, hw⟩ := hw
            refine r_callV h (fun l => c_Jx4a65c_size_8abf5 l _ _ _ hw) q238 q239 q240 q59 q241 nd_Jx4a65c_size_8abf5 ⟨by decide, by decide⟩ rfl rfl ⟨by decide, by decide⟩ kci0 rfl h19 rfl (by first | decide | exact nl rfl) rfl dX9_addWork_71 nxk (kI fun r20 S21 hw => ?_)
            refine r_iconst h (v := 1) (by decide) dX9_addWork_74 ?_
            refine r_isub h dX9_addWork_75 ?_
            refine r_callS h (fun l => c_X9_isWithin l _ _ _ _ _ hw) q472 q315 q55 q316 nd_X9_isWithin ⟨by decide, by decide⟩ rfl rfl ⟨by decide, by decide⟩ (as := [.int x6, .int (-1), .int (r20 - 1)]) rfl (by first | decide | exact nl rfl) rfl dX9_addWork_76 nxk (kI fun r23 S24 hw => ?_)
            refine r_if_ne h 92 dX9_addWork_79 (by decide) (fun hc => ?_) (fun hc => ?_)
            · replace hw := hw.1 hc
              refine r_aload_n h 0 rfl rfl dX9_addWork_92 ?_
              obtain ⟨h26, hw⟩ := hw
              obtain ⟨b27, h28, hw⟩ := hw
              refine r_getr h kci10 in10 (k := 2) (by decide) rfl rfl q211 h26 h28 dX9_addWork_93 ?_
              obtain ⟨h29, hw⟩ := hw
              refine r_callV h (fun l => c_Jx4a65c_size_8abf5 l _ _ _ hw) q238 q239 q240 q59 q241 nd_Jx4a65c_size_8abf5 ⟨by decide, by decide⟩ rfl rfl ⟨by decide, by decide⟩ kci0 rfl h29 rfl (by first | decide | exact nl rfl) rfl dX9_addWork_96 nxk (kI fun r30 S31 hw => ?_)
              refine r_bipush h (v := 12) (by decide) dX9_addWork_99 ?_
              refine r_icmp_lt h 114 dX9_addWork_101 (by decide) (fun hc => ?_) (fun hc => ?_)
              · replace hw := hw.1 hc
                refine r_iload h 6 rfl dX9_addWork_114 ?_
                refine r_iconst h (v := 0) (by decide) dX9_addWork_116 ?_
                refine r_aload_n h 0 rfl rfl dX9_addWork_117 ?_
                obtain ⟨h33, hw⟩ := hw
                obtain ⟨b34, h35, hw⟩ := hw
                refine r_getr h kci10 in10 (k := 1) (by decide) rfl rfl q210 h33 h35 dX9_addWork_118 ?_
                obtain ⟨h36, hw⟩ := hw
                refine r_callV h (fun l => c_Jx4a65c_size_8abf5 l _ _ _ hw) q238 q239 q240 q59 q241 nd_Jx4a65c_size_8abf5 ⟨by decide, by decide⟩ rfl rfl ⟨by decide, by decide⟩ kci0 rfl h36 rfl (by first | decide | exact nl rfl) rfl dX9_addWork_121 nxk (kI fun r37 S38 hw => ?_)
                refine r_iconst h (v := 1) (by decide) dX9_addWork_124 ?_
                refine r_isub h dX9_addWork_125 ?_
                refine r_callS h (fun l => c_X9_isWithin l _ _ _ _ _ hw) q472 q315 q55 q316 nd_X9_isWithin ⟨by decide, by decide⟩ rfl rfl ⟨by decide, by decide⟩ (as := [.int x6, .int 0, .int (r37 - 1)]) rfl (by first | decide | exact nl rfl) rfl dX9_addWork_126 nxk (kI fun r40 S41 hw => ?_)
                refine r_if_eq h 147 dX9_addWork_129 (by decide) (fun hc => ?_) (fun hc => ?_)
                · replace hw := hw.1 hc
                  refine r_null h dX9_addWork_147 ?_
                  refine r_astoreN h [1, 2, 3, 4, 5, 6, 0] (by decide) rfl dX9_addWork_148 ?_
                  refine r_new h kci9 in9 tyX8_ok df9 q758 q759 q81 (by first | decide | exact nl rfl) (by first | decide | exact nl rfl) dX9_addWork_150 (fun q43 h44 => ?_)
                  replace hw := hw q43 h44
                  refine r_dup h rfl dX9_addWork_153 ?_
                  refine r_aload_n h 0 rfl rfl dX9_addWork_154 ?_
                  obtain ⟨h47, hw⟩ := hw
                  obtain ⟨b48, h49, hw⟩ := hw
                  refine r_getr h kci10 in10 (k := 2) (by decide) rfl rfl q211 h47 h49 dX9_addWork_155 ?_
                  obtain ⟨h50, hw⟩ := hw
                  refine r_callV h (fun l => c_Jx4a65c_size_8abf5 l _ _ _ hw) q238 q239 q240 q59 q241 nd_Jx4a65c_size_8abf5 ⟨by decide, by decide⟩ rfl rfl ⟨by decide, by decide⟩ kci0 rfl h50 rfl (by first | decide | exact nl rfl) rfl dX9_addWork_158 nxk (kI fun r51 S52 hw => ?_)
                  refine r_iload_n h 1 rfl rfl dX9_addWork_161 ?_
                  refine r_iload_n h 2 rfl rfl dX9_addWork_162 ?_
                  refine r_iload_n h 3 rfl rfl dX9_addWork_163 ?_
                  refine r_iload h 4 rfl dX9_addWork_164 ?_
                  refine r_iload h 5 rfl dX9_addWork_166 ?_
                  refine r_aloadN h 6 rfl dX9_addWork_168 ?_
                  refine r_callI h (fun l => c_X8_initN6 l _ _ _ _ _ _ _ _ _ hw) q760 q761 q81 q762 nd_X8_init rfl ⟨by decide, by decide⟩ rfl rfl ⟨by decide, by decide⟩ (as := [.int r51, .int x1, .int x2, .int x3, .int x4, .int x5, .null]) rfl (by first | decide | exact nl rfl) rfl dX9_addWork_170 nxk (kV fun  S54 hw => ?_)
                  refine r_astore h [1, 0] (by decide) rfl dX9_addWork_173 ?_
                  refine r_aload_n h 0 rfl rfl dX9_addWork_175 ?_
                  obtain ⟨h56, hw⟩ := hw
                  obtain ⟨b57, h58, hw⟩ := hw
                  refine r_getr h kci10 in10 (k := 2) (by decide) rfl rfl q211 h56 h58 dX9_addWork_176 ?_
                  refine r_aload h 1 rfl dX9_addWork_179 ?_
                  obtain ⟨h59, hw⟩ := hw
                  refine r_callV h (fun l => c_Jx4a65c_add_9ea2d l _ _ _ _ hw) q586 q587 q588 q59 q589 nd_Jx4a65c_add_9ea2d ⟨by decide, by decide⟩ rfl rfl ⟨by decide, by decide⟩ kci0 rfl h59 rfl (by first | decide | exact nl rfl) rfl dX9_addWork_181 nxk (kI fun r60 S61 hw => ?_)
                  refine r_pop h rfl dX9_addWork_184 ?_
                  refine r_aload h 1 rfl dX9_addWork_185 ?_
                  obtain ⟨h63, hw⟩ := hw
                  refine r_getiN h kci9 in9 (k := 0) (by decide) rfl rfl n768 h63 dX9_addWork_187 ?_
                  exact r_iret h hq rfl ⟨_, rfl, hw⟩ (by decide) (by decide) dX9_addWork_190
                · replace hw := hw.2 hc
                  refine r_aload_n h 0 rfl rfl dX9_addWork_132 ?_
                  obtain ⟨h64, hw⟩ := hw
                  obtain ⟨b65, h66, hw⟩ := hw
                  refine r_getr h kci10 in10 (k := 1) (by decide) rfl rfl q210 h64 h66 dX9_addWork_133 ?_
                  refine r_iload h 6 rfl dX9_addWork_136 ?_
                  obtain ⟨h67, hw⟩ := hw
                  refine r_callV h (fun l => c_Jx4a65c_get_915e3 l _ _ _ _ hw) q393 q260 q261 q59 q262 nd_Jx4a65c_get_915e3 ⟨by decide, by decide⟩ rfl rfl ⟨by decide, by decide⟩ kci0 rfl h67 rfl (by first | decide | exact nl rfl) rfl dX9_addWork_138 nxk (kA fun b68 S69 hw => ?_)
                  obtain ⟨h71, hw⟩ := hw
                  refine r_castS h kci5 q724 h71 dX9_addWork_141 ?_
                  refine r_goto h 148 dX9_addWork_144 (by decide) ?_
                  refine r_astore h [1, 2, 3, 4, 5, 6, 0] (by decide) rfl dX9_addWork_148 ?_
                  refine r_new h kci9 in9 tyX8_ok df9 q758 q759 q81 (by first | decide | exact nl rfl) (by first | decide | exact nl rfl) dX9_addWork_150 (fun q72 h73 => ?_)
                  replace hw := hw q72 h73
                  refine r_dup h rfl dX9_addWork_153 ?_
                  refine r_aload_n h 0 rfl rfl dX9_addWork_154 ?_
                  obtain ⟨h76, hw⟩ := hw
                  obtain ⟨b77, h78, hw⟩ := hw
                  refine r_getr h kci10 in10 (k := 2) (by decide) rfl rfl q211 h76 h78 dX9_addWork_155 ?_
                  obtain ⟨h79, hw⟩ := hw
                  refine r_callV h (fun l => c_Jx4a65c_size_8abf5 l _ _ _ hw) q238 q239 q240 q59 q241 nd_Jx4a65c_size_8abf5 ⟨by decide, by decide⟩ rfl rfl ⟨by decide, by decide⟩ kci0 rfl h79 rfl (by first | decide | exact nl rfl) rfl dX9_addWork_158 nxk (kI fun r80 S81 hw => ?_)
                  refine r_iload_n h 1 rfl rfl dX9_addWork_161 ?_
                  refine r_iload_n h 2 rfl rfl dX9_addWork_162 ?_
                  refine r_iload_n h 3 rfl rfl dX9_addWork_163 ?_
                  refine r_iload h 4 rfl dX9_addWork_164 ?_
                  refine r_iload h 5 rfl dX9_addWork_166 ?_
                  refine r_aload h 6 rfl dX9_addWork_168 ?_
                  refine r_callI h (fun l => c_X8_init l _ _ _ _ _ _ _ _ _ _ hw) q760 q761 q81 q762 nd_X8_init rfl ⟨by decide, by decide⟩ rfl rfl ⟨by decide, by decide⟩ (as := [.int r80, .int x1, .int x2, .int x3, .int x4, .int x5, .ref b68]) rfl (by first | decide | exact nl rfl) rfl dX9_addWork_170 nxk (kV fun  S83 hw => ?_)
                  refine r_astore h [1, 0] (by decide) rfl dX9_addWork_173 ?_
                  refine r_aload_n h 0 rfl rfl dX9_addWork_175 ?_
                  obtain ⟨h85, hw⟩ := hw
                  obtain ⟨b86, h87, hw⟩ := hw
                  refine r_getr h kci10 in10 (k := 2) (by decide) rfl rfl q211 h85 h87 dX9_addWork_176 ?_
                  refine r_aload h 1 rfl dX9_addWork_179 ?_
                  obtain ⟨h88, hw⟩ := hw
                  refine r_callV h (fun l => c_Jx4a65c_add_9ea2d l _ _ _ _ hw) q586 q587 q588 q59 q589 nd_Jx4a65c_add_9ea2d ⟨by decide, by decide⟩ rfl rfl ⟨by decide, by decide⟩ kci0 rfl h88 rfl (by first | decide | exact nl rfl) rfl dX9_addWork_181 nxk (kI fun r89 S90 hw => ?_)
                  refine r_pop h rfl dX9_addWork_184 ?_
                  refine r_aload h 1 rfl dX9_addWork_185 ?_
                  obtain ⟨h92, hw⟩ := hw
                  refine r_getiN h kci9 in9 (k := 0) (by decide) rfl rfl n768 h92 dX9_addWork_187 ?_
                  exact r_iret h hq rfl ⟨_, rfl, hw⟩ (by decide) (by decide) dX9_addWork_190
              · replace hw := hw.2 hc
                exact r_throwS h hq th80 q545 q69 (is := 118) (text := "there are 12 works") (by decide +kernel) hw dX9_addWork_104 dX9_addWork_107 dX9_addWork_108 dX9_addWork_110 dX9_addWork_113 (by first | decide | exact nl rfl) (by first | decide | exact nl rfl) (by first | decide | exact nl rfl) (by first | decide | exact nl rfl) (by first | decide | exact nl rfl) (by first | decide | exact nl rfl)
            · replace hw := hw.2 hc
              exact r_throwS h hq th66 q473 q68 (is := 116) (text := "there is no such lender") (by decide +kernel) hw dX9_addWork_82 dX9_addWork_85 dX9_addWork_86 dX9_addWork_88 dX9_addWork_91 (by first | decide | exact nl rfl) (by first | decide | exact nl rfl) (by first | decide | exact nl rfl) (by first | decide | exact nl rfl) (by first | decide | exact nl rfl) (by first | decide | exact nl rfl)
          · replace hw := hw.2 hc
            exact r_throwS h hq th66 q473 q68 (is := 64) (text := "a number is out of range") (by decide +kernel) hw dX9_addWork_54 dX9_addWork_57 dX9_addWork_58 dX9_addWork_60 dX9_addWork_63 (by first | decide | exact nl rfl) (by first | decide | exact nl rfl) (by first | decide | exact nl rfl) (by first | decide | exact nl rfl) (by first | decide | exact nl rfl) (by first | decide | exact nl rfl)

def w_X9_workAt (S : St) (a0 : Nat) (x1 : Int32) (f : Nat → St → Prop) (exc : String → St → Prop) : Prop := ok S a0 10 ∧ ∃ b2 : Nat, sP S a0 2 = some b2 ∧ ok S b2 0 ∧ w_Jx4a65c_size_8abf5 S b2 (fun (r5 : Int32) (S6 : St) => w_X9_isWithin S6 x1 0 (r5 - 1) (fun (r8 : Int32) (S9 : St) => (((¬ r8 = 0) → ok S9 a0 10 ∧ ∃ b12 : Nat, sP S9 a0 2 = some b12 ∧ ok S9 b12 0 ∧ w_Jx4a65c_get_915e3 S9 b12 x1 (fun (b15 : Nat) (S16 : St) => ok S16 b15 9 ∧ f b15 S16)) ∧ ((r8 = 0) → exc "java/lang/IndexOutOfBoundsException" S9))))
set_option maxRecDepth 100000 in
set_option maxHeartbeats 4000000 in
theorem c_X9_workAt (l : Launch) (S : St) (a0 : Nat) (x1 : Int32) (f : Nat → St → Prop) (exc : String → St → Prop) (hw : w_X9_workAt S a0 x1 f exc) : Ct l yX9_workAt (Cond.code yX9_workAt cX9_workAt 2 (some (.object "LoggiaPlanner$Work"))) { frames := 6, cells := 1, slots := 6, locals := 82 } 1 6 S [.ref a0, .int x1] (pA f) exc := by
  refine entry (by decide +kernel) rfl rfl (by first | decide | exact nl rfl) rfl ?_
  intro X h hq
  unfold w_X9_workAt at hw
  refine r_iload_n h 1 rfl rfl dX9_workAt_0 ?_
  refine r_iconst h (v := 0) (by decide) dX9_workAt_1 ?_
  refine r_aload_n h 0 rfl rfl dX9_workAt_2 ?_
  obtain ⟨h1, hw⟩ := hw
  obtain ⟨b2, h3, hw⟩ := hw
  refine r_getr h kci10 in10 (k := 2) (by decide) rfl rfl q211 h1 h3 dX9_workAt_3 ?_
  obtain ⟨h4, hw⟩ := hw
  refine r_callV h (fun l => c_Jx4a65c_size_8abf5 l _ _ _ hw) q238 q239 q240 q59 q241 nd_Jx4a65c_size_8abf5 ⟨by decide, by decide⟩ rfl rfl ⟨by decide, by decide⟩ kci0 rfl h4 rfl (by first | decide | exact nl rfl) rfl dX9_workAt_6 nxk (kI fun r5 S6 hw => ?_)
  refine r_iconst h (v := 1) (by decide) dX9_workAt_9 ?_
  refine r_isub h dX9_workAt_10 ?_
  refine r_callS h (fun l => c_X9_isWithin l _ _ _ _ _ hw) q472 q315 q55 q316 nd_X9_isWithin ⟨by decide, by decide⟩ rfl rfl ⟨by decide, by decide⟩ (as := [.int x1, .int 0, .int (r5 - 1)]) rfl (by first | decide | exact nl rfl) rfl dX9_workAt_11 nxk (kI fun r8 S9 hw => ?_)
  refine r_if_ne h 28 dX9_workAt_14 (by decide) (fun hc => ?_) (fun hc => ?_)
  · replace hw := hw.1 hc
    refine r_aload_n h 0 rfl rfl dX9_workAt_28 ?_
    obtain ⟨h11, hw⟩ := hw
    obtain ⟨b12, h13, hw⟩ := hw
    refine r_getr h kci10 in10 (k := 2) (by decide) rfl rfl q211 h11 h13 dX9_workAt_29 ?_
    refine r_iload_n h 1 rfl rfl dX9_workAt_32 ?_
    obtain ⟨h14, hw⟩ := hw
    refine r_callV h (fun l => c_Jx4a65c_get_915e3 l _ _ _ _ hw) q393 q260 q261 q59 q262 nd_Jx4a65c_get_915e3 ⟨by decide, by decide⟩ rfl rfl ⟨by decide, by decide⟩ kci0 rfl h14 rfl (by first | decide | exact nl rfl) rfl dX9_workAt_33 nxk (kA fun b15 S16 hw => ?_)
    obtain ⟨h18, hw⟩ := hw
    refine r_castS h kci9 q758 h18 dX9_workAt_36 ?_
    exact r_aret h hq rfl (Or.inl ⟨_, rfl⟩) ⟨_, rfl, hw⟩ (by decide) (by decide) dX9_workAt_39
  · replace hw := hw.2 hc
    exact r_throwSW h hq th311 q699 q77 (is := 312) (text := "there is no such work") (by decide +kernel) hw dX9_workAt_17 dX9_workAt_20 dX9_workAt_21 dX9_workAt_24 dX9_workAt_27 (by first | decide | exact nl rfl) (by first | decide | exact nl rfl) (by first | decide | exact nl rfl) (by first | decide | exact nl rfl) (by first | decide | exact nl rfl) (by first | decide | exact nl rfl)

def w_X9_awayFor (S : St) (a0 : Nat) (x1 : Int32) (x2 : Int32) (f : Int32 → St → Prop) (exc : String → St → Prop) : Prop := ok S a0 10 ∧ w_X9_workAt S a0 x1 (fun (b2 : Nat) (S3 : St) => w_X9_isWithin S3 x2 (-9) 108 (fun (r5 : Int32) (S6 : St) => (((¬ r5 = 0) → ok S6 a0 10 ∧ ∃ b9 : Nat, sP S6 a0 4 = some b9 ∧ ok S6 b9 2 ∧ w_X1_exhibitionWith S6 b9 b2 x2 (fun (r12 : Int32) (S13 : St) => (((¬ r12 = (-1)) → f r12 S13) ∧ ((r12 = (-1)) → exc "java/util/NoSuchElementException" S13)))) ∧ ((r5 = 0) → exc "java/lang/IllegalArgumentException" S6)))) exc
set_option maxRecDepth 100000 in
set_option maxHeartbeats 4000000 in
theorem c_X9_awayFor (l : Launch) (S : St) (a0 : Nat) (x1 : Int32) (x2 : Int32) (f : Int32 → St → Prop) (exc : String → St → Prop) (hw : w_X9_awayFor S a0 x1 x2 f exc) : Ct l yX9_awayFor (Cond.code yX9_awayFor cX9_awayFor 5 (some .int)) { frames := 7, cells := 2, slots := 12, locals := 133 } 2 12 S [.ref a0, .int x1, .int x2] (pI f) exc := by
  refine entry (by decide +kernel) rfl rfl (by first | decide | exact nl rfl) rfl ?_
  intro X h hq
  unfold w_X9_awayFor at hw
  refine r_aload_n h 0 rfl rfl dX9_awayFor_0 ?_
  refine r_iload_n h 1 rfl rfl dX9_awayFor_1 ?_
  obtain ⟨h1, hw⟩ := hw
  refine r_callV h (fun l => c_X9_workAt l _ _ _ _ _ hw) q802 q804 q17 q55 q805 nd_X9_workAt ⟨by decide, by decide⟩ rfl rfl ⟨by decide, by decide⟩ kci10 rfl h1 rfl (by first | decide | exact nl rfl) rfl dX9_awayFor_2 (fun E S9 he => r_out h hq he (by first | decide | exact nl rfl) (by first | decide | exact nl rfl)) (kA fun b2 S3 hw => ?_)
  refine r_astore_n h [1, 3, 0] rfl (by decide) rfl dX9_awayFor_5 ?_
  refine r_iload_n h 1 rfl rfl dX9_awayFor_6 ?_
  refine r_bipush h (v := (-9)) (by decide) dX9_awayFor_7 ?_
  refine r_bipush h (v := 108) (by decide) dX9_awayFor_9 ?_
  refine r_callS h (fun l => c_X9_isWithin l _ _ _ _ _ hw) q472 q315 q55 q316 nd_X9_isWithin ⟨by decide, by decide⟩ rfl rfl ⟨by decide, by decide⟩ (as := [.int x2, .int (-9), .int 108]) rfl (by first | decide | exact nl rfl) rfl dX9_awayFor_11 nxk (kI fun r5 S6 hw => ?_)
  refine r_if_ne h 28 dX9_awayFor_14 (by decide) (fun hc => ?_) (fun hc => ?_)
  · replace hw := hw.1 hc
    refine r_aload_n h 0 rfl rfl dX9_awayFor_28 ?_
    obtain ⟨h8, hw⟩ := hw
    obtain ⟨b9, h10, hw⟩ := hw
    refine r_getr h kci10 in10 (k := 4) (by decide) rfl rfl q213 h8 h10 dX9_awayFor_29 ?_
    refine r_aload_n h 2 rfl rfl dX9_awayFor_32 ?_
    refine r_iload_n h 1 rfl rfl dX9_awayFor_33 ?_
    obtain ⟨h11, hw⟩ := hw
    refine r_callV h (fun l => c_X1_exhibitionWith l _ _ _ _ _ hw) q1121 q1122 q1123 q61 q1124 nd_X1_exhibitionWith ⟨by decide, by decide⟩ rfl rfl ⟨by decide, by decide⟩ kci2 rfl h11 rfl (by first | decide | exact nl rfl) rfl dX9_awayFor_34 nxk (kI fun r12 S13 hw => ?_)
    refine r_istore h [0] (by decide) rfl dX9_awayFor_37 ?_
    refine r_iload h 0 rfl dX9_awayFor_39 ?_
    refine r_iconst h (v := (-1)) (by decide) dX9_awayFor_41 ?_
    refine r_icmp_ne h 56 dX9_awayFor_42 (by decide) (fun hc => ?_) (fun hc => ?_)
    · replace hw := hw.1 hc
      refine r_iload h 0 rfl dX9_awayFor_56 ?_
      exact r_iret h hq rfl ⟨_, rfl, hw⟩ (by decide) (by decide) dX9_awayFor_58
    · replace hw := hw.2 hc
      exact r_throwNS h hq th270 q910 q83 (is := 268) (text := "the work is not away") (by decide +kernel) hw dX9_awayFor_45 dX9_awayFor_48 dX9_awayFor_49 dX9_awayFor_52 dX9_awayFor_55 (by first | decide | exact nl rfl) (by first | decide | exact nl rfl) (by first | decide | exact nl rfl) (by first | decide | exact nl rfl) (by first | decide | exact nl rfl) (by first | decide | exact nl rfl)
  · replace hw := hw.2 hc
    exact r_throwSW h hq th66 q473 q68 (is := 260) (text := "the day is out of range") (by decide +kernel) hw dX9_awayFor_17 dX9_awayFor_20 dX9_awayFor_21 dX9_awayFor_24 dX9_awayFor_27 (by first | decide | exact nl rfl) (by first | decide | exact nl rfl) (by first | decide | exact nl rfl) (by first | decide | exact nl rfl) (by first | decide | exact nl rfl) (by first | decide | exact nl rfl)

def w_X9_roomAt (S : St) (a0 : Nat) (x1 : Int32) (f : Nat → St → Prop) (exc : String → St → Prop) : Prop := ok S a0 10 ∧ ∃ b2 : Nat, sP S a0 0 = some b2 ∧ ok S b2 4 ∧ ∃ b5 : Nat, sP S b2 0 = some b5 ∧ ok S b5 0 ∧ w_Jx4a65c_size_8abf5 S b5 (fun (r8 : Int32) (S9 : St) => w_X9_isWithin S9 x1 0 (r8 - 1) (fun (r11 : Int32) (S12 : St) => (((¬ r11 = 0) → ok S12 a0 10 ∧ ∃ b15 : Nat, sP S12 a0 0 = some b15 ∧ ok S12 b15 4 ∧ ∃ b18 : Nat, sP S12 b15 0 = some b18 ∧ ok S12 b18 0 ∧ w_Jx4a65c_get_915e3 S12 b18 x1 (fun (b21 : Nat) (S22 : St) => ok S22 b21 7 ∧ f b21 S22)) ∧ ((r11 = 0) → exc "java/lang/IndexOutOfBoundsException" S12))))
set_option maxRecDepth 100000 in
set_option maxHeartbeats 4000000 in
theorem c_X9_roomAt (l : Launch) (S : St) (a0 : Nat) (x1 : Int32) (f : Nat → St → Prop) (exc : String → St → Prop) (hw : w_X9_roomAt S a0 x1 f exc) : Ct l yX9_roomAt (Cond.code yX9_roomAt cX9_roomAt 2 (some (.object "LoggiaPlanner$Room"))) { frames := 6, cells := 1, slots := 6, locals := 82 } 1 6 S [.ref a0, .int x1] (pA f) exc := by
  refine entry (by decide +kernel) rfl rfl (by first | decide | exact nl rfl) rfl ?_
  intro X h hq
  unfold w_X9_roomAt at hw
  refine r_iload_n h 1 rfl rfl dX9_roomAt_0 ?_
  refine r_iconst h (v := 0) (by decide) dX9_roomAt_1 ?_
  refine r_aload_n h 0 rfl rfl dX9_roomAt_2 ?_
  obtain ⟨h1, hw⟩ := hw
  obtain ⟨b2, h3, hw⟩ := hw
  refine r_getr h kci10 in10 (k := 0) (by decide) rfl rfl q209 h1 h3 dX9_roomAt_3 ?_
  obtain ⟨h4, hw⟩ := hw
  obtain ⟨b5, h6, hw⟩ := hw
  refine r_getrN h kci4 in4 (k := 0) (by decide) rfl rfl n127 h4 h6 dX9_roomAt_6 ?_
  obtain ⟨h7, hw⟩ := hw
  refine r_callV h (fun l => c_Jx4a65c_size_8abf5 l _ _ _ hw) q238 q239 q240 q59 q241 nd_Jx4a65c_size_8abf5 ⟨by decide, by decide⟩ rfl rfl ⟨by decide, by decide⟩ kci0 rfl h7 rfl (by first | decide | exact nl rfl) rfl dX9_roomAt_9 nxk (kI fun r8 S9 hw => ?_)
  refine r_iconst h (v := 1) (by decide) dX9_roomAt_12 ?_
  refine r_isub h dX9_roomAt_13 ?_
  refine r_callS h (fun l => c_X9_isWithin l _ _ _ _ _ hw) q472 q315 q55 q316 nd_X9_isWithin ⟨by decide, by decide⟩ rfl rfl ⟨by decide, by decide⟩ (as := [.int x1, .int 0, .int (r8 - 1)]) rfl (by first | decide | exact nl rfl) rfl dX9_roomAt_14 nxk (kI fun r11 S12 hw => ?_)
  refine r_if_ne h 31 dX9_roomAt_17 (by decide) (fun hc => ?_) (fun hc => ?_)
  · replace hw := hw.1 hc
    refine r_aload_n h 0 rfl rfl dX9_roomAt_31 ?_
    obtain ⟨h14, hw⟩ := hw
    obtain ⟨b15, h16, hw⟩ := hw
    refine r_getr h kci10 in10 (k := 0) (by decide) rfl rfl q209 h14 h16 dX9_roomAt_32 ?_
    obtain ⟨h17, hw⟩ := hw
    obtain ⟨b18, h19, hw⟩ := hw
    refine r_getrN h kci4 in4 (k := 0) (by decide) rfl rfl n127 h17 h19 dX9_roomAt_35 ?_
    refine r_iload_n h 1 rfl rfl dX9_roomAt_38 ?_
    obtain ⟨h20, hw⟩ := hw
    refine r_callV h (fun l => c_Jx4a65c_get_915e3 l _ _ _ _ hw) q393 q260 q261 q59 q262 nd_Jx4a65c_get_915e3 ⟨by decide, by decide⟩ rfl rfl ⟨by decide, by decide⟩ kci0 rfl h20 rfl (by first | decide | exact nl rfl) rfl dX9_roomAt_39 nxk (kA fun b21 S22 hw => ?_)
    obtain ⟨h24, hw⟩ := hw
    refine r_castS h kci7 q561 h24 dX9_roomAt_42 ?_
    exact r_aret h hq rfl (Or.inl ⟨_, rfl⟩) ⟨_, rfl, hw⟩ (by decide) (by decide) dX9_roomAt_45
  · replace hw := hw.2 hc
    exact r_throwSW h hq th311 q699 q77 (is := 309) (text := "there is no such room") (by decide +kernel) hw dX9_roomAt_20 dX9_roomAt_23 dX9_roomAt_24 dX9_roomAt_27 dX9_roomAt_30 (by first | decide | exact nl rfl) (by first | decide | exact nl rfl) (by first | decide | exact nl rfl) (by first | decide | exact nl rfl) (by first | decide | exact nl rfl) (by first | decide | exact nl rfl)

def w_X9_canHang (S : St) (a0 : Nat) (x1 : Int32) (x2 : Int32) (f : Int32 → St → Prop) (exc : String → St → Prop) : Prop := ok S a0 10 ∧ w_X9_workAt S a0 x1 (fun (b2 : Nat) (S3 : St) => ok S3 a0 10 ∧ w_X9_roomAt S3 a0 x2 (fun (b6 : Nat) (S7 : St) => ok S7 b2 9 ∧ w_X8_stands S7 b2 b6 (fun (r10 : Int32) (S11 : St) => (r10 = 0 ∨ r10 = 1) ∧ f r10 S11)) exc) exc
set_option maxRecDepth 100000 in
set_option maxHeartbeats 4000000 in
theorem c_X9_canHang (l : Launch) (S : St) (a0 : Nat) (x1 : Int32) (x2 : Int32) (f : Int32 → St → Prop) (exc : String → St → Prop) (hw : w_X9_canHang S a0 x1 x2 f exc) : Ct l yX9_canHang (Cond.code yX9_canHang cX9_canHang 3 (some .boolean)) { frames := 7, cells := 2, slots := 12, locals := 103 } 2 12 S [.ref a0, .int x1, .int x2] (pI f) exc := by
  refine entry (by decide +kernel) rfl rfl (by first | decide | exact nl rfl) rfl ?_
  intro X h hq
  unfold w_X9_canHang at hw
  refine r_aload_n h 0 rfl rfl dX9_canHang_0 ?_
  refine r_iload_n h 1 rfl rfl dX9_canHang_1 ?_
  obtain ⟨h1, hw⟩ := hw
  refine r_callV h (fun l => c_X9_workAt l _ _ _ _ _ hw) q802 q804 q17 q55 q805 nd_X9_workAt ⟨by decide, by decide⟩ rfl rfl ⟨by decide, by decide⟩ kci10 rfl h1 rfl (by first | decide | exact nl rfl) rfl dX9_canHang_2 (fun E S9 he => r_out h hq he (by first | decide | exact nl rfl) (by first | decide | exact nl rfl)) (kA fun b2 S3 hw => ?_)
  refine r_aload_n h 0 rfl rfl dX9_canHang_5 ?_
  refine r_iload_n h 2 rfl rfl dX9_canHang_6 ?_
  obtain ⟨h5, hw⟩ := hw
  refine r_callV h (fun l => c_X9_roomAt l _ _ _ _ _ hw) q695 q697 q16 q55 q698 nd_X9_roomAt ⟨by decide, by decide⟩ rfl rfl ⟨by decide, by decide⟩ kci10 rfl h5 rfl (by first | decide | exact nl rfl) rfl dX9_canHang_7 (fun E S9 he => r_out h hq he (by first | decide | exact nl rfl) (by first | decide | exact nl rfl)) (kA fun b6 S7 hw => ?_)
  obtain ⟨h9, hw⟩ := hw
  refine r_callV h (fun l => c_X8_stands l _ _ _ _ hw) q846 q320 q321 q81 q322 nd_X8_stands ⟨by decide, by decide⟩ rfl rfl ⟨by decide, by decide⟩ kci9 rfl h9 rfl (by first | decide | exact nl rfl) rfl dX9_canHang_10 nxk (kI fun r10 S11 hw => ?_)
  obtain ⟨h13, hw⟩ := hw
  exact r_zret h hq (ty := .boolean) rfl (lb h13) ⟨_, rfl, hw⟩ (by decide) (by decide) dX9_canHang_13

def w_X9_exhibitionAt (S : St) (a0 : Nat) (x1 : Int32) (f : Nat → St → Prop) (exc : String → St → Prop) : Prop := ok S a0 10 ∧ ∃ b2 : Nat, sP S a0 4 = some b2 ∧ ok S b2 2 ∧ ∃ b5 : Nat, sP S b2 0 = some b5 ∧ ok S b5 0 ∧ w_Jx4a65c_size_8abf5 S b5 (fun (r8 : Int32) (S9 : St) => w_X9_isWithin S9 x1 0 (r8 - 1) (fun (r11 : Int32) (S12 : St) => (((¬ r11 = 0) → ok S12 a0 10 ∧ ∃ b15 : Nat, sP S12 a0 4 = some b15 ∧ ok S12 b15 2 ∧ ∃ b18 : Nat, sP S12 b15 0 = some b18 ∧ ok S12 b18 0 ∧ w_Jx4a65c_get_915e3 S12 b18 x1 (fun (b21 : Nat) (S22 : St) => ok S22 b21 3 ∧ f b21 S22)) ∧ ((r11 = 0) → exc "java/util/NoSuchElementException" S12))))
set_option maxRecDepth 100000 in
set_option maxHeartbeats 4000000 in
theorem c_X9_exhibitionAt (l : Launch) (S : St) (a0 : Nat) (x1 : Int32) (f : Nat → St → Prop) (exc : String → St → Prop) (hw : w_X9_exhibitionAt S a0 x1 f exc) : Ct l yX9_exhibitionAt (Cond.code yX9_exhibitionAt cX9_exhibitionAt 2 (some (.object "LoggiaPlanner$Exhibition"))) { frames := 6, cells := 1, slots := 6, locals := 82 } 1 6 S [.ref a0, .int x1] (pA f) exc := by
  refine entry (by decide +kernel) rfl rfl (by first | decide | exact nl rfl) rfl ?_
  intro X h hq
  unfold w_X9_exhibitionAt at hw
  refine r_iload_n h 1 rfl rfl dX9_exhibitionAt_0 ?_
  refine r_iconst h (v := 0) (by decide) dX9_exhibitionAt_1 ?_
  refine r_aload_n h 0 rfl rfl dX9_exhibitionAt_2 ?_
  obtain ⟨h1, hw⟩ := hw
  obtain ⟨b2, h3, hw⟩ := hw
  refine r_getr h kci10 in10 (k := 4) (by decide) rfl rfl q213 h1 h3 dX9_exhibitionAt_3 ?_
  obtain ⟨h4, hw⟩ := hw
  obtain ⟨b5, h6, hw⟩ := hw
  refine r_getrN h kci2 in2 (k := 0) (by decide) rfl rfl n153 h4 h6 dX9_exhibitionAt_6 ?_
  obtain ⟨h7, hw⟩ := hw
  refine r_callV h (fun l => c_Jx4a65c_size_8abf5 l _ _ _ hw) q238 q239 q240 q59 q241 nd_Jx4a65c_size_8abf5 ⟨by decide, by decide⟩ rfl rfl ⟨by decide, by decide⟩ kci0 rfl h7 rfl (by first | decide | exact nl rfl) rfl dX9_exhibitionAt_9 nxk (kI fun r8 S9 hw => ?_)
  refine r_iconst h (v := 1) (by decide) dX9_exhibitionAt_12 ?_
  refine r_isub h dX9_exhibitionAt_13 ?_
  refine r_callS h (fun l => c_X9_isWithin l _ _ _ _ _ hw) q472 q315 q55 q316 nd_X9_isWithin ⟨by decide, by decide⟩ rfl rfl ⟨by decide, by decide⟩ (as := [.int x1, .int 0, .int (r8 - 1)]) rfl (by first | decide | exact nl rfl) rfl dX9_exhibitionAt_14 nxk (kI fun r11 S12 hw => ?_)
  refine r_if_ne h 31 dX9_exhibitionAt_17 (by decide) (fun hc => ?_) (fun hc => ?_)
  · replace hw := hw.1 hc
    refine r_aload_n h 0 rfl rfl dX9_exhibitionAt_31 ?_
    obtain ⟨h14, hw⟩ := hw
    obtain ⟨b15, h16, hw⟩ := hw
    refine r_getr h kci10 in10 (k := 4) (by decide) rfl rfl q213 h14 h16 dX9_exhibitionAt_32 ?_
    obtain ⟨h17, hw⟩ := hw
    obtain ⟨b18, h19, hw⟩ := hw
    refine r_getrN h kci2 in2 (k := 0) (by decide) rfl rfl n153 h17 h19 dX9_exhibitionAt_35 ?_
    refine r_iload_n h 1 rfl rfl dX9_exhibitionAt_38 ?_
    obtain ⟨h20, hw⟩ := hw
    refine r_callV h (fun l => c_Jx4a65c_get_915e3 l _ _ _ _ hw) q393 q260 q261 q59 q262 nd_Jx4a65c_get_915e3 ⟨by decide, by decide⟩ rfl rfl ⟨by decide, by decide⟩ kci0 rfl h20 rfl (by first | decide | exact nl rfl) rfl dX9_exhibitionAt_39 nxk (kA fun b21 S22 hw => ?_)
    obtain ⟨h24, hw⟩ := hw
    refine r_castS h kci3 q394 h24 dX9_exhibitionAt_42 ?_
    exact r_aret h hq rfl (Or.inl ⟨_, rfl⟩) ⟨_, rfl, hw⟩ (by decide) (by decide) dX9_exhibitionAt_45
  · replace hw := hw.2 hc
    exact r_throwNS h hq th270 q910 q83 (is := 314) (text := "there is no such exhibition") (by decide +kernel) hw dX9_exhibitionAt_20 dX9_exhibitionAt_23 dX9_exhibitionAt_24 dX9_exhibitionAt_27 dX9_exhibitionAt_30 (by first | decide | exact nl rfl) (by first | decide | exact nl rfl) (by first | decide | exact nl rfl) (by first | decide | exact nl rfl) (by first | decide | exact nl rfl) (by first | decide | exact nl rfl)

def w_X9_shownAt (S : St) (a0 : Nat) (a1 : Nat) (x2 : Int32) (f : Nat → St → Prop) (exc : String → St → Prop) : Prop := ok S a1 3 ∧ ∃ b2 : Nat, sP S a1 4 = some b2 ∧ ok S b2 0 ∧ w_Jx4a65c_size_8abf5 S b2 (fun (r5 : Int32) (S6 : St) => w_X9_isWithin S6 x2 0 (r5 - 1) (fun (r8 : Int32) (S9 : St) => (((¬ r8 = 0) → ok S9 a1 3 ∧ ∃ b12 : Nat, sP S9 a1 4 = some b12 ∧ ok S9 b12 0 ∧ w_Jx4a65c_get_915e3 S9 b12 x2 (fun (b15 : Nat) (S16 : St) => ok S16 b15 9 ∧ f b15 S16)) ∧ ((r8 = 0) → exc "java/lang/IndexOutOfBoundsException" S9))))
set_option maxRecDepth 100000 in
set_option maxHeartbeats 4000000 in
theorem c_X9_shownAt (l : Launch) (S : St) (a0 : Nat) (a1 : Nat) (x2 : Int32) (f : Nat → St → Prop) (exc : String → St → Prop) (hw : w_X9_shownAt S a0 a1 x2 f exc) : Ct l yX9_shownAt (Cond.code yX9_shownAt cX9_shownAt 3 (some (.object "LoggiaPlanner$Work"))) { frames := 6, cells := 1, slots := 6, locals := 82 } 1 6 S [.ref a0, .ref a1, .int x2] (pA f) exc := by
  refine entry (by decide +kernel) rfl rfl (by first | decide | exact nl rfl) rfl ?_
  intro X h hq
  unfold w_X9_shownAt at hw
  refine r_iload_n h 2 rfl rfl dX9_shownAt_0 ?_
  refine r_iconst h (v := 0) (by decide) dX9_shownAt_1 ?_
  refine r_aload_n h 1 rfl rfl dX9_shownAt_2 ?_
  obtain ⟨h1, hw⟩ := hw
  obtain ⟨b2, h3, hw⟩ := hw
  refine r_getrN h kci3 in3 (k := 4) (by decide) rfl rfl n876 h1 h3 dX9_shownAt_3 ?_
  obtain ⟨h4, hw⟩ := hw
  refine r_callV h (fun l => c_Jx4a65c_size_8abf5 l _ _ _ hw) q238 q239 q240 q59 q241 nd_Jx4a65c_size_8abf5 ⟨by decide, by decide⟩ rfl rfl ⟨by decide, by decide⟩ kci0 rfl h4 rfl (by first | decide | exact nl rfl) rfl dX9_shownAt_6 nxk (kI fun r5 S6 hw => ?_)
  refine r_iconst h (v := 1) (by decide) dX9_shownAt_9 ?_
  refine r_isub h dX9_shownAt_10 ?_
  refine r_callS h (fun l => c_X9_isWithin l _ _ _ _ _ hw) q472 q315 q55 q316 nd_X9_isWithin ⟨by decide, by decide⟩ rfl rfl ⟨by decide, by decide⟩ (as := [.int x2, .int 0, .int (r5 - 1)]) rfl (by first | decide | exact nl rfl) rfl dX9_shownAt_11 nxk (kI fun r8 S9 hw => ?_)
  refine r_if_ne h 28 dX9_shownAt_14 (by decide) (fun hc => ?_) (fun hc => ?_)
  · replace hw := hw.1 hc
    refine r_aload_n h 1 rfl rfl dX9_shownAt_28 ?_
    obtain ⟨h11, hw⟩ := hw
    obtain ⟨b12, h13, hw⟩ := hw
    refine r_getrN h kci3 in3 (k := 4) (by decide) rfl rfl n876 h11 h13 dX9_shownAt_29 ?_
    refine r_iload_n h 2 rfl rfl dX9_shownAt_32 ?_
    obtain ⟨h14, hw⟩ := hw
    refine r_callV h (fun l => c_Jx4a65c_get_915e3 l _ _ _ _ hw) q393 q260 q261 q59 q262 nd_Jx4a65c_get_915e3 ⟨by decide, by decide⟩ rfl rfl ⟨by decide, by decide⟩ kci0 rfl h14 rfl (by first | decide | exact nl rfl) rfl dX9_shownAt_33 nxk (kA fun b15 S16 hw => ?_)
    obtain ⟨h18, hw⟩ := hw
    refine r_castS h kci9 q758 h18 dX9_shownAt_36 ?_
    exact r_aret h hq rfl (Or.inl ⟨_, rfl⟩) ⟨_, rfl, hw⟩ (by decide) (by decide) dX9_shownAt_39
  · replace hw := hw.2 hc
    exact r_throwSW h hq th311 q699 q77 (is := 316) (text := "the exhibition has no such work") (by decide +kernel) hw dX9_shownAt_17 dX9_shownAt_20 dX9_shownAt_21 dX9_shownAt_24 dX9_shownAt_27 (by first | decide | exact nl rfl) (by first | decide | exact nl rfl) (by first | decide | exact nl rfl) (by first | decide | exact nl rfl) (by first | decide | exact nl rfl) (by first | decide | exact nl rfl)

def w_X9_canTake (S : St) (a0 : Nat) (x1 : Int32) (x2 : Int32) (f : Int32 → St → Prop) (exc : String → St → Prop) : Prop := ok S a0 10 ∧ w_X9_exhibitionAt S a0 x1 (fun (b2 : Nat) (S3 : St) => ok S3 a0 10 ∧ w_X9_shownAt S3 a0 b2 x2 (fun (b6 : Nat) (S7 : St) => ok S7 b2 3 ∧ (((¬ (sI S7 b2 6) = 99) → ok S7 a0 10 ∧ ∃ b11 : Nat, sP S7 a0 4 = some b11 ∧ ok S7 b11 2 ∧ w_X1_allowsTaking S7 b11 b2 b6 (fun (r14 : Int32) (S15 : St) => (r14 = 0 ∨ r14 = 1) ∧ f r14 S15)) ∧ (((sI S7 b2 6) = 99) → exc "java/lang/IllegalStateException" S7))) exc) exc
set_option maxRecDepth 100000 in
set_option maxHeartbeats 4000000 in
theorem c_X9_canTake (l : Launch) (S : St) (a0 : Nat) (x1 : Int32) (x2 : Int32) (f : Int32 → St → Prop) (exc : String → St → Prop) (hw : w_X9_canTake S a0 x1 x2 f exc) : Ct l yX9_canTake (Cond.code yX9_canTake cX9_canTake 5 (some .boolean)) { frames := 7, cells := 3, slots := 18, locals := 135 } 3 18 S [.ref a0, .int x1, .int x2] (pI f) exc := by
  refine entry (by decide +kernel) rfl rfl (by first | decide | exact nl rfl) rfl ?_
  intro X h hq
  unfold w_X9_canTake at hw
  refine r_aload_n h 0 rfl rfl dX9_canTake_0 ?_
  refine r_iload_n h 1 rfl rfl dX9_canTake_1 ?_
  obtain ⟨h1, hw⟩ := hw
  refine r_callV h (fun l => c_X9_exhibitionAt l _ _ _ _ _ hw) q906 q908 q20 q55 q909 nd_X9_exhibitionAt ⟨by decide, by decide⟩ rfl rfl ⟨by decide, by decide⟩ kci10 rfl h1 rfl (by first | decide | exact nl rfl) rfl dX9_canTake_2 (fun E S9 he => r_out h hq he (by first | decide | exact nl rfl) (by first | decide | exact nl rfl)) (kA fun b2 S3 hw => ?_)
  refine r_astore_n h [1, 3, 0] rfl (by decide) rfl dX9_canTake_5 ?_
  refine r_aload_n h 0 rfl rfl dX9_canTake_6 ?_
  refine r_aload_n h 2 rfl rfl dX9_canTake_7 ?_
  refine r_iload_n h 1 rfl rfl dX9_canTake_8 ?_
  obtain ⟨h5, hw⟩ := hw
  refine r_callV h (fun l => c_X9_shownAt l _ _ _ _ _ _ hw) q987 q989 q21 q55 q990 nd_X9_shownAt ⟨by decide, by decide⟩ rfl rfl ⟨by decide, by decide⟩ kci10 rfl h5 rfl (by first | decide | exact nl rfl) rfl dX9_canTake_9 (fun E S9 he => r_out h hq he (by first | decide | exact nl rfl) (by first | decide | exact nl rfl)) (kA fun b6 S7 hw => ?_)
  refine r_astore h [1, 3, 0] (by decide) rfl dX9_canTake_12 ?_
  refine r_aload_n h 1 rfl rfl dX9_canTake_14 ?_
  obtain ⟨h9, hw⟩ := hw
  refine r_getiN h kci3 in3 (k := 6) (by decide) rfl rfl n882 h9 dX9_canTake_15 ?_
  refine r_bipush h (v := 99) (by decide) dX9_canTake_18 ?_
  refine r_icmp_ne h 33 dX9_canTake_20 (by decide) (fun hc => ?_) (fun hc => ?_)
  · replace hw := hw.1 hc
    refine r_aload_n h 0 rfl rfl dX9_canTake_33 ?_
    obtain ⟨h10, hw⟩ := hw
    obtain ⟨b11, h12, hw⟩ := hw
    refine r_getr h kci10 in10 (k := 4) (by decide) rfl rfl q213 h10 h12 dX9_canTake_34 ?_
    refine r_aload_n h 1 rfl rfl dX9_canTake_37 ?_
    refine r_aload h 2 rfl dX9_canTake_38 ?_
    obtain ⟨h13, hw⟩ := hw
    refine r_callV h (fun l => c_X1_allowsTaking l _ _ _ _ _ hw) q1009 q372 q373 q61 q374 nd_X1_allowsTaking ⟨by decide, by decide⟩ rfl rfl ⟨by decide, by decide⟩ kci2 rfl h13 rfl (by first | decide | exact nl rfl) rfl dX9_canTake_40 nxk (kI fun r14 S15 hw => ?_)
    obtain ⟨h17, hw⟩ := hw
    exact r_zret h hq (ty := .boolean) rfl (lb h17) ⟨_, rfl, hw⟩ (by decide) (by decide) dX9_canTake_43
  · replace hw := hw.2 hc
    exact r_throwS h hq th80 q545 q69 (is := 222) (text := "the exhibition was cancelled") (by decide +kernel) hw dX9_canTake_23 dX9_canTake_26 dX9_canTake_27 dX9_canTake_29 dX9_canTake_32 (by first | decide | exact nl rfl) (by first | decide | exact nl rfl) (by first | decide | exact nl rfl) (by first | decide | exact nl rfl) (by first | decide | exact nl rfl) (by first | decide | exact nl rfl)

def w_X9_cancel (S : St) (a0 : Nat) (x1 : Int32) (f : Int32 → St → Prop) (exc : String → St → Prop) : Prop := ok S a0 10 ∧ w_X9_exhibitionAt S a0 x1 (fun (b2 : Nat) (S3 : St) => ok S3 b2 3 ∧ (((¬ (sI S3 b2 6) = 99) → let S6 : St := setI S3 b2 6 99; ok S6 a0 10 ∧ w_X9_planThoseThatWait S6 a0 (fun (r8 : Int32) (S9 : St) => f r8 S9)) ∧ (((sI S3 b2 6) = 99) → exc "java/lang/IllegalStateException" S3))) exc
set_option maxRecDepth 100000 in
set_option maxHeartbeats 4000000 in
theorem c_X9_cancel (l : Launch) (S : St) (a0 : Nat) (x1 : Int32) (f : Int32 → St → Prop) (exc : String → St → Prop) (hw : w_X9_cancel S a0 x1 f exc) : Ct l yX9_cancel (Cond.code yX9_cancel cX9_cancel 3 (some .int)) { frames := 13, cells := 2, slots := 12, locals := 287 } 2 12 S [.ref a0, .int x1] (pI f) exc := by
  refine entry (by decide +kernel) rfl rfl (by first | decide | exact nl rfl) rfl ?_
  intro X h hq
  unfold w_X9_cancel at hw
  refine r_aload_n h 0 rfl rfl dX9_cancel_0 ?_
  refine r_iload_n h 1 rfl rfl dX9_cancel_1 ?_
  obtain ⟨h1, hw⟩ := hw
  refine r_callV h (fun l => c_X9_exhibitionAt l _ _ _ _ _ hw) q906 q908 q20 q55 q909 nd_X9_exhibitionAt ⟨by decide, by decide⟩ rfl rfl ⟨by decide, by decide⟩ kci10 rfl h1 rfl (by first | decide | exact nl rfl) rfl dX9_cancel_2 (fun E S9 he => r_out h hq he (by first | decide | exact nl rfl) (by first | decide | exact nl rfl)) (kA fun b2 S3 hw => ?_)
  refine r_astore_n h [1, 0] rfl (by decide) rfl dX9_cancel_5 ?_
  refine r_aload_n h 1 rfl rfl dX9_cancel_6 ?_
  obtain ⟨h5, hw⟩ := hw
  refine r_getiN h kci3 in3 (k := 6) (by decide) rfl rfl n882 h5 dX9_cancel_7 ?_
  refine r_bipush h (v := 99) (by decide) dX9_cancel_10 ?_
  refine r_icmp_ne h 25 dX9_cancel_12 (by decide) (fun hc => ?_) (fun hc => ?_)
  · replace hw := hw.1 hc
    refine r_aload_n h 1 rfl rfl dX9_cancel_25 ?_
    refine r_bipush h (v := 99) (by decide) dX9_cancel_26 ?_
    refine r_putiN h kci3 in3 tyX2_ok nmX2 (k := 6) (by decide) rfl rfl rfl rfl rfl rfl n882 h5 dX9_cancel_28 ?_
    refine r_aload_n h 0 rfl rfl dX9_cancel_31 ?_
    obtain ⟨h7, hw⟩ := hw
    refine r_callV h (fun l => c_X9_planThoseThatWait l _ _ _ hw) q650 q652 q14 q55 q653 nd_X9_planThoseThatWait ⟨by decide, by decide⟩ rfl rfl ⟨by decide, by decide⟩ kci10 rfl h7 rfl (by first | decide | exact nl rfl) rfl dX9_cancel_32 nxk (kI fun r8 S9 hw => ?_)
    exact r_iret h hq rfl ⟨_, rfl, hw⟩ (by decide) (by decide) dX9_cancel_35
  · replace hw := hw.2 hc
    exact r_throwS h hq th80 q545 q69 (is := 206) (text := "the exhibition was cancelled before") (by decide +kernel) hw dX9_cancel_15 dX9_cancel_18 dX9_cancel_19 dX9_cancel_21 dX9_cancel_24 (by first | decide | exact nl rfl) (by first | decide | exact nl rfl) (by first | decide | exact nl rfl) (by first | decide | exact nl rfl) (by first | decide | exact nl rfl) (by first | decide | exact nl rfl)

def w_X9_refuseUnknown (S : St) (a0 : Nat) (x1 : Int32) (x2 : Int32) (f : St → Prop) (exc : String → St → Prop) : Prop := ok S a0 10 ∧ ∃ b2 : Nat, sP S a0 0 = some b2 ∧ ok S b2 4 ∧ w_X3_walls S b2 (fun (r5 : Int32) (S6 : St) => w_X9_isWithin S6 x1 0 (r5 - 1) (fun (r8 : Int32) (S9 : St) => (((¬ r8 = 0) → w_X9_isWithin S9 x2 0 99 (fun (r11 : Int32) (S12 : St) => (((¬ r11 = 0) → f S12) ∧ ((r11 = 0) → exc "java/lang/IllegalArgumentException" S12)))) ∧ ((r8 = 0) → exc "java/lang/IndexOutOfBoundsException" S9))))
set_option maxRecDepth 100000 in
set_option maxHeartbeats 4000000 in
theorem c_X9_refuseUnknown (l : Launch) (S : St) (a0 : Nat) (x1 : Int32) (x2 : Int32) (f : St → Prop) (exc : String → St → Prop) (hw : w_X9_refuseUnknown S a0 x1 x2 f exc) : Ct l yX9_refuseUnknown (Cond.code yX9_refuseUnknown cX9_refuseUnknown 3 none) { frames := 6, cells := 1, slots := 6, locals := 82 } 1 6 S [.ref a0, .int x1, .int x2] (pV f) exc := by
  refine entry (by decide +kernel) rfl rfl (by first | decide | exact nl rfl) rfl ?_
  intro X h hq
  unfold w_X9_refuseUnknown at hw
  refine r_iload_n h 1 rfl rfl dX9_refuseUnknown_0 ?_
  refine r_iconst h (v := 0) (by decide) dX9_refuseUnknown_1 ?_
  refine r_aload_n h 0 rfl rfl dX9_refuseUnknown_2 ?_
  obtain ⟨h1, hw⟩ := hw
  obtain ⟨b2, h3, hw⟩ := hw
  refine r_getr h kci10 in10 (k := 0) (by decide) rfl rfl q209 h1 h3 dX9_refuseUnknown_3 ?_
  obtain ⟨h4, hw⟩ := hw
  refine r_callV h (fun l => c_X3_walls l _ _ _ hw) q1094 q310 q311 q56 q312 nd_X3_walls ⟨by decide, by decide⟩ rfl rfl ⟨by decide, by decide⟩ kci4 rfl h4 rfl (by first | decide | exact nl rfl) rfl dX9_refuseUnknown_6 nxk (kI fun r5 S6 hw => ?_)
  refine r_iconst h (v := 1) (by decide) dX9_refuseUnknown_9 ?_
  refine r_isub h dX9_refuseUnknown_10 ?_
  refine r_callS h (fun l => c_X9_isWithin l _ _ _ _ _ hw) q472 q315 q55 q316 nd_X9_isWithin ⟨by decide, by decide⟩ rfl rfl ⟨by decide, by decide⟩ (as := [.int x1, .int 0, .int (r5 - 1)]) rfl (by first | decide | exact nl rfl) rfl dX9_refuseUnknown_11 nxk (kI fun r8 S9 hw => ?_)
  refine r_if_ne h 28 dX9_refuseUnknown_14 (by decide) (fun hc => ?_) (fun hc => ?_)
  · replace hw := hw.1 hc
    refine r_iload_n h 2 rfl rfl dX9_refuseUnknown_28 ?_
    refine r_iconst h (v := 0) (by decide) dX9_refuseUnknown_29 ?_
    refine r_bipush h (v := 99) (by decide) dX9_refuseUnknown_30 ?_
    refine r_callS h (fun l => c_X9_isWithin l _ _ _ _ _ hw) q472 q315 q55 q316 nd_X9_isWithin ⟨by decide, by decide⟩ rfl rfl ⟨by decide, by decide⟩ (as := [.int x2, .int 0, .int 99]) rfl (by first | decide | exact nl rfl) rfl dX9_refuseUnknown_32 nxk (kI fun r11 S12 hw => ?_)
    refine r_if_ne h 49 dX9_refuseUnknown_35 (by decide) (fun hc => ?_) (fun hc => ?_)
    · replace hw := hw.1 hc
      exact r_vret h hq rfl ⟨rfl, hw⟩ (by decide) (by decide) dX9_refuseUnknown_49
    · replace hw := hw.2 hc
      exact r_throwSW h hq th66 q473 q68 (is := 324) (text := "there is no such day") (by decide +kernel) hw dX9_refuseUnknown_38 dX9_refuseUnknown_41 dX9_refuseUnknown_42 dX9_refuseUnknown_45 dX9_refuseUnknown_48 (by first | decide | exact nl rfl) (by first | decide | exact nl rfl) (by first | decide | exact nl rfl) (by first | decide | exact nl rfl) (by first | decide | exact nl rfl) (by first | decide | exact nl rfl)
  · replace hw := hw.2 hc
    exact r_throwSW h hq th311 q699 q77 (is := 322) (text := "there is no such wall") (by decide +kernel) hw dX9_refuseUnknown_17 dX9_refuseUnknown_20 dX9_refuseUnknown_21 dX9_refuseUnknown_24 dX9_refuseUnknown_27 (by first | decide | exact nl rfl) (by first | decide | exact nl rfl) (by first | decide | exact nl rfl) (by first | decide | exact nl rfl) (by first | decide | exact nl rfl) (by first | decide | exact nl rfl)

def w_X9_hanging (S : St) (a0 : Nat) (x1 : Int32) (x2 : Int32) (f : Int32 → St → Prop) (exc : String → St → Prop) : Prop := ok S a0 10 ∧ w_X9_refuseUnknown S a0 x1 x2 (fun (S2 : St) => ok S2 a0 10 ∧ ∃ b5 : Nat, sP S2 a0 4 = some b5 ∧ ok S2 b5 2 ∧ w_X1_worksOn S2 b5 x1 x2 (fun (r8 : Int32) (S9 : St) => f r8 S9)) exc
set_option maxRecDepth 100000 in
set_option maxHeartbeats 4000000 in
theorem c_X9_hanging (l : Launch) (S : St) (a0 : Nat) (x1 : Int32) (x2 : Int32) (f : Int32 → St → Prop) (exc : String → St → Prop) (hw : w_X9_hanging S a0 x1 x2 f exc) : Ct l yX9_hanging (Cond.code yX9_hanging cX9_hanging 3 (some .int)) { frames := 7, cells := 1, slots := 6, locals := 104 } 1 6 S [.ref a0, .int x1, .int x2] (pI f) exc := by
  refine entry (by decide +kernel) rfl rfl (by first | decide | exact nl rfl) rfl ?_
  intro X h hq
  unfold w_X9_hanging at hw
  refine r_aload_n h 0 rfl rfl dX9_hanging_0 ?_
  refine r_iload_n h 1 rfl rfl dX9_hanging_1 ?_
  refine r_iload_n h 2 rfl rfl dX9_hanging_2 ?_
  obtain ⟨h1, hw⟩ := hw
  refine r_callV h (fun l => c_X9_refuseUnknown l _ _ _ _ _ _ hw) q1090 q1092 q26 q55 q1093 nd_X9_refuseUnknown ⟨by decide, by decide⟩ rfl rfl ⟨by decide, by decide⟩ kci10 rfl h1 rfl (by first | decide | exact nl rfl) rfl dX9_hanging_3 (fun E S9 he => r_out h hq he (by first | decide | exact nl rfl) (by first | decide | exact nl rfl)) (kV fun  S2 hw => ?_)
  refine r_aload_n h 0 rfl rfl dX9_hanging_6 ?_
  obtain ⟨h4, hw⟩ := hw
  obtain ⟨b5, h6, hw⟩ := hw
  refine r_getr h kci10 in10 (k := 4) (by decide) rfl rfl q213 h4 h6 dX9_hanging_7 ?_
  refine r_iload_n h 1 rfl rfl dX9_hanging_10 ?_
  refine r_iload_n h 2 rfl rfl dX9_hanging_11 ?_
  obtain ⟨h7, hw⟩ := hw
  refine r_callV h (fun l => c_X1_worksOn l _ _ _ _ _ hw) q1105 q1106 q1107 q61 q1108 nd_X1_worksOn ⟨by decide, by decide⟩ rfl rfl ⟨by decide, by decide⟩ kci2 rfl h7 rfl (by first | decide | exact nl rfl) rfl dX9_hanging_12 nxk (kI fun r8 S9 hw => ?_)
  exact r_iret h hq rfl ⟨_, rfl, hw⟩ (by decide) (by decide) dX9_hanging_15

def w_X9_include (S : St) (a0 : Nat) (x1 : Int32) (x2 : Int32) (f : Int32 → St → Prop) (exc : String → St → Prop) : Prop := ok S a0 10 ∧ w_X9_exhibitionAt S a0 x1 (fun (b2 : Nat) (S3 : St) => ok S3 a0 10 ∧ w_X9_workAt S3 a0 x2 (fun (b6 : Nat) (S7 : St) => ok S7 b2 3 ∧ ((((sI S7 b2 6) = 100) → ∃ b10 : Nat, sP S7 b2 4 = some b10 ∧ ok S7 b10 0 ∧ w_Jx4a65c_size_8abf5 S7 b10 (fun (r13 : Int32) (S14 : St) => (((r13 < 5) → ok S14 b2 3 ∧ w_X2_indexOf S14 b2 b6 (fun (r17 : Int32) (S18 : St) => (((r17 = (-1)) → ok S18 b2 3 ∧ ∃ b21 : Nat, sP S18 b2 4 = some b21 ∧ ok S18 b21 0 ∧ w_Jx4a65c_add_9ea2d S18 b21 b6 (fun (r24 : Int32) (S25 : St) => ok S25 b2 3 ∧ ∃ b28 : Nat, sP S25 b2 4 = some b28 ∧ ok S25 b28 0 ∧ w_Jx4a65c_size_8abf5 S25 b28 (fun (r31 : Int32) (S32 : St) => f r31 S32))) ∧ ((¬ r17 = (-1)) → exc "java/lang/IllegalStateException" S18)))) ∧ ((¬ r13 < 5) → exc "java/lang/IllegalStateException" S14)))) ∧ ((¬ (sI S7 b2 6) = 100) → exc "java/lang/IllegalStateException" S7))) exc) exc
set_option maxRecDepth 100000 in
set_option maxHeartbeats 4000000 in
theorem c_X9_include (l : Launch) (S : St) (a0 : Nat) (x1 : Int32) (x2 : Int32) (f : Int32 → St → Prop) (exc : String → St → Prop) (hw : w_X9_include S a0 x1 x2 f exc) : Ct l yX9_include (Cond.code yX9_include cX9_include 5 (some .int)) { frames := 7, cells := 3, slots := 32, locals := 191 } 3 32 S [.ref a0, .int x1, .int x2] (pI f) exc := by
  refine entry (by decide +kernel) rfl rfl (by first | decide | exact nl rfl) rfl ?_
  intro X h hq
  unfold w_X9_include at hw
  refine r_aload_n h 0 rfl rfl dX9_include_0 ?_
  refine r_iload_n h 1 rfl rfl dX9_include_1 ?_
  obtain ⟨h1, hw⟩ := hw
  refine r_callV h (fun l => c_X9_exhibitionAt l _ _ _ _ _ hw) q906 q908 q20 q55 q909 nd_X9_exhibitionAt ⟨by decide, by decide⟩ rfl rfl ⟨by decide, by decide⟩ kci10 rfl h1 rfl (by first | decide | exact nl rfl) rfl dX9_include_2 (fun E S9 he => r_out h hq he (by first | decide | exact nl rfl) (by first | decide | exact nl rfl)) (kA fun b2 S3 hw => ?_)
  refine r_astore_n h [1, 3, 0] rfl (by decide) rfl dX9_include_5 ?_
  refine r_aload_n h 0 rfl rfl dX9_include_6 ?_
  refine r_iload_n h 1 rfl rfl dX9_include_7 ?_
  obtain ⟨h5, hw⟩ := hw
  refine r_callV h (fun l => c_X9_workAt l _ _ _ _ _ hw) q802 q804 q17 q55 q805 nd_X9_workAt ⟨by decide, by decide⟩ rfl rfl ⟨by decide, by decide⟩ kci10 rfl h5 rfl (by first | decide | exact nl rfl) rfl dX9_include_8 (fun E S9 he => r_out h hq he (by first | decide | exact nl rfl) (by first | decide | exact nl rfl)) (kA fun b6 S7 hw => ?_)
  refine r_astore h [3, 0] (by decide) rfl dX9_include_11 ?_
  refine r_aload_n h 0 rfl rfl dX9_include_13 ?_
  obtain ⟨h9, hw⟩ := hw
  refine r_getiN h kci3 in3 (k := 6) (by decide) rfl rfl n882 h9 dX9_include_14 ?_
  refine r_bipush h (v := 100) (by decide) dX9_include_17 ?_
  refine r_icmp_eq h 32 dX9_include_19 (by decide) (fun hc => ?_) (fun hc => ?_)
  · replace hw := hw.1 hc
    refine r_aload_n h 0 rfl rfl dX9_include_32 ?_
    obtain ⟨b10, h11, hw⟩ := hw
    refine r_getrN h kci3 in3 (k := 4) (by decide) rfl rfl n876 h9 h11 dX9_include_33 ?_
    obtain ⟨h12, hw⟩ := hw
    refine r_callV h (fun l => c_Jx4a65c_size_8abf5 l _ _ _ hw) q238 q239 q240 q59 q241 nd_Jx4a65c_size_8abf5 ⟨by decide, by decide⟩ rfl rfl ⟨by decide, by decide⟩ kci0 rfl h12 rfl (by first | decide | exact nl rfl) rfl dX9_include_36 nxk (kI fun r13 S14 hw => ?_)
    refine r_iconst h (v := 5) (by decide) dX9_include_39 ?_
    refine r_icmp_lt h 53 dX9_include_40 (by decide) (fun hc => ?_) (fun hc => ?_)
    · replace hw := hw.1 hc
      refine r_aload_n h 0 rfl rfl dX9_include_53 ?_
      refine r_aload h 1 rfl dX9_include_54 ?_
      obtain ⟨h16, hw⟩ := hw
      refine r_callV h (fun l => c_X2_indexOf l _ _ _ _ hw) q928 q381 q382 q82 q383 nd_X2_indexOf ⟨by decide, by decide⟩ rfl rfl ⟨by decide, by decide⟩ kci3 rfl h16 rfl (by first | decide | exact nl rfl) rfl dX9_include_56 nxk (kI fun r17 S18 hw => ?_)
      refine r_iconst h (v := (-1)) (by decide) dX9_include_59 ?_
      refine r_icmp_eq h 73 dX9_include_60 (by decide) (fun hc => ?_) (fun hc => ?_)
      · replace hw := hw.1 hc
        refine r_aload_n h 0 rfl rfl dX9_include_73 ?_
        obtain ⟨h20, hw⟩ := hw
        obtain ⟨b21, h22, hw⟩ := hw
        refine r_getrN h kci3 in3 (k := 4) (by decide) rfl rfl n876 h20 h22 dX9_include_74 ?_
        refine r_aload h 1 rfl dX9_include_77 ?_
        obtain ⟨h23, hw⟩ := hw
        refine r_callV h (fun l => c_Jx4a65c_add_9ea2d l _ _ _ _ hw) q586 q587 q588 q59 q589 nd_Jx4a65c_add_9ea2d ⟨by decide, by decide⟩ rfl rfl ⟨by decide, by decide⟩ kci0 rfl h23 rfl (by first | decide | exact nl rfl) rfl dX9_include_79 nxk (kI fun r24 S25 hw => ?_)
        refine r_pop h rfl dX9_include_82 ?_
        refine r_aload_n h 0 rfl rfl dX9_include_83 ?_
        obtain ⟨h27, hw⟩ := hw
        obtain ⟨b28, h29, hw⟩ := hw
        refine r_getrN h kci3 in3 (k := 4) (by decide) rfl rfl n876 h27 h29 dX9_include_84 ?_
        obtain ⟨h30, hw⟩ := hw
        refine r_callV h (fun l => c_Jx4a65c_size_8abf5 l _ _ _ hw) q238 q239 q240 q59 q241 nd_Jx4a65c_size_8abf5 ⟨by decide, by decide⟩ rfl rfl ⟨by decide, by decide⟩ kci0 rfl h30 rfl (by first | decide | exact nl rfl) rfl dX9_include_87 nxk (kI fun r31 S32 hw => ?_)
        exact r_iret h hq rfl ⟨_, rfl, hw⟩ (by decide) (by decide) dX9_include_90
      · replace hw := hw.2 hc
        exact r_throwS h hq th80 q545 q69 (is := 187) (text := "the exhibition has this work") (by decide +kernel) hw dX9_include_63 dX9_include_66 dX9_include_67 dX9_include_69 dX9_include_72 (by first | decide | exact nl rfl) (by first | decide | exact nl rfl) (by first | decide | exact nl rfl) (by first | decide | exact nl rfl) (by first | decide | exact nl rfl) (by first | decide | exact nl rfl)
    · replace hw := hw.2 hc
      exact r_throwS h hq th80 q545 q69 (is := 181) (text := "the exhibition has 5 works") (by decide +kernel) hw dX9_include_43 dX9_include_46 dX9_include_47 dX9_include_49 dX9_include_52 (by first | decide | exact nl rfl) (by first | decide | exact nl rfl) (by first | decide | exact nl rfl) (by first | decide | exact nl rfl) (by first | decide | exact nl rfl) (by first | decide | exact nl rfl)
  · replace hw := hw.2 hc
    exact r_throwS h hq th80 q545 q69 (is := 176) (text := "the exhibition is not a draft") (by decide +kernel) hw dX9_include_22 dX9_include_25 dX9_include_26 dX9_include_28 dX9_include_31 (by first | decide | exact nl rfl) (by first | decide | exact nl rfl) (by first | decide | exact nl rfl) (by first | decide | exact nl rfl) (by first | decide | exact nl rfl) (by first | decide | exact nl rfl)

def w_X9_meanWorks (S : St) (a0 : Nat) (f : UInt64 → St → Prop) (exc : String → St → Prop) : Prop := ok S a0 10 ∧ ∃ b2 : Nat, sP S a0 4 = some b2 ∧ ok S b2 2 ∧ w_X1_plannedExhibitions S b2 (fun (r5 : Int32) (S6 : St) => (((¬ r5 = 0) → ok S6 a0 10 ∧ ∃ b9 : Nat, sP S6 a0 4 = some b9 ∧ ok S6 b9 2 ∧ w_X1_plannedWorks S6 b9 (fun (r12 : Int32) (S13 : St) => vf_n64 (FP.ddiv (FP.i2d r12) (FP.i2d r5)) ∧ f (FP.ddiv (FP.i2d r12) (FP.i2d r5)) S13)) ∧ ((r5 = 0) → exc "java/lang/ArithmeticException" S6)))
set_option maxRecDepth 100000 in
set_option maxHeartbeats 4000000 in
theorem c_X9_meanWorks (l : Launch) (S : St) (a0 : Nat) (f : UInt64 → St → Prop) (exc : String → St → Prop) (hw : w_X9_meanWorks S a0 f exc) : Ct l yX9_meanWorks (Cond.code yX9_meanWorks cX9_meanWorks 2 (some .double)) { frames := 6, cells := 1, slots := 6, locals := 86 } 1 6 S [.ref a0] (pD f) exc := by
  refine entry (by decide +kernel) rfl rfl (by first | decide | exact nl rfl) rfl ?_
  intro X h hq
  unfold w_X9_meanWorks at hw
  refine r_aload_n h 0 rfl rfl dX9_meanWorks_0 ?_
  obtain ⟨h1, hw⟩ := hw
  obtain ⟨b2, h3, hw⟩ := hw
  refine r_getr h kci10 in10 (k := 4) (by decide) rfl rfl q213 h1 h3 dX9_meanWorks_1 ?_
  obtain ⟨h4, hw⟩ := hw
  refine r_callV h (fun l => c_X1_plannedExhibitions l _ _ _ hw) q1147 q1148 q1149 q61 q1150 nd_X1_plannedExhibitions ⟨by decide, by decide⟩ rfl rfl ⟨by decide, by decide⟩ kci2 rfl h4 rfl (by first | decide | exact nl rfl) rfl dX9_meanWorks_4 nxk (kI fun r5 S6 hw => ?_)
  refine r_istore_n h [1, 0] rfl (by decide) rfl dX9_meanWorks_7 ?_
  refine r_iload_n h 1 rfl rfl dX9_meanWorks_8 ?_
  refine r_if_ne h 23 dX9_meanWorks_9 (by decide) (fun hc => ?_) (fun hc => ?_)
  · replace hw := hw.1 hc
    refine r_aload_n h 0 rfl rfl dX9_meanWorks_23 ?_
    obtain ⟨h8, hw⟩ := hw
    obtain ⟨b9, h10, hw⟩ := hw
    refine r_getr h kci10 in10 (k := 4) (by decide) rfl rfl q213 h8 h10 dX9_meanWorks_24 ?_
    obtain ⟨h11, hw⟩ := hw
    refine r_callV h (fun l => c_X1_plannedWorks l _ _ _ hw) q1154 q1155 q1156 q61 q1157 nd_X1_plannedWorks ⟨by decide, by decide⟩ rfl rfl ⟨by decide, by decide⟩ kci2 rfl h11 rfl (by first | decide | exact nl rfl) rfl dX9_meanWorks_27 nxk (kI fun r12 S13 hw => ?_)
    refine r_i2d h dX9_meanWorks_30 ?_
    refine r_iload_n h 1 rfl rfl dX9_meanWorks_31 ?_
    refine r_i2d h dX9_meanWorks_32 ?_
    obtain ⟨h15, hw⟩ := hw
    refine r_ddiv h h15 dX9_meanWorks_33 ?_
    exact r_dret h hq rfl ⟨_, rfl, hw⟩ (by decide) (by decide) dX9_meanWorks_34
  · replace hw := hw.2 hc
    exact r_throwSW h hq th285 q1151 q85 (is := 283) (text := "no exhibition is planned") (by decide +kernel) hw dX9_meanWorks_12 dX9_meanWorks_15 dX9_meanWorks_16 dX9_meanWorks_19 dX9_meanWorks_22 (by first | decide | exact nl rfl) (by first | decide | exact nl rfl) (by first | decide | exact nl rfl) (by first | decide | exact nl rfl) (by first | decide | exact nl rfl) (by first | decide | exact nl rfl)

def w_X9_request (S : St) (a0 : Nat) (x1 : Int32) (f : Int32 → St → Prop) (exc : String → St → Prop) : Prop := ok S a0 10 ∧ w_X9_exhibitionAt S a0 x1 (fun (b2 : Nat) (S3 : St) => ok S3 b2 3 ∧ ((((sI S3 b2 6) = 100) → ∃ b6 : Nat, sP S3 b2 4 = some b6 ∧ ok S3 b6 0 ∧ w_Jx4a65c_isEmpty_aae02 S3 b6 (fun (r9 : Int32) (S10 : St) => (((r9 = 0) → ok S10 b2 3 ∧ let S13 : St := setI S10 b2 6 119; ok S13 a0 10 ∧ w_X9_findsWorkByWork S13 a0 b2 (fun (r15 : Int32) (S16 : St) => (((r15 = 0) → ok S16 b2 3 ∧ narrow .char (.int (sI S16 b2 6)) = .int (sI S16 b2 6) ∧ f (sI S16 b2 6) S16) ∧ ((¬ r15 = 0) → ok S16 a0 10 ∧ w_X9_hangAsFound S16 a0 b2 (fun (S21 : St) => ok S21 b2 3 ∧ narrow .char (.int (sI S21 b2 6)) = .int (sI S21 b2 6) ∧ f (sI S21 b2 6) S21))))) ∧ ((¬ r9 = 0) → exc "java/lang/UnsupportedOperationException" S10)))) ∧ ((¬ (sI S3 b2 6) = 100) → exc "java/lang/IllegalStateException" S3))) exc
set_option maxRecDepth 100000 in
set_option maxHeartbeats 4000000 in
theorem c_X9_request (l : Launch) (S : St) (a0 : Nat) (x1 : Int32) (f : Int32 → St → Prop) (exc : String → St → Prop) (hw : w_X9_request S a0 x1 f exc) : Ct l yX9_request (Cond.code yX9_request cX9_request 3 (some .char)) { frames := 12, cells := 2, slots := 12, locals := 264 } 2 12 S [.ref a0, .int x1] (pI f) exc := by
  refine entry (by decide +kernel) rfl rfl (by first | decide | exact nl rfl) rfl ?_
  intro X h hq
  unfold w_X9_request at hw
  refine r_aload_n h 0 rfl rfl dX9_request_0 ?_
  refine r_iload_n h 1 rfl rfl dX9_request_1 ?_
  obtain ⟨h1, hw⟩ := hw
  refine r_callV h (fun l => c_X9_exhibitionAt l _ _ _ _ _ hw) q906 q908 q20 q55 q909 nd_X9_exhibitionAt ⟨by decide, by decide⟩ rfl rfl ⟨by decide, by decide⟩ kci10 rfl h1 rfl (by first | decide | exact nl rfl) rfl dX9_request_2 (fun E S9 he => r_out h hq he (by first | decide | exact nl rfl) (by first | decide | exact nl rfl)) (kA fun b2 S3 hw => ?_)
  refine r_astore_n h [1, 0] rfl (by decide) rfl dX9_request_5 ?_
  refine r_aload_n h 1 rfl rfl dX9_request_6 ?_
  obtain ⟨h5, hw⟩ := hw
  refine r_getiN h kci3 in3 (k := 6) (by decide) rfl rfl n882 h5 dX9_request_7 ?_
  refine r_bipush h (v := 100) (by decide) dX9_request_10 ?_
  refine r_icmp_eq h 25 dX9_request_12 (by decide) (fun hc => ?_) (fun hc => ?_)
  · replace hw := hw.1 hc
    refine r_aload_n h 1 rfl rfl dX9_request_25 ?_
    obtain ⟨b6, h7, hw⟩ := hw
    refine r_getrN h kci3 in3 (k := 4) (by decide) rfl rfl n876 h5 h7 dX9_request_26 ?_
    obtain ⟨h8, hw⟩ := hw
    refine r_callV h (fun l => c_Jx4a65c_isEmpty_aae02 l _ _ _ hw) q938 q939 q940 q59 q941 nd_Jx4a65c_isEmpty_aae02 ⟨by decide, by decide⟩ rfl rfl ⟨by decide, by decide⟩ kci0 rfl h8 rfl (by first | decide | exact nl rfl) rfl dX9_request_29 nxk (kI fun r9 S10 hw => ?_)
    refine r_if_eq h 45 dX9_request_32 (by decide) (fun hc => ?_) (fun hc => ?_)
    · replace hw := hw.1 hc
      refine r_aload_n h 1 rfl rfl dX9_request_45 ?_
      refine r_bipush h (v := 119) (by decide) dX9_request_46 ?_
      obtain ⟨h12, hw⟩ := hw
      refine r_putiN h kci3 in3 tyX2_ok nmX2 (k := 6) (by decide) rfl rfl rfl rfl rfl rfl n882 h12 dX9_request_48 ?_
      refine r_aload_n h 0 rfl rfl dX9_request_51 ?_
      refine r_aload_n h 1 rfl rfl dX9_request_52 ?_
      obtain ⟨h14, hw⟩ := hw
      refine r_callV h (fun l => c_X9_findsWorkByWork l _ _ _ _ hw) q395 q397 q4 q55 q398 nd_X9_findsWorkByWork ⟨by decide, by decide⟩ rfl rfl ⟨by decide, by decide⟩ kci10 rfl h14 rfl (by first | decide | exact nl rfl) rfl dX9_request_53 nxk (kI fun r15 S16 hw => ?_)
      refine r_if_eq h 64 dX9_request_56 (by decide) (fun hc => ?_) (fun hc => ?_)
      · replace hw := hw.1 hc
        refine r_aload_n h 1 rfl rfl dX9_request_64 ?_
        obtain ⟨h18, hw⟩ := hw
        refine r_getiN h kci3 in3 (k := 6) (by decide) rfl rfl n882 h18 dX9_request_65 ?_
        obtain ⟨h19, hw⟩ := hw
        exact r_zret h hq (ty := .char) rfl h19 ⟨_, rfl, hw⟩ (by decide) (by decide) dX9_request_68
      · replace hw := hw.2 hc
        refine r_aload_n h 0 rfl rfl dX9_request_59 ?_
        refine r_aload_n h 1 rfl rfl dX9_request_60 ?_
        obtain ⟨h20, hw⟩ := hw
        refine r_callV h (fun l => c_X9_hangAsFound l _ _ _ _ hw) q654 q656 q15 q55 q657 nd_X9_hangAsFound ⟨by decide, by decide⟩ rfl rfl ⟨by decide, by decide⟩ kci10 rfl h20 rfl (by first | decide | exact nl rfl) rfl dX9_request_61 nxk (kV fun  S21 hw => ?_)
        refine r_aload_n h 1 rfl rfl dX9_request_64 ?_
        obtain ⟨h23, hw⟩ := hw
        refine r_getiN h kci3 in3 (k := 6) (by decide) rfl rfl n882 h23 dX9_request_65 ?_
        obtain ⟨h24, hw⟩ := hw
        exact r_zret h hq (ty := .char) rfl h24 ⟨_, rfl, hw⟩ (by decide) (by decide) dX9_request_68
    · replace hw := hw.2 hc
      exact r_throwS h hq th197 q942 q84 (is := 195) (text := "the exhibition has no works") (by decide +kernel) hw dX9_request_35 dX9_request_38 dX9_request_39 dX9_request_41 dX9_request_44 (by first | decide | exact nl rfl) (by first | decide | exact nl rfl) (by first | decide | exact nl rfl) (by first | decide | exact nl rfl) (by first | decide | exact nl rfl) (by first | decide | exact nl rfl)
  · replace hw := hw.2 hc
    exact r_throwS h hq th80 q545 q69 (is := 176) (text := "the exhibition is not a draft") (by decide +kernel) hw dX9_request_15 dX9_request_18 dX9_request_19 dX9_request_21 dX9_request_24 (by first | decide | exact nl rfl) (by first | decide | exact nl rfl) (by first | decide | exact nl rfl) (by first | decide | exact nl rfl) (by first | decide | exact nl rfl) (by first | decide | exact nl rfl)

def wj_X9_separate_51 (f : Int32 → St → Prop) (exc : String → St → Prop) (S : St) (a0 : Nat) (x1 : Int32) (x2 : Int32) (x3 : Int32) (a4 : Nat) (a5 : Nat) : Prop := ok S a0 10 ∧ ∃ b11 : Nat, sP S a0 4 = some b11 ∧ ok S b11 2 ∧ w_X1_hangsAgainst S b11 a4 a5 x3 (fun (r14 : Int32) (S15 : St) => (((r14 = 0) → ok S15 a0 10 ∧ ∃ b18 : Nat, sP S15 a0 3 = some b18 ∧ ok S15 b18 8 ∧ w_X7_keep S15 b18 x1 x2 x3 (fun (S21 : St) => ok S21 a0 10 ∧ w_X9_planThoseThatWait S21 a0 (fun (r24 : Int32) (S25 : St) => ok S25 a0 10 ∧ ∃ b28 : Nat, sP S25 a0 3 = some b28 ∧ ok S25 b28 8 ∧ w_X7_pairs S25 b28 (fun (r31 : Int32) (S32 : St) => f r31 S32)))) ∧ ((¬ r14 = 0) → exc "java/lang/IllegalStateException" S15)))
def w_X9_separate (S : St) (a0 : Nat) (x1 : Int32) (x2 : Int32) (x3 : Int32) (f : Int32 → St → Prop) (exc : String → St → Prop) : Prop := ok S a0 10 ∧ w_X9_workAt S a0 x1 (fun (b2 : Nat) (S3 : St) => ok S3 a0 10 ∧ w_X9_workAt S3 a0 x2 (fun (b6 : Nat) (S7 : St) => (((¬ x1 = x2) → (((x3 = 114) → wj_X9_separate_51 f exc S7 a0 x1 x2 x3 b2 b6) ∧ ((¬ x3 = 114) → (((x3 = 119) → wj_X9_separate_51 f exc S7 a0 x1 x2 x3 b2 b6) ∧ ((¬ x3 = 119) → exc "java/lang/IllegalArgumentException" S7))))) ∧ ((x1 = x2) → exc "java/lang/IllegalArgumentException" S7))) exc) exc
set_option maxRecDepth 100000 in
set_option maxHeartbeats 4000000 in
theorem c_X9_separate (l : Launch) (S : St) (a0 : Nat) (x1 : Int32) (x2 : Int32) (x3 : Int32) (f : Int32 → St → Prop) (exc : String → St → Prop) (hw : w_X9_separate S a0 x1 x2 x3 f exc) : Ct l yX9_separate (Cond.code yX9_separate cX9_separate 6 (some .int)) { frames := 13, cells := 3, slots := 18, locals := 287 } 3 18 S [.ref a0, .int x1, .int x2, .int x3] (pI f) exc := by
  refine entry (by decide +kernel) rfl rfl (by first | decide | exact nl rfl) rfl ?_
  intro X h hq
  have L51 : ∀ (S : St) (a0 : Nat) (x1 : Int32) (x2 : Int32) (x3 : Int32) (a4 : Nat) (a5 : Nat), wj_X9_separate_51 f exc S a0 x1 x2 x3 a4 a5 → pw X 2 12 S 51 [(0, .ref a0), (1, .int x1), (2, .int x2), (3, .int x3), (4, .ref a4), (5, .ref a5)] [] := by
    intro S a0 x1 x2 x3 a4 a5 hw
    unfold wj_X9_separate_51 at hw
    refine r_aload_n h 0 rfl rfl dX9_separate_51 ?_
    obtain ⟨h10, hw⟩ := hw
    obtain ⟨b11, h12, hw⟩ := hw
    refine r_getr h kci10 in10 (k := 4) (by decide) rfl rfl q213 h10 h12 dX9_separate_52 ?_
    refine r_aload h 4 rfl dX9_separate_55 ?_
    refine r_aload h 5 rfl dX9_separate_57 ?_
    refine r_iload_n h 3 rfl rfl dX9_separate_59 ?_
    obtain ⟨h13, hw⟩ := hw
    refine r_callV h (fun l => c_X1_hangsAgainst l _ _ _ _ _ _ hw) q809 q810 q811 q61 q812 nd_X1_hangsAgainst ⟨by decide, by decide⟩ rfl rfl ⟨by decide, by decide⟩ kci2 rfl h13 rfl (by first | decide | exact nl rfl) rfl dX9_separate_60 nxk (kI fun r14 S15 hw => ?_)
    refine r_if_eq h 76 dX9_separate_63 (by decide) (fun hc => ?_) (fun hc => ?_)
    · replace hw := hw.1 hc
      refine r_aload_n h 0 rfl rfl dX9_separate_76 ?_
      obtain ⟨h17, hw⟩ := hw
      obtain ⟨b18, h19, hw⟩ := hw
      refine r_getr h kci10 in10 (k := 3) (by decide) rfl rfl q212 h17 h19 dX9_separate_77 ?_
      refine r_iload_n h 1 rfl rfl dX9_separate_80 ?_
      refine r_iload_n h 2 rfl rfl dX9_separate_81 ?_
      refine r_iload_n h 3 rfl rfl dX9_separate_82 ?_
      obtain ⟨h20, hw⟩ := hw
      refine r_callV h (fun l => c_X7_keep l _ _ _ _ _ _ hw) q819 q820 q821 q60 q822 nd_X7_keep ⟨by decide, by decide⟩ rfl rfl ⟨by decide, by decide⟩ kci8 rfl h20 rfl (by first | decide | exact nl rfl) rfl dX9_separate_83 nxk (kV fun  S21 hw => ?_)
      refine r_aload_n h 0 rfl rfl dX9_separate_86 ?_
      obtain ⟨h23, hw⟩ := hw
      refine r_callV h (fun l => c_X9_planThoseThatWait l _ _ _ hw) q650 q652 q14 q55 q653 nd_X9_planThoseThatWait ⟨by decide, by decide⟩ rfl rfl ⟨by decide, by decide⟩ kci10 rfl h23 rfl (by first | decide | exact nl rfl) rfl dX9_separate_87 nxk (kI fun r24 S25 hw => ?_)
      refine r_pop h rfl dX9_separate_90 ?_
      refine r_aload_n h 0 rfl rfl dX9_separate_91 ?_
      obtain ⟨h27, hw⟩ := hw
      obtain ⟨b28, h29, hw⟩ := hw
      refine r_getr h kci10 in10 (k := 3) (by decide) rfl rfl q212 h27 h29 dX9_separate_92 ?_
      obtain ⟨h30, hw⟩ := hw
      refine r_callV h (fun l => c_X7_pairs l _ _ _ hw) q827 q828 q829 q60 q830 nd_X7_pairs ⟨by decide, by decide⟩ rfl rfl ⟨by decide, by decide⟩ kci8 rfl h30 rfl (by first | decide | exact nl rfl) rfl dX9_separate_95 nxk (kI fun r31 S32 hw => ?_)
      exact r_iret h hq rfl ⟨_, rfl, hw⟩ (by decide) (by decide) dX9_separate_98
    · replace hw := hw.2 hc
      exact r_throwS h hq th80 q545 q69 (is := 142) (text := "the works hang so that this would be broken") (by decide +kernel) hw dX9_separate_66 dX9_separate_69 dX9_separate_70 dX9_separate_72 dX9_separate_75 (by first | decide | exact nl rfl) (by first | decide | exact nl rfl) (by first | decide | exact nl rfl) (by first | decide | exact nl rfl) (by first | decide | exact nl rfl) (by first | decide | exact nl rfl)
  unfold w_X9_separate at hw
  refine r_aload_n h 0 rfl rfl dX9_separate_0 ?_
  refine r_iload_n h 1 rfl rfl dX9_separate_1 ?_
  obtain ⟨h1, hw⟩ := hw
  refine r_callV h (fun l => c_X9_workAt l _ _ _ _ _ hw) q802 q804 q17 q55 q805 nd_X9_workAt ⟨by decide, by decide⟩ rfl rfl ⟨by decide, by decide⟩ kci10 rfl h1 rfl (by first | decide | exact nl rfl) rfl dX9_separate_2 (fun E S9 he => r_out h hq he (by first | decide | exact nl rfl) (by first | decide | exact nl rfl)) (kA fun b2 S3 hw => ?_)
  refine r_astore h [1, 2, 3, 4, 0] (by decide) rfl dX9_separate_5 ?_
  refine r_aload_n h 0 rfl rfl dX9_separate_7 ?_
  refine r_iload_n h 2 rfl rfl dX9_separate_8 ?_
  obtain ⟨h5, hw⟩ := hw
  refine r_callV h (fun l => c_X9_workAt l _ _ _ _ _ hw) q802 q804 q17 q55 q805 nd_X9_workAt ⟨by decide, by decide⟩ rfl rfl ⟨by decide, by decide⟩ kci10 rfl h5 rfl (by first | decide | exact nl rfl) rfl dX9_separate_9 (fun E S9 he => r_out h hq he (by first | decide | exact nl rfl) (by first | decide | exact nl rfl)) (kA fun b6 S7 hw => ?_)
  refine r_astore h [1, 2, 3, 4, 5, 0] (by decide) rfl dX9_separate_12 ?_
  refine r_iload_n h 1 rfl rfl dX9_separate_14 ?_
  refine r_iload_n h 2 rfl rfl dX9_separate_15 ?_
  refine r_icmp_ne h 29 dX9_separate_16 (by decide) (fun hc => ?_) (fun hc => ?_)
  · replace hw := hw.1 hc
    refine r_iload_n h 3 rfl rfl dX9_separate_29 ?_
    refine r_bipush h (v := 114) (by decide) dX9_separate_30 ?_
    refine r_icmp_eq h 51 dX9_separate_32 (by decide) (fun hc => ?_) (fun hc => ?_)
    · replace hw := hw.1 hc
      exact L51 _ _ _ _ _ _ _ hw
    · replace hw := hw.2 hc
      refine r_iload_n h 3 rfl rfl dX9_separate_35 ?_
      refine r_bipush h (v := 119) (by decide) dX9_separate_36 ?_
      refine r_icmp_eq h 51 dX9_separate_38 (by decide) (fun hc => ?_) (fun hc => ?_)
      · replace hw := hw.1 hc
        exact L51 _ _ _ _ _ _ _ hw
      · replace hw := hw.2 hc
        exact r_throwS h hq th66 q473 q68 (is := 136) (text := "there is no such kind") (by decide +kernel) hw dX9_separate_41 dX9_separate_44 dX9_separate_45 dX9_separate_47 dX9_separate_50 (by first | decide | exact nl rfl) (by first | decide | exact nl rfl) (by first | decide | exact nl rfl) (by first | decide | exact nl rfl) (by first | decide | exact nl rfl) (by first | decide | exact nl rfl)
  · replace hw := hw.2 hc
    exact r_throwS h hq th66 q473 q68 (is := 134) (text := "both works are the same") (by decide +kernel) hw dX9_separate_19 dX9_separate_22 dX9_separate_23 dX9_separate_25 dX9_separate_28 (by first | decide | exact nl rfl) (by first | decide | exact nl rfl) (by first | decide | exact nl rfl) (by first | decide | exact nl rfl) (by first | decide | exact nl rfl) (by first | decide | exact nl rfl)

def w_X9_separation (S : St) (a0 : Nat) (x1 : Int32) (x2 : Int32) (f : Int32 → St → Prop) (exc : String → St → Prop) : Prop := ok S a0 10 ∧ w_X9_workAt S a0 x1 (fun (b2 : Nat) (S3 : St) => ok S3 a0 10 ∧ w_X9_workAt S3 a0 x2 (fun (b6 : Nat) (S7 : St) => ok S7 a0 10 ∧ ∃ b10 : Nat, sP S7 a0 3 = some b10 ∧ ok S7 b2 9 ∧ ok S7 b6 9 ∧ ok S7 b10 8 ∧ w_X7_kindOf S7 b10 (sI S7 b2 0) (sI S7 b6 0) (fun (r15 : Int32) (S16 : St) => narrow .char (.int r15) = .int r15 ∧ f r15 S16)) exc) exc
set_option maxRecDepth 100000 in
set_option maxHeartbeats 4000000 in
theorem c_X9_separation (l : Launch) (S : St) (a0 : Nat) (x1 : Int32) (x2 : Int32) (f : Int32 → St → Prop) (exc : String → St → Prop) (hw : w_X9_separation S a0 x1 x2 f exc) : Ct l yX9_separation (Cond.code yX9_separation cX9_separation 5 (some .char)) { frames := 7, cells := 2, slots := 12, locals := 103 } 2 12 S [.ref a0, .int x1, .int x2] (pI f) exc := by
  refine entry (by decide +kernel) rfl rfl (by first | decide | exact nl rfl) rfl ?_
  intro X h hq
  unfold w_X9_separation at hw
  refine r_aload_n h 0 rfl rfl dX9_separation_0 ?_
  refine r_iload_n h 1 rfl rfl dX9_separation_1 ?_
  obtain ⟨h1, hw⟩ := hw
  refine r_callV h (fun l => c_X9_workAt l _ _ _ _ _ hw) q802 q804 q17 q55 q805 nd_X9_workAt ⟨by decide, by decide⟩ rfl rfl ⟨by decide, by decide⟩ kci10 rfl h1 rfl (by first | decide | exact nl rfl) rfl dX9_separation_2 (fun E S9 he => r_out h hq he (by first | decide | exact nl rfl) (by first | decide | exact nl rfl)) (kA fun b2 S3 hw => ?_)
  refine r_astore_n h [1, 3, 0] rfl (by decide) rfl dX9_separation_5 ?_
  refine r_aload_n h 0 rfl rfl dX9_separation_6 ?_
  refine r_iload_n h 1 rfl rfl dX9_separation_7 ?_
  obtain ⟨h5, hw⟩ := hw
  refine r_callV h (fun l => c_X9_workAt l _ _ _ _ _ hw) q802 q804 q17 q55 q805 nd_X9_workAt ⟨by decide, by decide⟩ rfl rfl ⟨by decide, by decide⟩ kci10 rfl h5 rfl (by first | decide | exact nl rfl) rfl dX9_separation_8 (fun E S9 he => r_out h hq he (by first | decide | exact nl rfl) (by first | decide | exact nl rfl)) (kA fun b6 S7 hw => ?_)
  refine r_astore h [1, 3, 0] (by decide) rfl dX9_separation_11 ?_
  refine r_aload_n h 0 rfl rfl dX9_separation_13 ?_
  obtain ⟨h9, hw⟩ := hw
  obtain ⟨b10, h11, hw⟩ := hw
  refine r_getr h kci10 in10 (k := 3) (by decide) rfl rfl q212 h9 h11 dX9_separation_14 ?_
  refine r_aload_n h 1 rfl rfl dX9_separation_17 ?_
  obtain ⟨h12, hw⟩ := hw
  refine r_getiN h kci9 in9 (k := 0) (by decide) rfl rfl n768 h12 dX9_separation_18 ?_
  refine r_aload h 2 rfl dX9_separation_21 ?_
  obtain ⟨h13, hw⟩ := hw
  refine r_getiN h kci9 in9 (k := 0) (by decide) rfl rfl n768 h13 dX9_separation_23 ?_
  obtain ⟨h14, hw⟩ := hw
  refine r_callV h (fun l => c_X7_kindOf l _ _ _ _ _ hw) q838 q336 q337 q60 q338 nd_X7_kindOf ⟨by decide, by decide⟩ rfl rfl ⟨by decide, by decide⟩ kci8 rfl h14 rfl (by first | decide | exact nl rfl) rfl dX9_separation_26 nxk (kI fun r15 S16 hw => ?_)
  obtain ⟨h18, hw⟩ := hw
  exact r_zret h hq (ty := .char) rfl h18 ⟨_, rfl, hw⟩ (by decide) (by decide) dX9_separation_29

def w_X9_setClimate (S : St) (a0 : Nat) (x1 : Int32) (x2 : Int32) (x3 : Int32) (f : Int32 → St → Prop) (exc : String → St → Prop) : Prop := ok S a0 10 ∧ w_X9_roomAt S a0 x1 (fun (b2 : Nat) (S3 : St) => w_X9_isClimate S3 x2 x3 (fun (r5 : Int32) (S6 : St) => (((¬ r5 = 0) → ok S6 b2 7 ∧ let S9 : St := setI S6 b2 0 x2; let S10 : St := setI S9 b2 1 x3; ok S10 a0 10 ∧ ∃ b12 : Nat, sP S10 a0 4 = some b12 ∧ ∃ b14 : Nat, sP S10 a0 0 = some b14 ∧ ok S10 b12 2 ∧ w_X1_takeDownMisplaced S10 b12 b14 (fun (r17 : Int32) (S18 : St) => ok S18 a0 10 ∧ w_X9_planThoseThatWait S18 a0 (fun (r21 : Int32) (S22 : St) => f r17 S22))) ∧ ((r5 = 0) → exc "java/lang/IllegalArgumentException" S6)))) exc
set_option maxRecDepth 100000 in
set_option maxHeartbeats 4000000 in
theorem c_X9_setClimate (l : Launch) (S : St) (a0 : Nat) (x1 : Int32) (x2 : Int32) (x3 : Int32) (f : Int32 → St → Prop) (exc : String → St → Prop) (hw : w_X9_setClimate S a0 x1 x2 x3 f exc) : Ct l yX9_setClimate (Cond.code yX9_setClimate cX9_setClimate 6 (some .int)) { frames := 13, cells := 2, slots := 12, locals := 287 } 2 12 S [.ref a0, .int x1, .int x2, .int x3] (pI f) exc := by
  refine entry (by decide +kernel) rfl rfl (by first | decide | exact nl rfl) rfl ?_
  intro X h hq
  unfold w_X9_setClimate at hw
  refine r_aload_n h 0 rfl rfl dX9_setClimate_0 ?_
  refine r_iload_n h 1 rfl rfl dX9_setClimate_1 ?_
  obtain ⟨h1, hw⟩ := hw
  refine r_callV h (fun l => c_X9_roomAt l _ _ _ _ _ hw) q695 q697 q16 q55 q698 nd_X9_roomAt ⟨by decide, by decide⟩ rfl rfl ⟨by decide, by decide⟩ kci10 rfl h1 rfl (by first | decide | exact nl rfl) rfl dX9_setClimate_2 (fun E S9 he => r_out h hq he (by first | decide | exact nl rfl) (by first | decide | exact nl rfl)) (kA fun b2 S3 hw => ?_)
  refine r_astore h [1, 3, 4, 0] (by decide) rfl dX9_setClimate_5 ?_
  refine r_iload_n h 1 rfl rfl dX9_setClimate_7 ?_
  refine r_iload_n h 2 rfl rfl dX9_setClimate_8 ?_
  refine r_callS h (fun l => c_X9_isClimate l _ _ _ _ hw) q469 q470 q55 q471 nd_X9_isClimate ⟨by decide, by decide⟩ rfl rfl ⟨by decide, by decide⟩ (as := [.int x2, .int x3]) rfl (by first | decide | exact nl rfl) rfl dX9_setClimate_9 nxk (kI fun r5 S6 hw => ?_)
  refine r_if_ne h 25 dX9_setClimate_12 (by decide) (fun hc => ?_) (fun hc => ?_)
  · replace hw := hw.1 hc
    refine r_aload h 3 rfl dX9_setClimate_25 ?_
    refine r_iload_n h 1 rfl rfl dX9_setClimate_27 ?_
    obtain ⟨h8, hw⟩ := hw
    refine r_putiN h kci7 in7 tyX6_ok nmX6 (k := 0) (by decide) rfl rfl rfl rfl rfl rfl n569 h8 dX9_setClimate_28 ?_
    refine r_aload h 3 rfl dX9_setClimate_31 ?_
    refine r_iload_n h 2 rfl rfl dX9_setClimate_33 ?_
    refine r_putiN h kci7 in7 tyX6_ok nmX6 (k := 1) (by decide) rfl rfl rfl rfl rfl rfl n572 h8 dX9_setClimate_34 ?_
    refine r_aload_n h 0 rfl rfl dX9_setClimate_37 ?_
    obtain ⟨h11, hw⟩ := hw
    obtain ⟨b12, h13, hw⟩ := hw
    refine r_getr h kci10 in10 (k := 4) (by decide) rfl rfl q213 h11 h13 dX9_setClimate_38 ?_
    refine r_aload_n h 0 rfl rfl dX9_setClimate_41 ?_
    obtain ⟨b14, h15, hw⟩ := hw
    refine r_getr h kci10 in10 (k := 0) (by decide) rfl rfl q209 h11 h15 dX9_setClimate_42 ?_
    obtain ⟨h16, hw⟩ := hw
    refine r_callV h (fun l => c_X1_takeDownMisplaced l _ _ _ _ hw) q712 q713 q714 q61 q715 nd_X1_takeDownMisplaced ⟨by decide, by decide⟩ rfl rfl ⟨by decide, by decide⟩ kci2 rfl h16 rfl (by first | decide | exact nl rfl) rfl dX9_setClimate_45 nxk (kI fun r17 S18 hw => ?_)
    refine r_istore h [1, 0] (by decide) rfl dX9_setClimate_48 ?_
    refine r_aload_n h 0 rfl rfl dX9_setClimate_50 ?_
    obtain ⟨h20, hw⟩ := hw
    refine r_callV h (fun l => c_X9_planThoseThatWait l _ _ _ hw) q650 q652 q14 q55 q653 nd_X9_planThoseThatWait ⟨by decide, by decide⟩ rfl rfl ⟨by decide, by decide⟩ kci10 rfl h20 rfl (by first | decide | exact nl rfl) rfl dX9_setClimate_51 nxk (kI fun r21 S22 hw => ?_)
    refine r_pop h rfl dX9_setClimate_54 ?_
    refine r_iload h 1 rfl dX9_setClimate_55 ?_
    exact r_iret h hq rfl ⟨_, rfl, hw⟩ (by decide) (by decide) dX9_setClimate_57
  · replace hw := hw.2 hc
    exact r_throwS h hq th66 q473 q68 (is := 64) (text := "a number is out of range") (by decide +kernel) hw dX9_setClimate_15 dX9_setClimate_18 dX9_setClimate_19 dX9_setClimate_21 dX9_setClimate_24 (by first | decide | exact nl rfl) (by first | decide | exact nl rfl) (by first | decide | exact nl rfl) (by first | decide | exact nl rfl) (by first | decide | exact nl rfl) (by first | decide | exact nl rfl)

def w_X9_share (S : St) (a0 : Nat) (x1 : Int32) (x2 : Int32) (f : UInt32 → St → Prop) (exc : String → St → Prop) : Prop := ok S a0 10 ∧ w_X9_refuseUnknown S a0 x1 x2 (fun (S2 : St) => ok S2 a0 10 ∧ ∃ b5 : Nat, sP S2 a0 0 = some b5 ∧ ok S2 b5 4 ∧ w_X3_lengthOf S2 b5 x1 (fun (r8 : Int32) (S9 : St) => (((r8 ≤ 0) → f 0 S9) ∧ ((¬ r8 ≤ 0) → ok S9 a0 10 ∧ ∃ b12 : Nat, sP S9 a0 4 = some b12 ∧ ok S9 b12 2 ∧ w_X1_takenOn S9 b12 x1 x2 (fun (r15 : Int32) (S16 : St) => vf_n32 (FP.fdiv (FP.i2f r15) (FP.i2f r8)) ∧ f (FP.fdiv (FP.i2f r15) (FP.i2f r8)) S16))))) exc
set_option maxRecDepth 100000 in
set_option maxHeartbeats 4000000 in
theorem c_X9_share (l : Launch) (S : St) (a0 : Nat) (x1 : Int32) (x2 : Int32) (f : UInt32 → St → Prop) (exc : String → St → Prop) (hw : w_X9_share S a0 x1 x2 f exc) : Ct l yX9_share (Cond.code yX9_share cX9_share 4 (some .float)) { frames := 7, cells := 1, slots := 6, locals := 112 } 1 6 S [.ref a0, .int x1, .int x2] (pF f) exc := by
  refine entry (by decide +kernel) rfl rfl (by first | decide | exact nl rfl) rfl ?_
  intro X h hq
  unfold w_X9_share at hw
  refine r_aload_n h 0 rfl rfl dX9_share_0 ?_
  refine r_iload_n h 1 rfl rfl dX9_share_1 ?_
  refine r_iload_n h 2 rfl rfl dX9_share_2 ?_
  obtain ⟨h1, hw⟩ := hw
  refine r_callV h (fun l => c_X9_refuseUnknown l _ _ _ _ _ _ hw) q1090 q1092 q26 q55 q1093 nd_X9_refuseUnknown ⟨by decide, by decide⟩ rfl rfl ⟨by decide, by decide⟩ kci10 rfl h1 rfl (by first | decide | exact nl rfl) rfl dX9_share_3 (fun E S9 he => r_out h hq he (by first | decide | exact nl rfl) (by first | decide | exact nl rfl)) (kV fun  S2 hw => ?_)
  refine r_aload_n h 0 rfl rfl dX9_share_6 ?_
  obtain ⟨h4, hw⟩ := hw
  obtain ⟨b5, h6, hw⟩ := hw
  refine r_getr h kci10 in10 (k := 0) (by decide) rfl rfl q209 h4 h6 dX9_share_7 ?_
  refine r_iload_n h 1 rfl rfl dX9_share_10 ?_
  obtain ⟨h7, hw⟩ := hw
  refine r_callV h (fun l => c_X3_lengthOf l _ _ _ _ hw) q1165 q360 q361 q56 q362 nd_X3_lengthOf ⟨by decide, by decide⟩ rfl rfl ⟨by decide, by decide⟩ kci4 rfl h7 rfl (by first | decide | exact nl rfl) rfl dX9_share_11 nxk (kI fun r8 S9 hw => ?_)
  refine r_istore_n h [1, 2, 3, 0] rfl (by decide) rfl dX9_share_14 ?_
  refine r_iload_n h 3 rfl rfl dX9_share_15 ?_
  refine r_if_le h 35 dX9_share_16 (by decide) (fun hc => ?_) (fun hc => ?_)
  · replace hw := hw.1 hc
    refine r_fconst0 h dX9_share_35 ?_
    exact r_fret h hq rfl ⟨_, rfl, hw⟩ (by decide) (by decide) dX9_share_36
  · replace hw := hw.2 hc
    refine r_aload_n h 0 rfl rfl dX9_share_19 ?_
    obtain ⟨h11, hw⟩ := hw
    obtain ⟨b12, h13, hw⟩ := hw
    refine r_getr h kci10 in10 (k := 4) (by decide) rfl rfl q213 h11 h13 dX9_share_20 ?_
    refine r_iload_n h 1 rfl rfl dX9_share_23 ?_
    refine r_iload_n h 2 rfl rfl dX9_share_24 ?_
    obtain ⟨h14, hw⟩ := hw
    refine r_callV h (fun l => c_X1_takenOn l _ _ _ _ _ hw) q1097 q348 q349 q61 q350 nd_X1_takenOn ⟨by decide, by decide⟩ rfl rfl ⟨by decide, by decide⟩ kci2 rfl h14 rfl (by first | decide | exact nl rfl) rfl dX9_share_25 nxk (kI fun r15 S16 hw => ?_)
    refine r_i2f h dX9_share_28 ?_
    refine r_iload_n h 3 rfl rfl dX9_share_29 ?_
    refine r_i2f h dX9_share_30 ?_
    obtain ⟨h18, hw⟩ := hw
    refine r_fdiv h h18 dX9_share_31 ?_
    refine r_goto h 36 dX9_share_32 (by decide) ?_
    exact r_fret h hq rfl ⟨_, rfl, hw⟩ (by decide) (by decide) dX9_share_36

def w_X9_stateOf (S : St) (a0 : Nat) (x1 : Int32) (f : Int32 → St → Prop) (exc : String → St → Prop) : Prop := ok S a0 10 ∧ w_X9_exhibitionAt S a0 x1 (fun (b2 : Nat) (S3 : St) => ok S3 b2 3 ∧ narrow .char (.int (sI S3 b2 6)) = .int (sI S3 b2 6) ∧ f (sI S3 b2 6) S3) exc
set_option maxRecDepth 100000 in
set_option maxHeartbeats 4000000 in
theorem c_X9_stateOf (l : Launch) (S : St) (a0 : Nat) (x1 : Int32) (f : Int32 → St → Prop) (exc : String → St → Prop) (hw : w_X9_stateOf S a0 x1 f exc) : Ct l yX9_stateOf (Cond.code yX9_stateOf cX9_stateOf 2 (some .char)) { frames := 7, cells := 1, slots := 6, locals := 103 } 1 6 S [.ref a0, .int x1] (pI f) exc := by
  refine entry (by decide +kernel) rfl rfl (by first | decide | exact nl rfl) rfl ?_
  intro X h hq
  unfold w_X9_stateOf at hw
  refine r_aload_n h 0 rfl rfl dX9_stateOf_0 ?_
  refine r_iload_n h 1 rfl rfl dX9_stateOf_1 ?_
  obtain ⟨h1, hw⟩ := hw
  refine r_callV h (fun l => c_X9_exhibitionAt l _ _ _ _ _ hw) q906 q908 q20 q55 q909 nd_X9_exhibitionAt ⟨by decide, by decide⟩ rfl rfl ⟨by decide, by decide⟩ kci10 rfl h1 rfl (by first | decide | exact nl rfl) rfl dX9_stateOf_2 (fun E S9 he => r_out h hq he (by first | decide | exact nl rfl) (by first | decide | exact nl rfl)) (kA fun b2 S3 hw => ?_)
  obtain ⟨h5, hw⟩ := hw
  refine r_getiN h kci3 in3 (k := 6) (by decide) rfl rfl n882 h5 dX9_stateOf_5 ?_
  obtain ⟨h6, hw⟩ := hw
  exact r_zret h hq (ty := .char) rfl h6 ⟨_, rfl, hw⟩ (by decide) (by decide) dX9_stateOf_8

def w_X9_taken (S : St) (a0 : Nat) (x1 : Int32) (x2 : Int32) (f : Int32 → St → Prop) (exc : String → St → Prop) : Prop := ok S a0 10 ∧ w_X9_refuseUnknown S a0 x1 x2 (fun (S2 : St) => ok S2 a0 10 ∧ ∃ b5 : Nat, sP S2 a0 4 = some b5 ∧ ok S2 b5 2 ∧ w_X1_takenOn S2 b5 x1 x2 (fun (r8 : Int32) (S9 : St) => f r8 S9)) exc
set_option maxRecDepth 100000 in
set_option maxHeartbeats 4000000 in
theorem c_X9_taken (l : Launch) (S : St) (a0 : Nat) (x1 : Int32) (x2 : Int32) (f : Int32 → St → Prop) (exc : String → St → Prop) (hw : w_X9_taken S a0 x1 x2 f exc) : Ct l yX9_taken (Cond.code yX9_taken cX9_taken 3 (some .int)) { frames := 7, cells := 1, slots := 6, locals := 112 } 1 6 S [.ref a0, .int x1, .int x2] (pI f) exc := by
  refine entry (by decide +kernel) rfl rfl (by first | decide | exact nl rfl) rfl ?_
  intro X h hq
  unfold w_X9_taken at hw
  refine r_aload_n h 0 rfl rfl dX9_taken_0 ?_
  refine r_iload_n h 1 rfl rfl dX9_taken_1 ?_
  refine r_iload_n h 2 rfl rfl dX9_taken_2 ?_
  obtain ⟨h1, hw⟩ := hw
  refine r_callV h (fun l => c_X9_refuseUnknown l _ _ _ _ _ _ hw) q1090 q1092 q26 q55 q1093 nd_X9_refuseUnknown ⟨by decide, by decide⟩ rfl rfl ⟨by decide, by decide⟩ kci10 rfl h1 rfl (by first | decide | exact nl rfl) rfl dX9_taken_3 (fun E S9 he => r_out h hq he (by first | decide | exact nl rfl) (by first | decide | exact nl rfl)) (kV fun  S2 hw => ?_)
  refine r_aload_n h 0 rfl rfl dX9_taken_6 ?_
  obtain ⟨h4, hw⟩ := hw
  obtain ⟨b5, h6, hw⟩ := hw
  refine r_getr h kci10 in10 (k := 4) (by decide) rfl rfl q213 h4 h6 dX9_taken_7 ?_
  refine r_iload_n h 1 rfl rfl dX9_taken_10 ?_
  refine r_iload_n h 2 rfl rfl dX9_taken_11 ?_
  obtain ⟨h7, hw⟩ := hw
  refine r_callV h (fun l => c_X1_takenOn l _ _ _ _ _ hw) q1097 q348 q349 q61 q350 nd_X1_takenOn ⟨by decide, by decide⟩ rfl rfl ⟨by decide, by decide⟩ kci2 rfl h7 rfl (by first | decide | exact nl rfl) rfl dX9_taken_12 nxk (kI fun r8 S9 hw => ?_)
  exact r_iret h hq rfl ⟨_, rfl, hw⟩ (by decide) (by decide) dX9_taken_15

def w_X9_collectLoads (S : St) (a0 : Nat) (x1 : Int32) (x2 : Int32) (f : St → Prop) (exc : String → St → Prop) : Prop := ok S a0 10 ∧ w_X9_exhibitionAt S a0 x1 (fun (b2 : Nat) (S3 : St) => ok S3 a0 10 ∧ ∃ b6 : Nat, sP S3 a0 1 = some b6 ∧ ok S3 b6 0 ∧ w_Jx4a65c_size_8abf5 S3 b6 (fun (r9 : Int32) (S10 : St) => w_X9_isWithin S10 x2 0 (r9 - 1) (fun (r12 : Int32) (S13 : St) => (((¬ r12 = 0) → ok S13 a0 10 ∧ ∃ b16 : Nat, sP S13 a0 6 = some b16 ∧ ∃ b18 : Nat, sP S13 a0 1 = some b18 ∧ ok S13 b18 0 ∧ w_Jx4a65c_get_915e3 S13 b18 x2 (fun (b21 : Nat) (S22 : St) => ok S22 b21 5 ∧ ok S22 b16 6 ∧ w_X5_collect S22 b16 b2 b21 (fun (r26 : Int32) (S27 : St) => (((¬ r26 = 0) → f S27) ∧ ((r26 = 0) → exc "java/lang/UnsupportedOperationException" S27))))) ∧ ((r12 = 0) → exc "java/lang/IndexOutOfBoundsException" S13))))) exc
set_option maxRecDepth 100000 in
set_option maxHeartbeats 4000000 in
theorem c_X9_collectLoads (l : Launch) (S : St) (a0 : Nat) (x1 : Int32) (x2 : Int32) (f : St → Prop) (exc : String → St → Prop) (hw : w_X9_collectLoads S a0 x1 x2 f exc) : Ct l yX9_collectLoads (Cond.code yX9_collectLoads cX9_collectLoads 4 none) { frames := 7, cells := 2, slots := 12, locals := 103 } 2 12 S [.ref a0, .int x1, .int x2] (pV f) exc := by
  refine entry (by decide +kernel) rfl rfl (by first | decide | exact nl rfl) rfl ?_
  intro X h hq
  unfold w_X9_collectLoads at hw
  refine r_aload_n h 0 rfl rfl dX9_collectLoads_0 ?_
  refine r_iload_n h 1 rfl rfl dX9_collectLoads_1 ?_
  obtain ⟨h1, hw⟩ := hw
  refine r_callV h (fun l => c_X9_exhibitionAt l _ _ _ _ _ hw) q906 q908 q20 q55 q909 nd_X9_exhibitionAt ⟨by decide, by decide⟩ rfl rfl ⟨by decide, by decide⟩ kci10 rfl h1 rfl (by first | decide | exact nl rfl) rfl dX9_collectLoads_2 (fun E S9 he => r_out h hq he (by first | decide | exact nl rfl) (by first | decide | exact nl rfl)) (kA fun b2 S3 hw => ?_)
  refine r_astore_n h [1, 3, 0] rfl (by decide) rfl dX9_collectLoads_5 ?_
  refine r_iload_n h 1 rfl rfl dX9_collectLoads_6 ?_
  refine r_iconst h (v := 0) (by decide) dX9_collectLoads_7 ?_
  refine r_aload_n h 0 rfl rfl dX9_collectLoads_8 ?_
  obtain ⟨h5, hw⟩ := hw
  obtain ⟨b6, h7, hw⟩ := hw
  refine r_getr h kci10 in10 (k := 1) (by decide) rfl rfl q210 h5 h7 dX9_collectLoads_9 ?_
  obtain ⟨h8, hw⟩ := hw
  refine r_callV h (fun l => c_Jx4a65c_size_8abf5 l _ _ _ hw) q238 q239 q240 q59 q241 nd_Jx4a65c_size_8abf5 ⟨by decide, by decide⟩ rfl rfl ⟨by decide, by decide⟩ kci0 rfl h8 rfl (by first | decide | exact nl rfl) rfl dX9_collectLoads_12 nxk (kI fun r9 S10 hw => ?_)
  refine r_iconst h (v := 1) (by decide) dX9_collectLoads_15 ?_
  refine r_isub h dX9_collectLoads_16 ?_
  refine r_callS h (fun l => c_X9_isWithin l _ _ _ _ _ hw) q472 q315 q55 q316 nd_X9_isWithin ⟨by decide, by decide⟩ rfl rfl ⟨by decide, by decide⟩ (as := [.int x2, .int 0, .int (r9 - 1)]) rfl (by first | decide | exact nl rfl) rfl dX9_collectLoads_17 nxk (kI fun r12 S13 hw => ?_)
  refine r_if_ne h 33 dX9_collectLoads_20 (by decide) (fun hc => ?_) (fun hc => ?_)
  · replace hw := hw.1 hc
    refine r_aload_n h 0 rfl rfl dX9_collectLoads_33 ?_
    obtain ⟨h15, hw⟩ := hw
    obtain ⟨b16, h17, hw⟩ := hw
    refine r_getr h kci10 in10 (k := 6) (by decide) rfl rfl q215 h15 h17 dX9_collectLoads_34 ?_
    refine r_aload_n h 2 rfl rfl dX9_collectLoads_37 ?_
    refine r_aload_n h 0 rfl rfl dX9_collectLoads_38 ?_
    obtain ⟨b18, h19, hw⟩ := hw
    refine r_getr h kci10 in10 (k := 1) (by decide) rfl rfl q210 h15 h19 dX9_collectLoads_39 ?_
    refine r_iload_n h 1 rfl rfl dX9_collectLoads_42 ?_
    obtain ⟨h20, hw⟩ := hw
    refine r_callV h (fun l => c_Jx4a65c_get_915e3 l _ _ _ _ hw) q393 q260 q261 q59 q262 nd_Jx4a65c_get_915e3 ⟨by decide, by decide⟩ rfl rfl ⟨by decide, by decide⟩ kci0 rfl h20 rfl (by first | decide | exact nl rfl) rfl dX9_collectLoads_43 nxk (kA fun b21 S22 hw => ?_)
    obtain ⟨h24, hw⟩ := hw
    refine r_castS h kci5 q724 h24 dX9_collectLoads_46 ?_
    obtain ⟨h25, hw⟩ := hw
    refine r_callV h (fun l => c_X5_collect l _ _ _ _ _ hw) q1041 q1042 q1043 q63 q1044 nd_X5_collect ⟨by decide, by decide⟩ rfl rfl ⟨by decide, by decide⟩ kci6 rfl h25 rfl (by first | decide | exact nl rfl) rfl dX9_collectLoads_49 nxk (kI fun r26 S27 hw => ?_)
    refine r_if_ne h 66 dX9_collectLoads_52 (by decide) (fun hc => ?_) (fun hc => ?_)
    · replace hw := hw.1 hc
      exact r_vret h hq rfl ⟨rfl, hw⟩ (by decide) (by decide) dX9_collectLoads_66
    · replace hw := hw.2 hc
      exact r_throwSW h hq th197 q942 q84 (is := 330) (text := "a value is greater than the limit") (by decide +kernel) hw dX9_collectLoads_55 dX9_collectLoads_58 dX9_collectLoads_59 dX9_collectLoads_62 dX9_collectLoads_65 (by first | decide | exact nl rfl) (by first | decide | exact nl rfl) (by first | decide | exact nl rfl) (by first | decide | exact nl rfl) (by first | decide | exact nl rfl) (by first | decide | exact nl rfl)
  · replace hw := hw.2 hc
    exact r_throwS h hq th311 q699 q77 (is := 116) (text := "there is no such lender") (by decide +kernel) hw dX9_collectLoads_23 dX9_collectLoads_26 dX9_collectLoads_27 dX9_collectLoads_29 dX9_collectLoads_32 (by first | decide | exact nl rfl) (by first | decide | exact nl rfl) (by first | decide | exact nl rfl) (by first | decide | exact nl rfl) (by first | decide | exact nl rfl) (by first | decide | exact nl rfl)

def w_X9_trips (S : St) (a0 : Nat) (x1 : Int32) (x2 : Int32) (f : Int32 → St → Prop) (exc : String → St → Prop) : Prop := ok S a0 10 ∧ w_X9_collectLoads S a0 x1 x2 (fun (S2 : St) => ok S2 a0 10 ∧ ∃ b5 : Nat, sP S2 a0 6 = some b5 ∧ ok S2 b5 6 ∧ w_X5_leastByGroups S2 b5 (fun (r8 : Int32) (S9 : St) => f r8 S9)) exc
set_option maxRecDepth 100000 in
set_option maxHeartbeats 4000000 in
theorem c_X9_trips (l : Launch) (S : St) (a0 : Nat) (x1 : Int32) (x2 : Int32) (f : Int32 → St → Prop) (exc : String → St → Prop) (hw : w_X9_trips S a0 x1 x2 f exc) : Ct l yX9_trips (Cond.code yX9_trips cX9_trips 3 (some .int)) { frames := 8, cells := 2, slots := 12, locals := 126 } 2 12 S [.ref a0, .int x1, .int x2] (pI f) exc := by
  refine entry (by decide +kernel) rfl rfl (by first | decide | exact nl rfl) rfl ?_
  intro X h hq
  unfold w_X9_trips at hw
  refine r_aload_n h 0 rfl rfl dX9_trips_0 ?_
  refine r_iload_n h 1 rfl rfl dX9_trips_1 ?_
  refine r_iload_n h 2 rfl rfl dX9_trips_2 ?_
  obtain ⟨h1, hw⟩ := hw
  refine r_callV h (fun l => c_X9_collectLoads l _ _ _ _ _ _ hw) q1037 q1039 q23 q55 q1040 nd_X9_collectLoads ⟨by decide, by decide⟩ rfl rfl ⟨by decide, by decide⟩ kci10 rfl h1 rfl (by first | decide | exact nl rfl) rfl dX9_trips_3 (fun E S9 he => r_out h hq he (by first | decide | exact nl rfl) (by first | decide | exact nl rfl)) (kV fun  S2 hw => ?_)
  refine r_aload_n h 0 rfl rfl dX9_trips_6 ?_
  obtain ⟨h4, hw⟩ := hw
  obtain ⟨b5, h6, hw⟩ := hw
  refine r_getr h kci10 in10 (k := 6) (by decide) rfl rfl q215 h4 h6 dX9_trips_7 ?_
  obtain ⟨h7, hw⟩ := hw
  refine r_callV h (fun l => c_X5_leastByGroups l _ _ _ hw) q1054 q1055 q1056 q63 q1057 nd_X5_leastByGroups ⟨by decide, by decide⟩ rfl rfl ⟨by decide, by decide⟩ kci6 rfl h7 rfl (by first | decide | exact nl rfl) rfl dX9_trips_10 nxk (kI fun r8 S9 hw => ?_)
  exact r_iret h hq rfl ⟨_, rfl, hw⟩ (by decide) (by decide) dX9_trips_13

def w_X9_tripsByTrying (S : St) (a0 : Nat) (x1 : Int32) (x2 : Int32) (f : Int32 → St → Prop) (exc : String → St → Prop) : Prop := ok S a0 10 ∧ w_X9_collectLoads S a0 x1 x2 (fun (S2 : St) => ok S2 a0 10 ∧ ∃ b5 : Nat, sP S2 a0 6 = some b5 ∧ ok S2 b5 6 ∧ w_X5_leastByTrying S2 b5 (fun (r8 : Int32) (S9 : St) => f r8 S9)) exc
set_option maxRecDepth 100000 in
set_option maxHeartbeats 4000000 in
theorem c_X9_tripsByTrying (l : Launch) (S : St) (a0 : Nat) (x1 : Int32) (x2 : Int32) (f : Int32 → St → Prop) (exc : String → St → Prop) (hw : w_X9_tripsByTrying S a0 x1 x2 f exc) : Ct l yX9_tripsByTrying (Cond.code yX9_tripsByTrying cX9_tripsByTrying 3 (some .int)) { frames := 10, cells := 2, slots := 12, locals := 250 } 2 12 S [.ref a0, .int x1, .int x2] (pI f) exc := by
  refine entry (by decide +kernel) rfl rfl (by first | decide | exact nl rfl) rfl ?_
  intro X h hq
  unfold w_X9_tripsByTrying at hw
  refine r_aload_n h 0 rfl rfl dX9_tripsByTrying_0 ?_
  refine r_iload_n h 1 rfl rfl dX9_tripsByTrying_1 ?_
  refine r_iload_n h 2 rfl rfl dX9_tripsByTrying_2 ?_
  obtain ⟨h1, hw⟩ := hw
  refine r_callV h (fun l => c_X9_collectLoads l _ _ _ _ _ _ hw) q1037 q1039 q23 q55 q1040 nd_X9_collectLoads ⟨by decide, by decide⟩ rfl rfl ⟨by decide, by decide⟩ kci10 rfl h1 rfl (by first | decide | exact nl rfl) rfl dX9_tripsByTrying_3 (fun E S9 he => r_out h hq he (by first | decide | exact nl rfl) (by first | decide | exact nl rfl)) (kV fun  S2 hw => ?_)
  refine r_aload_n h 0 rfl rfl dX9_tripsByTrying_6 ?_
  obtain ⟨h4, hw⟩ := hw
  obtain ⟨b5, h6, hw⟩ := hw
  refine r_getr h kci10 in10 (k := 6) (by decide) rfl rfl q215 h4 h6 dX9_tripsByTrying_7 ?_
  obtain ⟨h7, hw⟩ := hw
  refine r_callV h (fun l => c_X5_leastByTrying l _ _ _ hw) q1075 q1076 q1077 q63 q1078 nd_X5_leastByTrying ⟨by decide, by decide⟩ rfl rfl ⟨by decide, by decide⟩ kci6 rfl h7 rfl (by first | decide | exact nl rfl) rfl dX9_tripsByTrying_10 nxk (kI fun r8 S9 hw => ?_)
  exact r_iret h hq rfl ⟨_, rfl, hw⟩ (by decide) (by decide) dX9_tripsByTrying_13

def w_X9_openExhibitionAt (S : St) (a0 : Nat) (x1 : Int32) (x2 : Int32) (f : Nat → St → Prop) (exc : String → St → Prop) : Prop := ok S a0 10 ∧ w_X9_exhibitionAt S a0 x1 (fun (b2 : Nat) (S3 : St) => ok S3 a0 10 ∧ w_X9_shownAt S3 a0 b2 x2 (fun (b6 : Nat) (S7 : St) => ok S7 b2 3 ∧ ((((sI S7 b2 6) = 112) → exc "java/lang/IllegalStateException" S7) ∧ ((¬ (sI S7 b2 6) = 112) → (((¬ (sI S7 b2 6) = 99) → f b2 S7) ∧ (((sI S7 b2 6) = 99) → exc "java/lang/IllegalStateException" S7))))) exc) exc
set_option maxRecDepth 100000 in
set_option maxHeartbeats 4000000 in
theorem c_X9_openExhibitionAt (l : Launch) (S : St) (a0 : Nat) (x1 : Int32) (x2 : Int32) (f : Nat → St → Prop) (exc : String → St → Prop) (hw : w_X9_openExhibitionAt S a0 x1 x2 f exc) : Ct l yX9_openExhibitionAt (Cond.code yX9_openExhibitionAt cX9_openExhibitionAt 4 (some (.object "LoggiaPlanner$Exhibition"))) { frames := 7, cells := 3, slots := 18, locals := 104 } 3 18 S [.ref a0, .int x1, .int x2] (pA f) exc := by
  refine entry (by decide +kernel) rfl rfl (by first | decide | exact nl rfl) rfl ?_
  intro X h hq
  unfold w_X9_openExhibitionAt at hw
  refine r_aload_n h 0 rfl rfl dX9_openExhibitionAt_0 ?_
  refine r_iload_n h 1 rfl rfl dX9_openExhibitionAt_1 ?_
  obtain ⟨h1, hw⟩ := hw
  refine r_callV h (fun l => c_X9_exhibitionAt l _ _ _ _ _ hw) q906 q908 q20 q55 q909 nd_X9_exhibitionAt ⟨by decide, by decide⟩ rfl rfl ⟨by decide, by decide⟩ kci10 rfl h1 rfl (by first | decide | exact nl rfl) rfl dX9_openExhibitionAt_2 (fun E S9 he => r_out h hq he (by first | decide | exact nl rfl) (by first | decide | exact nl rfl)) (kA fun b2 S3 hw => ?_)
  refine r_astore_n h [1, 3, 0] rfl (by decide) rfl dX9_openExhibitionAt_5 ?_
  refine r_aload_n h 0 rfl rfl dX9_openExhibitionAt_6 ?_
  refine r_aload_n h 2 rfl rfl dX9_openExhibitionAt_7 ?_
  refine r_iload_n h 1 rfl rfl dX9_openExhibitionAt_8 ?_
  obtain ⟨h5, hw⟩ := hw
  refine r_callV h (fun l => c_X9_shownAt l _ _ _ _ _ _ hw) q987 q989 q21 q55 q990 nd_X9_shownAt ⟨by decide, by decide⟩ rfl rfl ⟨by decide, by decide⟩ kci10 rfl h5 rfl (by first | decide | exact nl rfl) rfl dX9_openExhibitionAt_9 (fun E S9 he => r_out h hq he (by first | decide | exact nl rfl) (by first | decide | exact nl rfl)) (kA fun b6 S7 hw => ?_)
  refine r_pop h rfl dX9_openExhibitionAt_12 ?_
  refine r_aload_n h 2 rfl rfl dX9_openExhibitionAt_13 ?_
  obtain ⟨h9, hw⟩ := hw
  refine r_getiN h kci3 in3 (k := 6) (by decide) rfl rfl n882 h9 dX9_openExhibitionAt_14 ?_
  refine r_bipush h (v := 112) (by decide) dX9_openExhibitionAt_17 ?_
  refine r_icmp_eq h 31 dX9_openExhibitionAt_19 (by decide) (fun hc => ?_) (fun hc => ?_)
  · replace hw := hw.1 hc
    exact r_throwSW h hq th80 q545 q69 (is := 318) (text := "the exhibition is planned or was cancelled") (by decide +kernel) hw dX9_openExhibitionAt_31 dX9_openExhibitionAt_34 dX9_openExhibitionAt_35 dX9_openExhibitionAt_38 dX9_openExhibitionAt_41 (by first | decide | exact nl rfl) (by first | decide | exact nl rfl) (by first | decide | exact nl rfl) (by first | decide | exact nl rfl) (by first | decide | exact nl rfl) (by first | decide | exact nl rfl)
  · replace hw := hw.2 hc
    refine r_aload_n h 2 rfl rfl dX9_openExhibitionAt_22 ?_
    refine r_getiN h kci3 in3 (k := 6) (by decide) rfl rfl n882 h9 dX9_openExhibitionAt_23 ?_
    refine r_bipush h (v := 99) (by decide) dX9_openExhibitionAt_26 ?_
    refine r_icmp_ne h 42 dX9_openExhibitionAt_28 (by decide) (fun hc => ?_) (fun hc => ?_)
    · replace hw := hw.1 hc
      refine r_aload_n h 2 rfl rfl dX9_openExhibitionAt_42 ?_
      exact r_aret h hq rfl (Or.inl ⟨_, rfl⟩) ⟨_, rfl, hw⟩ (by decide) (by decide) dX9_openExhibitionAt_43
    · replace hw := hw.2 hc
      exact r_throwSW h hq th80 q545 q69 (is := 318) (text := "the exhibition is planned or was cancelled") (by decide +kernel) hw dX9_openExhibitionAt_31 dX9_openExhibitionAt_34 dX9_openExhibitionAt_35 dX9_openExhibitionAt_38 dX9_openExhibitionAt_41 (by first | decide | exact nl rfl) (by first | decide | exact nl rfl) (by first | decide | exact nl rfl) (by first | decide | exact nl rfl) (by first | decide | exact nl rfl) (by first | decide | exact nl rfl)

def w_X9_wallFor (S : St) (a0 : Nat) (x1 : Int32) (x2 : Int32) (f : Int32 → St → Prop) (exc : String → St → Prop) : Prop := ok S a0 10 ∧ w_X9_openExhibitionAt S a0 x1 x2 (fun (b2 : Nat) (S3 : St) => ok S3 a0 10 ∧ w_X9_findsWorkByWork S3 a0 b2 (fun (r6 : Int32) (S7 : St) => (((¬ r6 = 0) → ok S7 a0 10 ∧ ∃ b10 : Nat, sP S7 a0 5 = some b10 ∧ ok S7 b10 1 ∧ ∃ b13 : Nat, sP S7 b10 4 = some b13 ∧ w_X9_numberAt S7 b13 x2 (fun (r15 : Int32) (S16 : St) => f r15 S16)) ∧ ((r6 = 0) → exc "java/lang/UnsupportedOperationException" S7)))) exc
set_option maxRecDepth 100000 in
set_option maxHeartbeats 4000000 in
theorem c_X9_wallFor (l : Launch) (S : St) (a0 : Nat) (x1 : Int32) (x2 : Int32) (f : Int32 → St → Prop) (exc : String → St → Prop) (hw : w_X9_wallFor S a0 x1 x2 f exc) : Ct l yX9_wallFor (Cond.code yX9_wallFor cX9_wallFor 4 (some .int)) { frames := 12, cells := 4, slots := 24, locals := 264 } 4 24 S [.ref a0, .int x1, .int x2] (pI f) exc := by
  refine entry (by decide +kernel) rfl rfl (by first | decide | exact nl rfl) rfl ?_
  intro X h hq
  unfold w_X9_wallFor at hw
  refine r_aload_n h 0 rfl rfl dX9_wallFor_0 ?_
  refine r_iload_n h 1 rfl rfl dX9_wallFor_1 ?_
  refine r_iload_n h 2 rfl rfl dX9_wallFor_2 ?_
  obtain ⟨h1, hw⟩ := hw
  refine r_callV h (fun l => c_X9_openExhibitionAt l _ _ _ _ _ _ hw) q1017 q1019 q22 q55 q1020 nd_X9_openExhibitionAt ⟨by decide, by decide⟩ rfl rfl ⟨by decide, by decide⟩ kci10 rfl h1 rfl (by first | decide | exact nl rfl) rfl dX9_wallFor_3 (fun E S9 he => r_out h hq he (by first | decide | exact nl rfl) (by first | decide | exact nl rfl)) (kA fun b2 S3 hw => ?_)
  refine r_astore_n h [1, 3, 0] rfl (by decide) rfl dX9_wallFor_6 ?_
  refine r_aload_n h 0 rfl rfl dX9_wallFor_7 ?_
  refine r_aload_n h 2 rfl rfl dX9_wallFor_8 ?_
  obtain ⟨h5, hw⟩ := hw
  refine r_callV h (fun l => c_X9_findsWorkByWork l _ _ _ _ hw) q395 q397 q4 q55 q398 nd_X9_findsWorkByWork ⟨by decide, by decide⟩ rfl rfl ⟨by decide, by decide⟩ kci10 rfl h5 rfl (by first | decide | exact nl rfl) rfl dX9_wallFor_9 nxk (kI fun r6 S7 hw => ?_)
  refine r_if_ne h 25 dX9_wallFor_12 (by decide) (fun hc => ?_) (fun hc => ?_)
  · replace hw := hw.1 hc
    refine r_aload_n h 0 rfl rfl dX9_wallFor_25 ?_
    obtain ⟨h9, hw⟩ := hw
    obtain ⟨b10, h11, hw⟩ := hw
    refine r_getr h kci10 in10 (k := 5) (by decide) rfl rfl q214 h9 h11 dX9_wallFor_26 ?_
    obtain ⟨h12, hw⟩ := hw
    obtain ⟨b13, h14, hw⟩ := hw
    refine r_getrN h kci1 in1 (k := 4) (by decide) rfl rfl n168 h12 h14 dX9_wallFor_29 ?_
    refine r_iload_n h 1 rfl rfl dX9_wallFor_32 ?_
    refine r_callS h (fun l => c_X9_numberAt l _ _ _ _ hw) q1000 q303 q55 q304 nd_X9_numberAt ⟨by decide, by decide⟩ rfl rfl ⟨by decide, by decide⟩ (as := [.ref b13, .int x2]) rfl (by first | decide | exact nl rfl) rfl dX9_wallFor_33 nxk (kI fun r15 S16 hw => ?_)
    exact r_iret h hq rfl ⟨_, rfl, hw⟩ (by decide) (by decide) dX9_wallFor_36
  · replace hw := hw.2 hc
    exact r_throwS h hq th197 q942 q84 (is := 232) (text := "no plan is possible") (by decide +kernel) hw dX9_wallFor_15 dX9_wallFor_18 dX9_wallFor_19 dX9_wallFor_21 dX9_wallFor_24 (by first | decide | exact nl rfl) (by first | decide | exact nl rfl) (by first | decide | exact nl rfl) (by first | decide | exact nl rfl) (by first | decide | exact nl rfl) (by first | decide | exact nl rfl)

def w_X9_findsBySearch (S : St) (a0 : Nat) (a1 : Nat) (f : Int32 → St → Prop) : Prop := ok S a0 10 ∧ ∃ b2 : Nat, sP S a0 5 = some b2 ∧ ∃ b4 : Nat, sP S a0 0 = some b4 ∧ ∃ b6 : Nat, sP S a0 4 = some b6 ∧ ∃ b8 : Nat, sP S a0 3 = some b8 ∧ ok S b2 1 ∧ w_X0_prepare S b2 a1 b4 b6 b8 (fun (r11 : Int32) (S12 : St) => (((r11 = 0) → f 0 S12) ∧ ((¬ r11 = 0) → ok S12 a0 10 ∧ ∃ b15 : Nat, sP S12 a0 5 = some b15 ∧ ok S12 b15 1 ∧ w_X0_searchAllWalls S12 b15 (fun (r18 : Int32) (S19 : St) => (((r18 = 0) → f 0 S19) ∧ ((¬ r18 = 0) → f 1 S19))))))
set_option maxRecDepth 100000 in
set_option maxHeartbeats 4000000 in
theorem c_X9_findsBySearch (l : Launch) (S : St) (a0 : Nat) (a1 : Nat) (f : Int32 → St → Prop) (hw : w_X9_findsBySearch S a0 a1 f) : Ct l yX9_findsBySearch (Cond.code yX9_findsBySearch cX9_findsBySearch 2 (some .boolean)) { frames := 7, cells := 0, slots := 0, locals := 165 } 0 0 S [.ref a0, .ref a1] (pI f) nox := by
  refine entry (by decide +kernel) rfl rfl (by first | decide | exact nl rfl) rfl ?_
  intro X h hq
  unfold w_X9_findsBySearch at hw
  refine r_aload_n h 0 rfl rfl dX9_findsBySearch_0 ?_
  obtain ⟨h1, hw⟩ := hw
  obtain ⟨b2, h3, hw⟩ := hw
  refine r_getr h kci10 in10 (k := 5) (by decide) rfl rfl q214 h1 h3 dX9_findsBySearch_1 ?_
  refine r_aload_n h 1 rfl rfl dX9_findsBySearch_4 ?_
  refine r_aload_n h 0 rfl rfl dX9_findsBySearch_5 ?_
  obtain ⟨b4, h5, hw⟩ := hw
  refine r_getr h kci10 in10 (k := 0) (by decide) rfl rfl q209 h1 h5 dX9_findsBySearch_6 ?_
  refine r_aload_n h 0 rfl rfl dX9_findsBySearch_9 ?_
  obtain ⟨b6, h7, hw⟩ := hw
  refine r_getr h kci10 in10 (k := 4) (by decide) rfl rfl q213 h1 h7 dX9_findsBySearch_10 ?_
  refine r_aload_n h 0 rfl rfl dX9_findsBySearch_13 ?_
  obtain ⟨b8, h9, hw⟩ := hw
  refine r_getr h kci10 in10 (k := 3) (by decide) rfl rfl q212 h1 h9 dX9_findsBySearch_14 ?_
  obtain ⟨h10, hw⟩ := hw
  refine r_callV h (fun l => c_X0_prepare l _ _ _ _ _ _ _ hw) q399 q400 q401 q62 q402 nd_X0_prepare ⟨by decide, by decide⟩ rfl rfl ⟨by decide, by decide⟩ kci1 rfl h10 rfl (by first | decide | exact nl rfl) rfl dX9_findsBySearch_17 nxk (kI fun r11 S12 hw => ?_)
  refine r_if_eq h 37 dX9_findsBySearch_20 (by decide) (fun hc => ?_) (fun hc => ?_)
  · replace hw := hw.1 hc
    refine r_iconst h (v := 0) (by decide) dX9_findsBySearch_37 ?_
    exact r_zret h hq (ty := .boolean) rfl rfl ⟨_, rfl, hw⟩ (by decide) (by decide) dX9_findsBySearch_38
  · replace hw := hw.2 hc
    refine r_aload_n h 0 rfl rfl dX9_findsBySearch_23 ?_
    obtain ⟨h14, hw⟩ := hw
    obtain ⟨b15, h16, hw⟩ := hw
    refine r_getr h kci10 in10 (k := 5) (by decide) rfl rfl q214 h14 h16 dX9_findsBySearch_24 ?_
    obtain ⟨h17, hw⟩ := hw
    refine r_callV h (fun l => c_X0_searchAllWalls l _ _ _ hw) q444 q445 q446 q62 q447 nd_X0_searchAllWalls ⟨by decide, by decide⟩ rfl rfl ⟨by decide, by decide⟩ kci1 rfl h17 rfl (by first | decide | exact nl rfl) rfl dX9_findsBySearch_27 nxk (kI fun r18 S19 hw => ?_)
    refine r_if_eq h 37 dX9_findsBySearch_30 (by decide) (fun hc => ?_) (fun hc => ?_)
    · replace hw := hw.1 hc
      refine r_iconst h (v := 0) (by decide) dX9_findsBySearch_37 ?_
      exact r_zret h hq (ty := .boolean) rfl rfl ⟨_, rfl, hw⟩ (by decide) (by decide) dX9_findsBySearch_38
    · replace hw := hw.2 hc
      refine r_iconst h (v := 1) (by decide) dX9_findsBySearch_33 ?_
      refine r_goto h 38 dX9_findsBySearch_34 (by decide) ?_
      exact r_zret h hq (ty := .boolean) rfl rfl ⟨_, rfl, hw⟩ (by decide) (by decide) dX9_findsBySearch_38

def w_X9_wallForBySearch (S : St) (a0 : Nat) (x1 : Int32) (x2 : Int32) (f : Int32 → St → Prop) (exc : String → St → Prop) : Prop := ok S a0 10 ∧ w_X9_openExhibitionAt S a0 x1 x2 (fun (b2 : Nat) (S3 : St) => ok S3 a0 10 ∧ w_X9_findsBySearch S3 a0 b2 (fun (r6 : Int32) (S7 : St) => (((¬ r6 = 0) → ok S7 a0 10 ∧ ∃ b10 : Nat, sP S7 a0 5 = some b10 ∧ ok S7 b10 1 ∧ ∃ b13 : Nat, sP S7 b10 4 = some b13 ∧ w_X9_numberAt S7 b13 x2 (fun (r15 : Int32) (S16 : St) => f r15 S16)) ∧ ((r6 = 0) → exc "java/lang/UnsupportedOperationException" S7)))) exc
set_option maxRecDepth 100000 in
set_option maxHeartbeats 4000000 in
theorem c_X9_wallForBySearch (l : Launch) (S : St) (a0 : Nat) (x1 : Int32) (x2 : Int32) (f : Int32 → St → Prop) (exc : String → St → Prop) (hw : w_X9_wallForBySearch S a0 x1 x2 f exc) : Ct l yX9_wallForBySearch (Cond.code yX9_wallForBySearch cX9_wallForBySearch 4 (some .int)) { frames := 8, cells := 4, slots := 24, locals := 186 } 4 24 S [.ref a0, .int x1, .int x2] (pI f) exc := by
  refine entry (by decide +kernel) rfl rfl (by first | decide | exact nl rfl) rfl ?_
  intro X h hq
  unfold w_X9_wallForBySearch at hw
  refine r_aload_n h 0 rfl rfl dX9_wallForBySearch_0 ?_
  refine r_iload_n h 1 rfl rfl dX9_wallForBySearch_1 ?_
  refine r_iload_n h 2 rfl rfl dX9_wallForBySearch_2 ?_
  obtain ⟨h1, hw⟩ := hw
  refine r_callV h (fun l => c_X9_openExhibitionAt l _ _ _ _ _ _ hw) q1017 q1019 q22 q55 q1020 nd_X9_openExhibitionAt ⟨by decide, by decide⟩ rfl rfl ⟨by decide, by decide⟩ kci10 rfl h1 rfl (by first | decide | exact nl rfl) rfl dX9_wallForBySearch_3 (fun E S9 he => r_out h hq he (by first | decide | exact nl rfl) (by first | decide | exact nl rfl)) (kA fun b2 S3 hw => ?_)
  refine r_astore_n h [1, 3, 0] rfl (by decide) rfl dX9_wallForBySearch_6 ?_
  refine r_aload_n h 0 rfl rfl dX9_wallForBySearch_7 ?_
  refine r_aload_n h 2 rfl rfl dX9_wallForBySearch_8 ?_
  obtain ⟨h5, hw⟩ := hw
  refine r_callV h (fun l => c_X9_findsBySearch l _ _ _ _ hw) q440 q442 q7 q55 q443 nd_X9_findsBySearch ⟨by decide, by decide⟩ rfl rfl ⟨by decide, by decide⟩ kci10 rfl h5 rfl (by first | decide | exact nl rfl) rfl dX9_wallForBySearch_9 nxk (kI fun r6 S7 hw => ?_)
  refine r_if_ne h 25 dX9_wallForBySearch_12 (by decide) (fun hc => ?_) (fun hc => ?_)
  · replace hw := hw.1 hc
    refine r_aload_n h 0 rfl rfl dX9_wallForBySearch_25 ?_
    obtain ⟨h9, hw⟩ := hw
    obtain ⟨b10, h11, hw⟩ := hw
    refine r_getr h kci10 in10 (k := 5) (by decide) rfl rfl q214 h9 h11 dX9_wallForBySearch_26 ?_
    obtain ⟨h12, hw⟩ := hw
    obtain ⟨b13, h14, hw⟩ := hw
    refine r_getrN h kci1 in1 (k := 4) (by decide) rfl rfl n168 h12 h14 dX9_wallForBySearch_29 ?_
    refine r_iload_n h 1 rfl rfl dX9_wallForBySearch_32 ?_
    refine r_callS h (fun l => c_X9_numberAt l _ _ _ _ hw) q1000 q303 q55 q304 nd_X9_numberAt ⟨by decide, by decide⟩ rfl rfl ⟨by decide, by decide⟩ (as := [.ref b13, .int x2]) rfl (by first | decide | exact nl rfl) rfl dX9_wallForBySearch_33 nxk (kI fun r15 S16 hw => ?_)
    exact r_iret h hq rfl ⟨_, rfl, hw⟩ (by decide) (by decide) dX9_wallForBySearch_36
  · replace hw := hw.2 hc
    exact r_throwS h hq th197 q942 q84 (is := 232) (text := "no plan is possible") (by decide +kernel) hw dX9_wallForBySearch_15 dX9_wallForBySearch_18 dX9_wallForBySearch_19 dX9_wallForBySearch_21 dX9_wallForBySearch_24 (by first | decide | exact nl rfl) (by first | decide | exact nl rfl) (by first | decide | exact nl rfl) (by first | decide | exact nl rfl) (by first | decide | exact nl rfl) (by first | decide | exact nl rfl)

def w_X9_wallOf (S : St) (a0 : Nat) (x1 : Int32) (x2 : Int32) (f : Int32 → St → Prop) (exc : String → St → Prop) : Prop := ok S a0 10 ∧ w_X9_exhibitionAt S a0 x1 (fun (b2 : Nat) (S3 : St) => ok S3 a0 10 ∧ w_X9_shownAt S3 a0 b2 x2 (fun (b6 : Nat) (S7 : St) => ok S7 b2 3 ∧ ((((sI S7 b2 6) = 112) → ∃ b10 : Nat, sP S7 b2 5 = some b10 ∧ w_X9_numberAt S7 b10 x2 (fun (r12 : Int32) (S13 : St) => f r12 S13)) ∧ ((¬ (sI S7 b2 6) = 112) → exc "java/lang/IllegalStateException" S7))) exc) exc
set_option maxRecDepth 100000 in
set_option maxHeartbeats 4000000 in
theorem c_X9_wallOf (l : Launch) (S : St) (a0 : Nat) (x1 : Int32) (x2 : Int32) (f : Int32 → St → Prop) (exc : String → St → Prop) (hw : w_X9_wallOf S a0 x1 x2 f exc) : Ct l yX9_wallOf (Cond.code yX9_wallOf cX9_wallOf 4 (some .int)) { frames := 7, cells := 3, slots := 18, locals := 104 } 3 18 S [.ref a0, .int x1, .int x2] (pI f) exc := by
  refine entry (by decide +kernel) rfl rfl (by first | decide | exact nl rfl) rfl ?_
  intro X h hq
  unfold w_X9_wallOf at hw
  refine r_aload_n h 0 rfl rfl dX9_wallOf_0 ?_
  refine r_iload_n h 1 rfl rfl dX9_wallOf_1 ?_
  obtain ⟨h1, hw⟩ := hw
  refine r_callV h (fun l => c_X9_exhibitionAt l _ _ _ _ _ hw) q906 q908 q20 q55 q909 nd_X9_exhibitionAt ⟨by decide, by decide⟩ rfl rfl ⟨by decide, by decide⟩ kci10 rfl h1 rfl (by first | decide | exact nl rfl) rfl dX9_wallOf_2 (fun E S9 he => r_out h hq he (by first | decide | exact nl rfl) (by first | decide | exact nl rfl)) (kA fun b2 S3 hw => ?_)
  refine r_astore_n h [1, 3, 0] rfl (by decide) rfl dX9_wallOf_5 ?_
  refine r_aload_n h 0 rfl rfl dX9_wallOf_6 ?_
  refine r_aload_n h 2 rfl rfl dX9_wallOf_7 ?_
  refine r_iload_n h 1 rfl rfl dX9_wallOf_8 ?_
  obtain ⟨h5, hw⟩ := hw
  refine r_callV h (fun l => c_X9_shownAt l _ _ _ _ _ _ hw) q987 q989 q21 q55 q990 nd_X9_shownAt ⟨by decide, by decide⟩ rfl rfl ⟨by decide, by decide⟩ kci10 rfl h5 rfl (by first | decide | exact nl rfl) rfl dX9_wallOf_9 (fun E S9 he => r_out h hq he (by first | decide | exact nl rfl) (by first | decide | exact nl rfl)) (kA fun b6 S7 hw => ?_)
  refine r_pop h rfl dX9_wallOf_12 ?_
  refine r_aload_n h 2 rfl rfl dX9_wallOf_13 ?_
  obtain ⟨h9, hw⟩ := hw
  refine r_getiN h kci3 in3 (k := 6) (by decide) rfl rfl n882 h9 dX9_wallOf_14 ?_
  refine r_bipush h (v := 112) (by decide) dX9_wallOf_17 ?_
  refine r_icmp_eq h 32 dX9_wallOf_19 (by decide) (fun hc => ?_) (fun hc => ?_)
  · replace hw := hw.1 hc
    refine r_aload_n h 2 rfl rfl dX9_wallOf_32 ?_
    obtain ⟨b10, h11, hw⟩ := hw
    refine r_getrN h kci3 in3 (k := 5) (by decide) rfl rfl n879 h9 h11 dX9_wallOf_33 ?_
    refine r_iload_n h 1 rfl rfl dX9_wallOf_36 ?_
    refine r_callS h (fun l => c_X9_numberAt l _ _ _ _ hw) q1000 q303 q55 q304 nd_X9_numberAt ⟨by decide, by decide⟩ rfl rfl ⟨by decide, by decide⟩ (as := [.ref b10, .int x2]) rfl (by first | decide | exact nl rfl) rfl dX9_wallOf_37 nxk (kI fun r12 S13 hw => ?_)
    exact r_iret h hq rfl ⟨_, rfl, hw⟩ (by decide) (by decide) dX9_wallOf_40
  · replace hw := hw.2 hc
    exact r_throwS h hq th80 q545 q69 (is := 212) (text := "the exhibition is not planned") (by decide +kernel) hw dX9_wallOf_22 dX9_wallOf_25 dX9_wallOf_26 dX9_wallOf_28 dX9_wallOf_31 (by first | decide | exact nl rfl) (by first | decide | exact nl rfl) (by first | decide | exact nl rfl) (by first | decide | exact nl rfl) (by first | decide | exact nl rfl) (by first | decide | exact nl rfl)

def w_X9_workOf (S : St) (a0 : Nat) (x1 : Int32) (x2 : Int32) (f : Int32 → St → Prop) (exc : String → St → Prop) : Prop := ok S a0 10 ∧ w_X9_exhibitionAt S a0 x1 (fun (b2 : Nat) (S3 : St) => ok S3 a0 10 ∧ w_X9_shownAt S3 a0 b2 x2 (fun (b6 : Nat) (S7 : St) => ok S7 b6 9 ∧ f (sI S7 b6 0) S7) exc) exc
set_option maxRecDepth 100000 in
set_option maxHeartbeats 4000000 in
theorem c_X9_workOf (l : Launch) (S : St) (a0 : Nat) (x1 : Int32) (x2 : Int32) (f : Int32 → St → Prop) (exc : String → St → Prop) (hw : w_X9_workOf S a0 x1 x2 f exc) : Ct l yX9_workOf (Cond.code yX9_workOf cX9_workOf 3 (some .int)) { frames := 7, cells := 2, slots := 12, locals := 104 } 2 12 S [.ref a0, .int x1, .int x2] (pI f) exc := by
  refine entry (by decide +kernel) rfl rfl (by first | decide | exact nl rfl) rfl ?_
  intro X h hq
  unfold w_X9_workOf at hw
  refine r_aload_n h 0 rfl rfl dX9_workOf_0 ?_
  refine r_aload_n h 0 rfl rfl dX9_workOf_1 ?_
  refine r_iload_n h 1 rfl rfl dX9_workOf_2 ?_
  obtain ⟨h1, hw⟩ := hw
  refine r_callV h (fun l => c_X9_exhibitionAt l _ _ _ _ _ hw) q906 q908 q20 q55 q909 nd_X9_exhibitionAt ⟨by decide, by decide⟩ rfl rfl ⟨by decide, by decide⟩ kci10 rfl h1 rfl (by first | decide | exact nl rfl) rfl dX9_workOf_3 (fun E S9 he => r_out h hq he (by first | decide | exact nl rfl) (by first | decide | exact nl rfl)) (kA fun b2 S3 hw => ?_)
  refine r_iload_n h 2 rfl rfl dX9_workOf_6 ?_
  obtain ⟨h5, hw⟩ := hw
  refine r_callV h (fun l => c_X9_shownAt l _ _ _ _ _ _ hw) q987 q989 q21 q55 q990 nd_X9_shownAt ⟨by decide, by decide⟩ rfl rfl ⟨by decide, by decide⟩ kci10 rfl h5 rfl (by first | decide | exact nl rfl) rfl dX9_workOf_7 (fun E S9 he => r_out h hq he (by first | decide | exact nl rfl) (by first | decide | exact nl rfl)) (kA fun b6 S7 hw => ?_)
  obtain ⟨h9, hw⟩ := hw
  refine r_getiN h kci9 in9 (k := 0) (by decide) rfl rfl n768 h9 dX9_workOf_10 ?_
  exact r_iret h hq rfl ⟨_, rfl, hw⟩ (by decide) (by decide) dX9_workOf_13

def w_X9_worksOf (S : St) (a0 : Nat) (x1 : Int32) (f : Int32 → St → Prop) (exc : String → St → Prop) : Prop := ok S a0 10 ∧ w_X9_exhibitionAt S a0 x1 (fun (b2 : Nat) (S3 : St) => ok S3 b2 3 ∧ ∃ b6 : Nat, sP S3 b2 4 = some b6 ∧ ok S3 b6 0 ∧ w_Jx4a65c_size_8abf5 S3 b6 (fun (r9 : Int32) (S10 : St) => f r9 S10)) exc
set_option maxRecDepth 100000 in
set_option maxHeartbeats 4000000 in
theorem c_X9_worksOf (l : Launch) (S : St) (a0 : Nat) (x1 : Int32) (f : Int32 → St → Prop) (exc : String → St → Prop) (hw : w_X9_worksOf S a0 x1 f exc) : Ct l yX9_worksOf (Cond.code yX9_worksOf cX9_worksOf 2 (some .int)) { frames := 7, cells := 1, slots := 6, locals := 103 } 1 6 S [.ref a0, .int x1] (pI f) exc := by
  refine entry (by decide +kernel) rfl rfl (by first | decide | exact nl rfl) rfl ?_
  intro X h hq
  unfold w_X9_worksOf at hw
  refine r_aload_n h 0 rfl rfl dX9_worksOf_0 ?_
  refine r_iload_n h 1 rfl rfl dX9_worksOf_1 ?_
  obtain ⟨h1, hw⟩ := hw
  refine r_callV h (fun l => c_X9_exhibitionAt l _ _ _ _ _ hw) q906 q908 q20 q55 q909 nd_X9_exhibitionAt ⟨by decide, by decide⟩ rfl rfl ⟨by decide, by decide⟩ kci10 rfl h1 rfl (by first | decide | exact nl rfl) rfl dX9_worksOf_2 (fun E S9 he => r_out h hq he (by first | decide | exact nl rfl) (by first | decide | exact nl rfl)) (kA fun b2 S3 hw => ?_)
  obtain ⟨h5, hw⟩ := hw
  obtain ⟨b6, h7, hw⟩ := hw
  refine r_getrN h kci3 in3 (k := 4) (by decide) rfl rfl n876 h5 h7 dX9_worksOf_5 ?_
  obtain ⟨h8, hw⟩ := hw
  refine r_callV h (fun l => c_Jx4a65c_size_8abf5 l _ _ _ hw) q238 q239 q240 q59 q241 nd_Jx4a65c_size_8abf5 ⟨by decide, by decide⟩ rfl rfl ⟨by decide, by decide⟩ kci0 rfl h8 rfl (by first | decide | exact nl rfl) rfl dX9_worksOf_8 nxk (kI fun r9 S10 hw => ?_)
  exact r_iret h hq rfl ⟨_, rfl, hw⟩ (by decide) (by decide) dX9_worksOf_11

def w_X9_init (S : St) (a0 : Nat) (f : St → Prop) : Prop := ∀ q1 : Nat, q1 ∉ sL S → let S3 : St := newO S q1 4; w_X3_init S3 q1 (fun (S5 : St) => ok S5 a0 10 ∧ let S8 : St := setP S5 a0 0 (some q1); ∀ q11 : Nat, q11 ∉ sL S8 → let S13 : St := newO S8 q11 0; w_Jx4a65c_init_da8c8 S13 q11 (fun (S15 : St) => ok S15 a0 10 ∧ let S18 : St := setP S15 a0 1 (some q11); ∀ q21 : Nat, q21 ∉ sL S18 → let S23 : St := newO S18 q21 0; w_Jx4a65c_init_da8c8 S23 q21 (fun (S25 : St) => ok S25 a0 10 ∧ let S28 : St := setP S25 a0 2 (some q21); ∀ q31 : Nat, q31 ∉ sL S28 → let S33 : St := newO S28 q31 8; w_X7_init S33 q31 (fun (S35 : St) => ok S35 a0 10 ∧ let S38 : St := setP S35 a0 3 (some q31); ∀ q41 : Nat, q41 ∉ sL S38 → let S43 : St := newO S38 q41 2; w_X1_init S43 q41 (fun (S45 : St) => ok S45 a0 10 ∧ let S48 : St := setP S45 a0 4 (some q41); ∀ q51 : Nat, q51 ∉ sL S48 → let S53 : St := newO S48 q51 1; w_X0_init S53 q51 (fun (S55 : St) => ok S55 a0 10 ∧ let S58 : St := setP S55 a0 5 (some q51); ∀ q61 : Nat, q61 ∉ sL S58 → let S63 : St := newO S58 q61 6; w_X5_init S63 q61 (fun (S65 : St) => ok S65 a0 10 ∧ let S68 : St := setP S65 a0 6 (some q61); f S68)))))))
set_option maxRecDepth 100000 in
set_option maxHeartbeats 4000000 in
theorem c_X9_init (l : Launch) (S : St) (a0 : Nat) (f : St → Prop) (hw : w_X9_init S a0 f) : Ct l yX9_init (Cond.code yX9_init cX9_init 1 none) { frames := 5, cells := 18, slots := 296, locals := 92 } 18 296 S [.ref a0] (pV f) nox := by
  refine entry (by decide +kernel) rfl rfl (by first | decide | exact nl rfl) rfl ?_
  intro X h hq
  unfold w_X9_init at hw
  refine r_aload_n h 0 rfl rfl dX9_init_0 ?_
  refine r_objInit h q91 q92 q93 (by first | decide | exact nl rfl) (by first | decide | exact nl rfl) dX9_init_1 ?_
  refine r_aload_n h 0 rfl rfl dX9_init_4 ?_
  refine r_new h kci4 in4 tyX3_ok df4 q94 q95 q56 (by first | decide | exact nl rfl) (by first | decide | exact nl rfl) dX9_init_5 (fun q1 h2 => ?_)
  replace hw := hw q1 h2
  refine r_dup h rfl dX9_init_8 ?_
  refine r_callIN h (fun l => c_X3_init l _ _ _ hw) n96 q97 q56 q98 nd_X3_init rfl ⟨by decide, by decide⟩ rfl rfl ⟨by decide, by decide⟩ (as := []) rfl (by first | decide | exact nl rfl) rfl dX9_init_9 nxk (kV fun  S5 hw => ?_)
  obtain ⟨h7, hw⟩ := hw
  refine r_putrF h (v := (some q1)) rfl kci10 in10 tyX9_ok nmX9 (k := 0) (by decide) rfl rfl rfl rfl rfl rfl rfl rfl q209 h7 dX9_init_12 ?_
  refine r_aload_n h 0 rfl rfl dX9_init_15 ?_
  refine r_new h kci0 in0 tyJx4a65c_ok df0 q131 q101 q59 (by first | decide | exact nl rfl) (by first | decide | exact nl rfl) dX9_init_16 (fun q11 h12 => ?_)
  replace hw := hw q11 h12
  refine r_dup h rfl dX9_init_19 ?_
  refine r_callI h (fun l => c_Jx4a65c_init_da8c8 l _ _ _ hw) q132 q103 q59 q104 nd_Jx4a65c_init_da8c8 rfl ⟨by decide, by decide⟩ rfl rfl ⟨by decide, by decide⟩ (as := []) rfl (by first | decide | exact nl rfl) rfl dX9_init_20 nxk (kV fun  S15 hw => ?_)
  obtain ⟨h17, hw⟩ := hw
  refine r_putrF h (v := (some q11)) rfl kci10 in10 tyX9_ok nmX9 (k := 1) (by decide) rfl rfl rfl rfl rfl rfl rfl rfl q210 h17 dX9_init_23 ?_
  refine r_aload_n h 0 rfl rfl dX9_init_26 ?_
  refine r_new h kci0 in0 tyJx4a65c_ok df0 q131 q101 q59 (by first | decide | exact nl rfl) (by first | decide | exact nl rfl) dX9_init_27 (fun q21 h22 => ?_)
  replace hw := hw q21 h22
  refine r_dup h rfl dX9_init_30 ?_
  refine r_callI h (fun l => c_Jx4a65c_init_da8c8 l _ _ _ hw) q132 q103 q59 q104 nd_Jx4a65c_init_da8c8 rfl ⟨by decide, by decide⟩ rfl rfl ⟨by decide, by decide⟩ (as := []) rfl (by first | decide | exact nl rfl) rfl dX9_init_31 nxk (kV fun  S25 hw => ?_)
  obtain ⟨h27, hw⟩ := hw
  refine r_putrF h (v := (some q21)) rfl kci10 in10 tyX9_ok nmX9 (k := 2) (by decide) rfl rfl rfl rfl rfl rfl rfl rfl q211 h27 dX9_init_34 ?_
  refine r_aload_n h 0 rfl rfl dX9_init_37 ?_
  refine r_new h kci8 in8 tyX7_ok df8 q133 q134 q60 (by first | decide | exact nl rfl) (by first | decide | exact nl rfl) dX9_init_38 (fun q31 h32 => ?_)
  replace hw := hw q31 h32
  refine r_dup h rfl dX9_init_41 ?_
  refine r_callIN h (fun l => c_X7_init l _ _ _ hw) n135 q136 q60 q137 nd_X7_init rfl ⟨by decide, by decide⟩ rfl rfl ⟨by decide, by decide⟩ (as := []) rfl (by first | decide | exact nl rfl) rfl dX9_init_42 nxk (kV fun  S35 hw => ?_)
  obtain ⟨h37, hw⟩ := hw
  refine r_putrF h (v := (some q31)) rfl kci10 in10 tyX9_ok nmX9 (k := 3) (by decide) rfl rfl rfl rfl rfl rfl rfl rfl q212 h37 dX9_init_45 ?_
  refine r_aload_n h 0 rfl rfl dX9_init_48 ?_
  refine r_new h kci2 in2 tyX1_ok df2 q144 q145 q61 (by first | decide | exact nl rfl) (by first | decide | exact nl rfl) dX9_init_49 (fun q41 h42 => ?_)
  replace hw := hw q41 h42
  refine r_dup h rfl dX9_init_52 ?_
  refine r_callIN h (fun l => c_X1_init l _ _ _ hw) n146 q147 q61 q148 nd_X1_init rfl ⟨by decide, by decide⟩ rfl rfl ⟨by decide, by decide⟩ (as := []) rfl (by first | decide | exact nl rfl) rfl dX9_init_53 nxk (kV fun  S45 hw => ?_)
  obtain ⟨h47, hw⟩ := hw
  refine r_putrF h (v := (some q41)) rfl kci10 in10 tyX9_ok nmX9 (k := 4) (by decide) rfl rfl rfl rfl rfl rfl rfl rfl q213 h47 dX9_init_56 ?_
  refine r_aload_n h 0 rfl rfl dX9_init_59 ?_
  refine r_new h kci1 in1 tyX0_ok df1 q157 q158 q62 (by first | decide | exact nl rfl) (by first | decide | exact nl rfl) dX9_init_60 (fun q51 h52 => ?_)
  replace hw := hw q51 h52
  refine r_dup h rfl dX9_init_63 ?_
  refine r_callIN h (fun l => c_X0_init l _ _ _ hw) n159 q160 q62 q161 nd_X0_init rfl ⟨by decide, by decide⟩ rfl rfl ⟨by decide, by decide⟩ (as := []) rfl (by first | decide | exact nl rfl) rfl dX9_init_64 nxk (kV fun  S55 hw => ?_)
  obtain ⟨h57, hw⟩ := hw
  refine r_putrF h (v := (some q51)) rfl kci10 in10 tyX9_ok nmX9 (k := 5) (by decide) rfl rfl rfl rfl rfl rfl rfl rfl q214 h57 dX9_init_67 ?_
  refine r_aload_n h 0 rfl rfl dX9_init_70 ?_
  refine r_new h kci6 in6 tyX5_ok df6 q187 q188 q63 (by first | decide | exact nl rfl) (by first | decide | exact nl rfl) dX9_init_71 (fun q61 h62 => ?_)
  replace hw := hw q61 h62
  refine r_dup h rfl dX9_init_74 ?_
  refine r_callIN h (fun l => c_X5_init l _ _ _ hw) n189 q190 q63 q191 nd_X5_init rfl ⟨by decide, by decide⟩ rfl rfl ⟨by decide, by decide⟩ (as := []) rfl (by first | decide | exact nl rfl) rfl dX9_init_75 nxk (kV fun  S65 hw => ?_)
  obtain ⟨h67, hw⟩ := hw
  refine r_putrF h (v := (some q61)) rfl kci10 in10 tyX9_ok nmX9 (k := 6) (by decide) rfl rfl rfl rfl rfl rfl rfl rfl q215 h67 dX9_init_78 ?_
  exact r_vret h hq rfl ⟨rfl, hw⟩ (by decide) (by decide) dX9_init_81

def w_X9_rooms (S : St) (a0 : Nat) (f : Int32 → St → Prop) : Prop := ok S a0 10 ∧ ∃ b2 : Nat, sP S a0 0 = some b2 ∧ ok S b2 4 ∧ ∃ b5 : Nat, sP S b2 0 = some b5 ∧ ok S b5 0 ∧ w_Jx4a65c_size_8abf5 S b5 (fun (r8 : Int32) (S9 : St) => f r8 S9)
set_option maxRecDepth 100000 in
set_option maxHeartbeats 4000000 in
theorem c_X9_rooms (l : Launch) (S : St) (a0 : Nat) (f : Int32 → St → Prop) (hw : w_X9_rooms S a0 f) : Ct l yX9_rooms (Cond.code yX9_rooms cX9_rooms 1 (some .int)) { frames := 1, cells := 0, slots := 0, locals := 20 } 0 0 S [.ref a0] (pI f) nox := by
  refine entry (by decide +kernel) rfl rfl (by first | decide | exact nl rfl) rfl ?_
  intro X h hq
  unfold w_X9_rooms at hw
  refine r_aload_n h 0 rfl rfl dX9_rooms_0 ?_
  obtain ⟨h1, hw⟩ := hw
  obtain ⟨b2, h3, hw⟩ := hw
  refine r_getr h kci10 in10 (k := 0) (by decide) rfl rfl q209 h1 h3 dX9_rooms_1 ?_
  obtain ⟨h4, hw⟩ := hw
  obtain ⟨b5, h6, hw⟩ := hw
  refine r_getrN h kci4 in4 (k := 0) (by decide) rfl rfl n127 h4 h6 dX9_rooms_4 ?_
  obtain ⟨h7, hw⟩ := hw
  refine r_callV h (fun l => c_Jx4a65c_size_8abf5 l _ _ _ hw) q238 q239 q240 q59 q241 nd_Jx4a65c_size_8abf5 ⟨by decide, by decide⟩ rfl rfl ⟨by decide, by decide⟩ kci0 rfl h7 rfl (by first | decide | exact nl rfl) rfl dX9_rooms_7 nxk (kI fun r8 S9 hw => ?_)
  exact r_iret h hq rfl ⟨_, rfl, hw⟩ (by decide) (by decide) dX9_rooms_10

def w_X9_works (S : St) (a0 : Nat) (f : Int32 → St → Prop) : Prop := ok S a0 10 ∧ ∃ b2 : Nat, sP S a0 2 = some b2 ∧ ok S b2 0 ∧ w_Jx4a65c_size_8abf5 S b2 (fun (r5 : Int32) (S6 : St) => f r5 S6)
set_option maxRecDepth 100000 in
set_option maxHeartbeats 4000000 in
theorem c_X9_works (l : Launch) (S : St) (a0 : Nat) (f : Int32 → St → Prop) (hw : w_X9_works S a0 f) : Ct l yX9_works (Cond.code yX9_works cX9_works 1 (some .int)) { frames := 1, cells := 0, slots := 0, locals := 20 } 0 0 S [.ref a0] (pI f) nox := by
  refine entry (by decide +kernel) rfl rfl (by first | decide | exact nl rfl) rfl ?_
  intro X h hq
  unfold w_X9_works at hw
  refine r_aload_n h 0 rfl rfl dX9_works_0 ?_
  obtain ⟨h1, hw⟩ := hw
  obtain ⟨b2, h3, hw⟩ := hw
  refine r_getr h kci10 in10 (k := 2) (by decide) rfl rfl q211 h1 h3 dX9_works_1 ?_
  obtain ⟨h4, hw⟩ := hw
  refine r_callV h (fun l => c_Jx4a65c_size_8abf5 l _ _ _ hw) q238 q239 q240 q59 q241 nd_Jx4a65c_size_8abf5 ⟨by decide, by decide⟩ rfl rfl ⟨by decide, by decide⟩ kci0 rfl h4 rfl (by first | decide | exact nl rfl) rfl dX9_works_4 nxk (kI fun r5 S6 hw => ?_)
  exact r_iret h hq rfl ⟨_, rfl, hw⟩ (by decide) (by decide) dX9_works_7

def w_X9_planned (S : St) (a0 : Nat) (f : Int32 → St → Prop) : Prop := ok S a0 10 ∧ f (sI S a0 7) S
set_option maxRecDepth 100000 in
set_option maxHeartbeats 4000000 in
theorem c_X9_planned (l : Launch) (S : St) (a0 : Nat) (f : Int32 → St → Prop) (hw : w_X9_planned S a0 f) : Ct l yX9_planned (Cond.code yX9_planned cX9_planned 1 (some .int)) { frames := 0, cells := 0, slots := 0, locals := 0 } 0 0 S [.ref a0] (pI f) nox := by
  refine entry (by decide +kernel) rfl rfl (by first | decide | exact nl rfl) rfl ?_
  intro X h hq
  unfold w_X9_planned at hw
  refine r_aload_n h 0 rfl rfl dX9_planned_0 ?_
  obtain ⟨h1, hw⟩ := hw
  refine r_geti h kci10 in10 (k := 7) (by decide) rfl rfl q216 h1 dX9_planned_1 ?_
  exact r_iret h hq rfl ⟨_, rfl, hw⟩ (by decide) (by decide) dX9_planned_4

def w_X9_insured (S : St) (a0 : Nat) (f : Int64 → St → Prop) : Prop := ok S a0 10 ∧ ∃ b2 : Nat, sP S a0 4 = some b2 ∧ ok S b2 2 ∧ w_X1_insuredSum S b2 (fun (r5 : Int64) (S6 : St) => f r5 S6)
set_option maxRecDepth 100000 in
set_option maxHeartbeats 4000000 in
theorem c_X9_insured (l : Launch) (S : St) (a0 : Nat) (f : Int64 → St → Prop) (hw : w_X9_insured S a0 f) : Ct l yX9_insured (Cond.code yX9_insured cX9_insured 1 (some .long)) { frames := 5, cells := 0, slots := 0, locals := 111 } 0 0 S [.ref a0] (pJ f) nox := by
  refine entry (by decide +kernel) rfl rfl (by first | decide | exact nl rfl) rfl ?_
  intro X h hq
  unfold w_X9_insured at hw
  refine r_aload_n h 0 rfl rfl dX9_insured_0 ?_
  obtain ⟨h1, hw⟩ := hw
  obtain ⟨b2, h3, hw⟩ := hw
  refine r_getr h kci10 in10 (k := 4) (by decide) rfl rfl q213 h1 h3 dX9_insured_1 ?_
  obtain ⟨h4, hw⟩ := hw
  refine r_callV h (fun l => c_X1_insuredSum l _ _ _ hw) q254 q255 q256 q61 q257 nd_X1_insuredSum ⟨by decide, by decide⟩ rfl rfl ⟨by decide, by decide⟩ kci2 rfl h4 rfl (by first | decide | exact nl rfl) rfl dX9_insured_4 nxk (kJ fun r5 S6 hw => ?_)
  exact r_lret h hq rfl ⟨_, rfl, hw⟩ (by decide) (by decide) dX9_insured_7

def wl_X9_allWaitRightly_2 (f : Int32 → St → Prop) : Nat → St → Nat → Int32 → Prop
  | 0, _, _, _ => False
  | n + 1, S, a0, x1 => ok S a0 10 ∧ ∃ b3 : Nat, sP S a0 4 = some b3 ∧ ok S b3 2 ∧ ∃ b6 : Nat, sP S b3 0 = some b6 ∧ ok S b6 0 ∧ w_Jx4a65c_size_8abf5 S b6 (fun (r9 : Int32) (S10 : St) => (((r9 ≤ x1) → f 1 S10) ∧ ((¬ r9 ≤ x1) → ok S10 a0 10 ∧ ∃ b13 : Nat, sP S10 a0 4 = some b13 ∧ ok S10 b13 2 ∧ ∃ b16 : Nat, sP S10 b13 0 = some b16 ∧ ok S10 b16 0 ∧ w_Jx4a65c_get_915e3 S10 b16 x1 (fun (b19 : Nat) (S20 : St) => ok S20 b19 3 ∧ (((¬ (sI S20 b19 6) = 119) → wl_X9_allWaitRightly_2 f n S20 a0 (x1 + 1)) ∧ (((sI S20 b19 6) = 119) → ok S20 a0 10 ∧ w_X9_findsWorkByWork S20 a0 b19 (fun (r24 : Int32) (S25 : St) => (((¬ r24 = 0) → f 0 S25) ∧ ((r24 = 0) → ok S25 a0 10 ∧ w_X9_findsBySearch S25 a0 b19 (fun (r28 : Int32) (S29 : St) => (((r28 = 0) → wl_X9_allWaitRightly_2 f n S29 a0 (x1 + 1)) ∧ ((¬ r28 = 0) → f 0 S29))))))))))))
def w_X9_allWaitRightly (S : St) (a0 : Nat) (f : Int32 → St → Prop) : Prop := (∃ m : Nat, wl_X9_allWaitRightly_2 f m S a0 0)
set_option maxRecDepth 100000 in
set_option maxHeartbeats 4000000 in
theorem c_X9_allWaitRightly (l : Launch) (S : St) (a0 : Nat) (f : Int32 → St → Prop) (hw : w_X9_allWaitRightly S a0 f) : Ct l yX9_allWaitRightly (Cond.code yX9_allWaitRightly cX9_allWaitRightly 3 (some .boolean)) { frames := 12, cells := 0, slots := 0, locals := 264 } 0 0 S [.ref a0] (pI f) nox := by
  refine entry (by decide +kernel) rfl rfl (by first | decide | exact nl rfl) rfl ?_
  intro X h hq
  have L2 : ∀ (n : Nat) (S : St) (a0 : Nat) (x1 : Int32), wl_X9_allWaitRightly_2 f n S a0 x1 → pw X 0 0 S 2 [(0, .ref a0), (1, .int x1)] [] := by
    intro n
    induction n with
    | zero => intro S a0 x1 hw; exact hw.elim
    | succ n ih =>
      intro S a0 x1 hw
      unfold wl_X9_allWaitRightly_2 at hw
      refine r_iload_n h 1 rfl rfl dX9_allWaitRightly_2 ?_
      refine r_aload_n h 0 rfl rfl dX9_allWaitRightly_3 ?_
      obtain ⟨h2, hw⟩ := hw
      obtain ⟨b3, h4, hw⟩ := hw
      refine r_getr h kci10 in10 (k := 4) (by decide) rfl rfl q213 h2 h4 dX9_allWaitRightly_4 ?_
      obtain ⟨h5, hw⟩ := hw
      obtain ⟨b6, h7, hw⟩ := hw
      refine r_getrN h kci2 in2 (k := 0) (by decide) rfl rfl n153 h5 h7 dX9_allWaitRightly_7 ?_
      obtain ⟨h8, hw⟩ := hw
      refine r_callV h (fun l => c_Jx4a65c_size_8abf5 l _ _ _ hw) q238 q239 q240 q59 q241 nd_Jx4a65c_size_8abf5 ⟨by decide, by decide⟩ rfl rfl ⟨by decide, by decide⟩ kci0 rfl h8 rfl (by first | decide | exact nl rfl) rfl dX9_allWaitRightly_10 nxk (kI fun r9 S10 hw => ?_)
      refine r_icmp_ge h 64 dX9_allWaitRightly_13 (by decide) (fun hc => ?_) (fun hc => ?_)
      · replace hw := hw.1 hc
        refine r_iconst h (v := 1) (by decide) dX9_allWaitRightly_64 ?_
        exact r_zret h hq (ty := .boolean) rfl rfl ⟨_, rfl, hw⟩ (by decide) (by decide) dX9_allWaitRightly_65
      · replace hw := hw.2 hc
        refine r_aload_n h 0 rfl rfl dX9_allWaitRightly_16 ?_
        obtain ⟨h12, hw⟩ := hw
        obtain ⟨b13, h14, hw⟩ := hw
        refine r_getr h kci10 in10 (k := 4) (by decide) rfl rfl q213 h12 h14 dX9_allWaitRightly_17 ?_
        obtain ⟨h15, hw⟩ := hw
        obtain ⟨b16, h17, hw⟩ := hw
        refine r_getrN h kci2 in2 (k := 0) (by decide) rfl rfl n153 h15 h17 dX9_allWaitRightly_20 ?_
        refine r_iload_n h 1 rfl rfl dX9_allWaitRightly_23 ?_
        obtain ⟨h18, hw⟩ := hw
        refine r_callV h (fun l => c_Jx4a65c_get_915e3 l _ _ _ _ hw) q393 q260 q261 q59 q262 nd_Jx4a65c_get_915e3 ⟨by decide, by decide⟩ rfl rfl ⟨by decide, by decide⟩ kci0 rfl h18 rfl (by first | decide | exact nl rfl) rfl dX9_allWaitRightly_24 nxk (kA fun b19 S20 hw => ?_)
        obtain ⟨h22, hw⟩ := hw
        refine r_castS h kci3 q394 h22 dX9_allWaitRightly_27 ?_
        refine r_astore_n h [1, 2, 0] rfl (by decide) rfl dX9_allWaitRightly_30 ?_
        refine r_aload_n h 2 rfl rfl dX9_allWaitRightly_31 ?_
        refine r_getiN h kci3 in3 (k := 6) (by decide) rfl rfl n882 h22 dX9_allWaitRightly_32 ?_
        refine r_bipush h (v := 119) (by decide) dX9_allWaitRightly_35 ?_
        refine r_icmp_ne h 58 dX9_allWaitRightly_37 (by decide) (fun hc => ?_) (fun hc => ?_)
        · replace hw := hw.1 hc
          refine r_iinc h (j := 1) (v := (x1 + 1)) [1, 0, 2] rfl rfl (by decide) rfl dX9_allWaitRightly_58 ?_
          refine r_goto h 2 dX9_allWaitRightly_61 (by decide) ?_
          refine r_vs [0, 1] rfl ?_
          exact ih _ _ _ hw
        · replace hw := hw.2 hc
          refine r_aload_n h 0 rfl rfl dX9_allWaitRightly_40 ?_
          refine r_aload_n h 2 rfl rfl dX9_allWaitRightly_41 ?_
          obtain ⟨h23, hw⟩ := hw
          refine r_callV h (fun l => c_X9_findsWorkByWork l _ _ _ _ hw) q395 q397 q4 q55 q398 nd_X9_findsWorkByWork ⟨by decide, by decide⟩ rfl rfl ⟨by decide, by decide⟩ kci10 rfl h23 rfl (by first | decide | exact nl rfl) rfl dX9_allWaitRightly_42 nxk (kI fun r24 S25 hw => ?_)
          refine r_if_ne h 56 dX9_allWaitRightly_45 (by decide) (fun hc => ?_) (fun hc => ?_)
          · replace hw := hw.1 hc
            refine r_iconst h (v := 0) (by decide) dX9_allWaitRightly_56 ?_
            exact r_zret h hq (ty := .boolean) rfl rfl ⟨_, rfl, hw⟩ (by decide) (by decide) dX9_allWaitRightly_57
          · replace hw := hw.2 hc
            refine r_aload_n h 0 rfl rfl dX9_allWaitRightly_48 ?_
            refine r_aload_n h 2 rfl rfl dX9_allWaitRightly_49 ?_
            obtain ⟨h27, hw⟩ := hw
            refine r_callV h (fun l => c_X9_findsBySearch l _ _ _ _ hw) q440 q442 q7 q55 q443 nd_X9_findsBySearch ⟨by decide, by decide⟩ rfl rfl ⟨by decide, by decide⟩ kci10 rfl h27 rfl (by first | decide | exact nl rfl) rfl dX9_allWaitRightly_50 nxk (kI fun r28 S29 hw => ?_)
            refine r_if_eq h 58 dX9_allWaitRightly_53 (by decide) (fun hc => ?_) (fun hc => ?_)
            · replace hw := hw.1 hc
              refine r_iinc h (j := 1) (v := (x1 + 1)) [1, 0, 2] rfl rfl (by decide) rfl dX9_allWaitRightly_58 ?_
              refine r_goto h 2 dX9_allWaitRightly_61 (by decide) ?_
              refine r_vs [0, 1] rfl ?_
              exact ih _ _ _ hw
            · replace hw := hw.2 hc
              refine r_iconst h (v := 0) (by decide) dX9_allWaitRightly_56 ?_
              exact r_zret h hq (ty := .boolean) rfl rfl ⟨_, rfl, hw⟩ (by decide) (by decide) dX9_allWaitRightly_57
  unfold w_X9_allWaitRightly at hw
  refine r_iconst h (v := 0) (by decide) dX9_allWaitRightly_0 ?_
  refine r_istore_n h [1, 0] rfl (by decide) rfl dX9_allWaitRightly_1 ?_
  obtain ⟨m, hw⟩ := hw
  exact L2 m _ _ _ hw

def w_X9_isSafe (S : St) (a0 : Nat) (f : Int32 → St → Prop) : Prop := ok S a0 10 ∧ ∃ b2 : Nat, sP S a0 4 = some b2 ∧ ∃ b4 : Nat, sP S a0 0 = some b4 ∧ ∃ b6 : Nat, sP S a0 3 = some b6 ∧ ok S b2 2 ∧ w_X1_allHangWell S b2 b4 b6 (fun (r9 : Int32) (S10 : St) => (((r9 = 0) → f 0 S10) ∧ ((¬ r9 = 0) → ok S10 a0 10 ∧ ∃ b13 : Nat, sP S10 a0 4 = some b13 ∧ ∃ b15 : Nat, sP S10 a0 0 = some b15 ∧ ok S10 b13 2 ∧ w_X1_fitsOn S10 b13 b15 (fun (r18 : Int32) (S19 : St) => (((r18 = 0) → f 0 S19) ∧ ((¬ r18 = 0) → ok S19 a0 10 ∧ ∃ b22 : Nat, sP S19 a0 4 = some b22 ∧ ok S19 b22 2 ∧ w_X1_takesWell S19 b22 (fun (r25 : Int32) (S26 : St) => (((r25 = 0) → f 0 S26) ∧ ((¬ r25 = 0) → ok S26 a0 10 ∧ w_X9_allWaitRightly S26 a0 (fun (r29 : Int32) (S30 : St) => (((r29 = 0) → f 0 S30) ∧ ((¬ r29 = 0) → f 1 S30))))))))))))
set_option maxRecDepth 100000 in
set_option maxHeartbeats 4000000 in
theorem c_X9_isSafe (l : Launch) (S : St) (a0 : Nat) (f : Int32 → St → Prop) (hw : w_X9_isSafe S a0 f) : Ct l yX9_isSafe (Cond.code yX9_isSafe cX9_isSafe 1 (some .boolean)) { frames := 13, cells := 0, slots := 0, locals := 286 } 0 0 S [.ref a0] (pI f) nox := by
  refine entry (by decide +kernel) rfl rfl (by first | decide | exact nl rfl) rfl ?_
  intro X h hq
  unfold w_X9_isSafe at hw
  refine r_aload_n h 0 rfl rfl dX9_isSafe_0 ?_
  obtain ⟨h1, hw⟩ := hw
  obtain ⟨b2, h3, hw⟩ := hw
  refine r_getr h kci10 in10 (k := 4) (by decide) rfl rfl q213 h1 h3 dX9_isSafe_1 ?_
  refine r_aload_n h 0 rfl rfl dX9_isSafe_4 ?_
  obtain ⟨b4, h5, hw⟩ := hw
  refine r_getr h kci10 in10 (k := 0) (by decide) rfl rfl q209 h1 h5 dX9_isSafe_5 ?_
  refine r_aload_n h 0 rfl rfl dX9_isSafe_8 ?_
  obtain ⟨b6, h7, hw⟩ := hw
  refine r_getr h kci10 in10 (k := 3) (by decide) rfl rfl q212 h1 h7 dX9_isSafe_9 ?_
  obtain ⟨h8, hw⟩ := hw
  refine r_callV h (fun l => c_X1_allHangWell l _ _ _ _ _ hw) q293 q294 q295 q61 q296 nd_X1_allHangWell ⟨by decide, by decide⟩ rfl rfl ⟨by decide, by decide⟩ kci2 rfl h8 rfl (by first | decide | exact nl rfl) rfl dX9_isSafe_12 nxk (kI fun r9 S10 hw => ?_)
  refine r_if_eq h 53 dX9_isSafe_15 (by decide) (fun hc => ?_) (fun hc => ?_)
  · replace hw := hw.1 hc
    refine r_iconst h (v := 0) (by decide) dX9_isSafe_53 ?_
    exact r_zret h hq (ty := .boolean) rfl rfl ⟨_, rfl, hw⟩ (by decide) (by decide) dX9_isSafe_54
  · replace hw := hw.2 hc
    refine r_aload_n h 0 rfl rfl dX9_isSafe_18 ?_
    obtain ⟨h12, hw⟩ := hw
    obtain ⟨b13, h14, hw⟩ := hw
    refine r_getr h kci10 in10 (k := 4) (by decide) rfl rfl q213 h12 h14 dX9_isSafe_19 ?_
    refine r_aload_n h 0 rfl rfl dX9_isSafe_22 ?_
    obtain ⟨b15, h16, hw⟩ := hw
    refine r_getr h kci10 in10 (k := 0) (by decide) rfl rfl q209 h12 h16 dX9_isSafe_23 ?_
    obtain ⟨h17, hw⟩ := hw
    refine r_callV h (fun l => c_X1_fitsOn l _ _ _ _ hw) q342 q343 q344 q61 q345 nd_X1_fitsOn ⟨by decide, by decide⟩ rfl rfl ⟨by decide, by decide⟩ kci2 rfl h17 rfl (by first | decide | exact nl rfl) rfl dX9_isSafe_26 nxk (kI fun r18 S19 hw => ?_)
    refine r_if_eq h 53 dX9_isSafe_29 (by decide) (fun hc => ?_) (fun hc => ?_)
    · replace hw := hw.1 hc
      refine r_iconst h (v := 0) (by decide) dX9_isSafe_53 ?_
      exact r_zret h hq (ty := .boolean) rfl rfl ⟨_, rfl, hw⟩ (by decide) (by decide) dX9_isSafe_54
    · replace hw := hw.2 hc
      refine r_aload_n h 0 rfl rfl dX9_isSafe_32 ?_
      obtain ⟨h21, hw⟩ := hw
      obtain ⟨b22, h23, hw⟩ := hw
      refine r_getr h kci10 in10 (k := 4) (by decide) rfl rfl q213 h21 h23 dX9_isSafe_33 ?_
      obtain ⟨h24, hw⟩ := hw
      refine r_callV h (fun l => c_X1_takesWell l _ _ _ hw) q363 q364 q365 q61 q366 nd_X1_takesWell ⟨by decide, by decide⟩ rfl rfl ⟨by decide, by decide⟩ kci2 rfl h24 rfl (by first | decide | exact nl rfl) rfl dX9_isSafe_36 nxk (kI fun r25 S26 hw => ?_)
      refine r_if_eq h 53 dX9_isSafe_39 (by decide) (fun hc => ?_) (fun hc => ?_)
      · replace hw := hw.1 hc
        refine r_iconst h (v := 0) (by decide) dX9_isSafe_53 ?_
        exact r_zret h hq (ty := .boolean) rfl rfl ⟨_, rfl, hw⟩ (by decide) (by decide) dX9_isSafe_54
      · replace hw := hw.2 hc
        refine r_aload_n h 0 rfl rfl dX9_isSafe_42 ?_
        obtain ⟨h28, hw⟩ := hw
        refine r_callV h (fun l => c_X9_allWaitRightly l _ _ _ hw) q389 q391 q3 q55 q392 nd_X9_allWaitRightly ⟨by decide, by decide⟩ rfl rfl ⟨by decide, by decide⟩ kci10 rfl h28 rfl (by first | decide | exact nl rfl) rfl dX9_isSafe_43 nxk (kI fun r29 S30 hw => ?_)
        refine r_if_eq h 53 dX9_isSafe_46 (by decide) (fun hc => ?_) (fun hc => ?_)
        · replace hw := hw.1 hc
          refine r_iconst h (v := 0) (by decide) dX9_isSafe_53 ?_
          exact r_zret h hq (ty := .boolean) rfl rfl ⟨_, rfl, hw⟩ (by decide) (by decide) dX9_isSafe_54
        · replace hw := hw.2 hc
          refine r_iconst h (v := 1) (by decide) dX9_isSafe_49 ?_
          refine r_goto h 54 dX9_isSafe_50 (by decide) ?_
          exact r_zret h hq (ty := .boolean) rfl rfl ⟨_, rfl, hw⟩ (by decide) (by decide) dX9_isSafe_54
