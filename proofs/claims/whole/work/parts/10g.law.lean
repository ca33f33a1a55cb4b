def w_L_addExhibition (S : St) (a0 : Nat) (x1 : Int32) (x2 : Int32) (x3 : Int32) (a4 : Nat) (f : Int32 → St → Prop) : Prop := ok S a0 10 ∧ w_X9_addExhibition S a0 x1 x2 x3 (fun (r2 : Int32) (S3 : St) => ok S3 a4 103 ∧ vp_in 0 (sN S3 a4) ∧ let S7 : St := setJ S3 a4 (Int32.toNatClampNeg 0) (Int32.toInt64 r2); f 0 S7) (fun (E : String) (S3 : St) => (E = "java/lang/IllegalArgumentException" ∧ f 1 S3) ∨ (E = "java/lang/IllegalStateException" ∧ f 2 S3))
set_option maxRecDepth 100000 in
set_option maxHeartbeats 4000000 in
theorem c_L_addExhibition (l : Launch) (S : St) (a0 : Nat) (x1 : Int32) (x2 : Int32) (x3 : Int32) (a4 : Nat) (f : Int32 → St → Prop) (hw : w_L_addExhibition S a0 x1 x2 x3 a4 f) : Ct l yL_addExhibition (Cond.codeWith yL_addExhibition cL_addExhibition 6 (some .int) [(0, 12, 15, 13), (0, 12, 19, 15)]) { frames := 8, cells := 4, slots := 35, locals := 215 } 4 35 S [.ref a0, .int x1, .int x2, .int x3, .ref a4] (pI f) nox := by
  refine entryW (by decide +kernel) rfl rfl (by first | decide | exact nl rfl) rfl ?_
  intro X h hq
  unfold w_L_addExhibition at hw
  refine r_aload h 4 rfl dL_addExhibition_0 ?_
  refine r_iconst h (v := 0) (by decide) dL_addExhibition_2 ?_
  refine r_aload_n h 0 rfl rfl dL_addExhibition_3 ?_
  refine r_iload_n h 1 rfl rfl dL_addExhibition_4 ?_
  refine r_iload_n h 2 rfl rfl dL_addExhibition_5 ?_
  refine r_iload_n h 3 rfl rfl dL_addExhibition_6 ?_
  obtain ⟨h1, hw⟩ := hw
  refine r_callV h (fun l => c_X9_addExhibition l _ _ _ _ _ _ _ hw) q850 q851 q852 q55 q853 nd_X9_addExhibition ⟨by decide, by decide⟩ rfl rfl ⟨by decide, by decide⟩ kci10 rfl h1 rfl (by first | decide | exact nl rfl) rfl dL_addExhibition_7 (fun E S9 he => ?_) (kI fun r2 S3 hw => ?_)
  · rcases he with ⟨rfl, hw⟩ | ⟨rfl, hw⟩
    · refine r_catch h (pre := []) (x := ⟨0, 12, 15, 13⟩) (suf := [⟨0, 12, 19, 15⟩]) rfl (fun _ h => absurd h List.not_mem_nil) (by first | decide | exact nl rfl) (by first | decide | exact nl rfl) q463 n475 (fun q9 => ?_)
      refine r_astore h [] (by decide) rfl dL_addExhibition_15 ?_
      refine r_iconst h (v := 1) (by decide) dL_addExhibition_17 ?_
      exact r_iret h hq rfl ⟨_, rfl, hw⟩ (by decide) (by decide) dL_addExhibition_18
    · refine r_catch h (pre := [⟨0, 12, 15, 13⟩]) (x := ⟨0, 12, 19, 15⟩) (suf := []) rfl (List.forall_mem_cons.mpr ⟨⟨by decide, _, q463, by decide +kernel⟩, (fun _ h => absurd h List.not_mem_nil)⟩) (by first | decide | exact nl rfl) (by first | decide | exact nl rfl) q464 n547 (fun q9 => ?_)
      refine r_astore h [] (by decide) rfl dL_addExhibition_19 ?_
      refine r_iconst h (v := 2) (by decide) dL_addExhibition_21 ?_
      exact r_iret h hq rfl ⟨_, rfl, hw⟩ (by decide) (by decide) dL_addExhibition_22
  · refine r_i2l h dL_addExhibition_10 ?_
    obtain ⟨h5, hw⟩ := hw
    obtain ⟨h6, hw⟩ := hw
    refine r_last h h5 h6 dL_addExhibition_11 ?_
    refine r_goto h 23 dL_addExhibition_12 (by decide) ?_
    refine r_iconst h (v := 0) (by decide) dL_addExhibition_23 ?_
    exact r_iret h hq rfl ⟨_, rfl, hw⟩ (by decide) (by decide) dL_addExhibition_24

def w_L_addLender (S : St) (a0 : Nat) (x1 : Int32) (x2 : Int32) (x3 : Int32) (a4 : Nat) (f : Int32 → St → Prop) : Prop := ok S a0 10 ∧ w_X9_addLender S a0 x1 x2 x3 (fun (r2 : Int32) (S3 : St) => ok S3 a4 103 ∧ vp_in 0 (sN S3 a4) ∧ let S7 : St := setJ S3 a4 (Int32.toNatClampNeg 0) (Int32.toInt64 r2); f 0 S7) (fun (E : String) (S3 : St) => (E = "java/lang/IllegalArgumentException" ∧ f 1 S3) ∨ (E = "java/lang/IllegalStateException" ∧ f 2 S3))
set_option maxRecDepth 100000 in
set_option maxHeartbeats 4000000 in
theorem c_L_addLender (l : Launch) (S : St) (a0 : Nat) (x1 : Int32) (x2 : Int32) (x3 : Int32) (a4 : Nat) (f : Int32 → St → Prop) (hw : w_L_addLender S a0 x1 x2 x3 a4 f) : Ct l yL_addLender (Cond.codeWith yL_addLender cL_addLender 6 (some .int) [(0, 12, 15, 13), (0, 12, 19, 15)]) { frames := 8, cells := 2, slots := 24, locals := 215 } 2 24 S [.ref a0, .int x1, .int x2, .int x3, .ref a4] (pI f) nox := by
  refine entryW (by decide +kernel) rfl rfl (by first | decide | exact nl rfl) rfl ?_
  intro X h hq
  unfold w_L_addLender at hw
  refine r_aload h 4 rfl dL_addLender_0 ?_
  refine r_iconst h (v := 0) (by decide) dL_addLender_2 ?_
  refine r_aload_n h 0 rfl rfl dL_addLender_3 ?_
  refine r_iload_n h 1 rfl rfl dL_addLender_4 ?_
  refine r_iload_n h 2 rfl rfl dL_addLender_5 ?_
  refine r_iload_n h 3 rfl rfl dL_addLender_6 ?_
  obtain ⟨h1, hw⟩ := hw
  refine r_callV h (fun l => c_X9_addLender l _ _ _ _ _ _ _ hw) q719 q720 q721 q55 q722 nd_X9_addLender ⟨by decide, by decide⟩ rfl rfl ⟨by decide, by decide⟩ kci10 rfl h1 rfl (by first | decide | exact nl rfl) rfl dL_addLender_7 (fun E S9 he => ?_) (kI fun r2 S3 hw => ?_)
  · rcases he with ⟨rfl, hw⟩ | ⟨rfl, hw⟩
    · refine r_catch h (pre := []) (x := ⟨0, 12, 15, 13⟩) (suf := [⟨0, 12, 19, 15⟩]) rfl (fun _ h => absurd h List.not_mem_nil) (by first | decide | exact nl rfl) (by first | decide | exact nl rfl) q463 n475 (fun q9 => ?_)
      refine r_astore h [] (by decide) rfl dL_addLender_15 ?_
      refine r_iconst h (v := 1) (by decide) dL_addLender_17 ?_
      exact r_iret h hq rfl ⟨_, rfl, hw⟩ (by decide) (by decide) dL_addLender_18
    · refine r_catch h (pre := [⟨0, 12, 15, 13⟩]) (x := ⟨0, 12, 19, 15⟩) (suf := []) rfl (List.forall_mem_cons.mpr ⟨⟨by decide, _, q463, by decide +kernel⟩, (fun _ h => absurd h List.not_mem_nil)⟩) (by first | decide | exact nl rfl) (by first | decide | exact nl rfl) q464 n547 (fun q9 => ?_)
      refine r_astore h [] (by decide) rfl dL_addLender_19 ?_
      refine r_iconst h (v := 2) (by decide) dL_addLender_21 ?_
      exact r_iret h hq rfl ⟨_, rfl, hw⟩ (by decide) (by decide) dL_addLender_22
  · refine r_i2l h dL_addLender_10 ?_
    obtain ⟨h5, hw⟩ := hw
    obtain ⟨h6, hw⟩ := hw
    refine r_last h h5 h6 dL_addLender_11 ?_
    refine r_goto h 23 dL_addLender_12 (by decide) ?_
    refine r_iconst h (v := 0) (by decide) dL_addLender_23 ?_
    exact r_iret h hq rfl ⟨_, rfl, hw⟩ (by decide) (by decide) dL_addLender_24

def w_L_addRoom (S : St) (a0 : Nat) (x1 : Int32) (x2 : Int32) (x3 : Int32) (x4 : Int32) (a5 : Nat) (f : Int32 → St → Prop) : Prop := ok S a0 10 ∧ w_X9_addRoom S a0 x1 x2 x3 x4 (fun (r2 : Int32) (S3 : St) => ok S3 a5 103 ∧ vp_in 0 (sN S3 a5) ∧ let S7 : St := setJ S3 a5 (Int32.toNatClampNeg 0) (Int32.toInt64 r2); f 0 S7) (fun (E : String) (S3 : St) => (E = "java/lang/IllegalArgumentException" ∧ f 1 S3) ∨ (E = "java/lang/IllegalStateException" ∧ f 2 S3))
set_option maxRecDepth 100000 in
set_option maxHeartbeats 4000000 in
theorem c_L_addRoom (l : Launch) (S : St) (a0 : Nat) (x1 : Int32) (x2 : Int32) (x3 : Int32) (x4 : Int32) (a5 : Nat) (f : Int32 → St → Prop) (hw : w_L_addRoom S a0 x1 x2 x3 x4 a5 f) : Ct l yL_addRoom (Cond.codeWith yL_addRoom cL_addRoom 7 (some .int) [(0, 14, 17, 13), (0, 14, 21, 15)]) { frames := 14, cells := 2, slots := 24, locals := 311 } 2 24 S [.ref a0, .int x1, .int x2, .int x3, .int x4, .ref a5] (pI f) nox := by
  refine entryW (by decide +kernel) rfl rfl (by first | decide | exact nl rfl) rfl ?_
  intro X h hq
  unfold w_L_addRoom at hw
  refine r_aload h 5 rfl dL_addRoom_0 ?_
  refine r_iconst h (v := 0) (by decide) dL_addRoom_2 ?_
  refine r_aload_n h 0 rfl rfl dL_addRoom_3 ?_
  refine r_iload_n h 1 rfl rfl dL_addRoom_4 ?_
  refine r_iload_n h 2 rfl rfl dL_addRoom_5 ?_
  refine r_iload_n h 3 rfl rfl dL_addRoom_6 ?_
  refine r_iload h 4 rfl dL_addRoom_7 ?_
  obtain ⟨h1, hw⟩ := hw
  refine r_callV h (fun l => c_X9_addRoom l _ _ _ _ _ _ _ _ hw) q465 q466 q467 q55 q468 nd_X9_addRoom ⟨by decide, by decide⟩ rfl rfl ⟨by decide, by decide⟩ kci10 rfl h1 rfl (by first | decide | exact nl rfl) rfl dL_addRoom_9 (fun E S9 he => ?_) (kI fun r2 S3 hw => ?_)
  · rcases he with ⟨rfl, hw⟩ | ⟨rfl, hw⟩
    · refine r_catch h (pre := []) (x := ⟨0, 14, 17, 13⟩) (suf := [⟨0, 14, 21, 15⟩]) rfl (fun _ h => absurd h List.not_mem_nil) (by first | decide | exact nl rfl) (by first | decide | exact nl rfl) q463 n475 (fun q9 => ?_)
      refine r_astore h [] (by decide) rfl dL_addRoom_17 ?_
      refine r_iconst h (v := 1) (by decide) dL_addRoom_19 ?_
      exact r_iret h hq rfl ⟨_, rfl, hw⟩ (by decide) (by decide) dL_addRoom_20
    · refine r_catch h (pre := [⟨0, 14, 17, 13⟩]) (x := ⟨0, 14, 21, 15⟩) (suf := []) rfl (List.forall_mem_cons.mpr ⟨⟨by decide, _, q463, by decide +kernel⟩, (fun _ h => absurd h List.not_mem_nil)⟩) (by first | decide | exact nl rfl) (by first | decide | exact nl rfl) q464 n547 (fun q9 => ?_)
      refine r_astore h [] (by decide) rfl dL_addRoom_21 ?_
      refine r_iconst h (v := 2) (by decide) dL_addRoom_23 ?_
      exact r_iret h hq rfl ⟨_, rfl, hw⟩ (by decide) (by decide) dL_addRoom_24
  · refine r_i2l h dL_addRoom_12 ?_
    obtain ⟨h5, hw⟩ := hw
    obtain ⟨h6, hw⟩ := hw
    refine r_last h h5 h6 dL_addRoom_13 ?_
    refine r_goto h 25 dL_addRoom_14 (by decide) ?_
    refine r_iconst h (v := 0) (by decide) dL_addRoom_25 ?_
    exact r_iret h hq rfl ⟨_, rfl, hw⟩ (by decide) (by decide) dL_addRoom_26

def w_L_addWork (S : St) (a0 : Nat) (x1 : Int32) (x2 : Int32) (x3 : Int32) (x4 : Int32) (x5 : Int32) (x6 : Int32) (a7 : Nat) (f : Int32 → St → Prop) : Prop := ok S a0 10 ∧ w_X9_addWork S a0 x1 x2 x3 x4 x5 x6 (fun (r2 : Int32) (S3 : St) => ok S3 a7 103 ∧ vp_in 0 (sN S3 a7) ∧ let S7 : St := setJ S3 a7 (Int32.toNatClampNeg 0) (Int32.toInt64 r2); f 0 S7) (fun (E : String) (S3 : St) => (E = "java/lang/IllegalArgumentException" ∧ f 1 S3) ∨ (E = "java/lang/IllegalStateException" ∧ f 2 S3))
set_option maxRecDepth 100000 in
set_option maxHeartbeats 4000000 in
theorem c_L_addWork (l : Launch) (S : St) (a0 : Nat) (x1 : Int32) (x2 : Int32) (x3 : Int32) (x4 : Int32) (x5 : Int32) (x6 : Int32) (a7 : Nat) (f : Int32 → St → Prop) (hw : w_L_addWork S a0 x1 x2 x3 x4 x5 x6 a7 f) : Ct l yL_addWork (Cond.codeWith yL_addWork cL_addWork 9 (some .int) [(0, 18, 21, 13), (0, 18, 25, 15)]) { frames := 8, cells := 2, slots := 27, locals := 219 } 2 27 S [.ref a0, .int x1, .int x2, .int x3, .int x4, .int x5, .int x6, .ref a7] (pI f) nox := by
  refine entryW (by decide +kernel) rfl rfl (by first | decide | exact nl rfl) rfl ?_
  intro X h hq
  unfold w_L_addWork at hw
  refine r_aload h 7 rfl dL_addWork_0 ?_
  refine r_iconst h (v := 0) (by decide) dL_addWork_2 ?_
  refine r_aload_n h 0 rfl rfl dL_addWork_3 ?_
  refine r_iload_n h 1 rfl rfl dL_addWork_4 ?_
  refine r_iload_n h 2 rfl rfl dL_addWork_5 ?_
  refine r_iload_n h 3 rfl rfl dL_addWork_6 ?_
  refine r_iload h 4 rfl dL_addWork_7 ?_
  refine r_iload h 5 rfl dL_addWork_9 ?_
  refine r_iload h 6 rfl dL_addWork_11 ?_
  obtain ⟨h1, hw⟩ := hw
  refine r_callV h (fun l => c_X9_addWork l _ _ _ _ _ _ _ _ _ _ hw) q752 q753 q754 q55 q755 nd_X9_addWork ⟨by decide, by decide⟩ rfl rfl ⟨by decide, by decide⟩ kci10 rfl h1 rfl (by first | decide | exact nl rfl) rfl dL_addWork_13 (fun E S9 he => ?_) (kI fun r2 S3 hw => ?_)
  · rcases he with ⟨rfl, hw⟩ | ⟨rfl, hw⟩
    · refine r_catch h (pre := []) (x := ⟨0, 18, 21, 13⟩) (suf := [⟨0, 18, 25, 15⟩]) rfl (fun _ h => absurd h List.not_mem_nil) (by first | decide | exact nl rfl) (by first | decide | exact nl rfl) q463 n475 (fun q9 => ?_)
      refine r_astore h [] (by decide) rfl dL_addWork_21 ?_
      refine r_iconst h (v := 1) (by decide) dL_addWork_23 ?_
      exact r_iret h hq rfl ⟨_, rfl, hw⟩ (by decide) (by decide) dL_addWork_24
    · refine r_catch h (pre := [⟨0, 18, 21, 13⟩]) (x := ⟨0, 18, 25, 15⟩) (suf := []) rfl (List.forall_mem_cons.mpr ⟨⟨by decide, _, q463, by decide +kernel⟩, (fun _ h => absurd h List.not_mem_nil)⟩) (by first | decide | exact nl rfl) (by first | decide | exact nl rfl) q464 n547 (fun q9 => ?_)
      refine r_astore h [] (by decide) rfl dL_addWork_25 ?_
      refine r_iconst h (v := 2) (by decide) dL_addWork_27 ?_
      exact r_iret h hq rfl ⟨_, rfl, hw⟩ (by decide) (by decide) dL_addWork_28
  · refine r_i2l h dL_addWork_16 ?_
    obtain ⟨h5, hw⟩ := hw
    obtain ⟨h6, hw⟩ := hw
    refine r_last h h5 h6 dL_addWork_17 ?_
    refine r_goto h 29 dL_addWork_18 (by decide) ?_
    refine r_iconst h (v := 0) (by decide) dL_addWork_29 ?_
    exact r_iret h hq rfl ⟨_, rfl, hw⟩ (by decide) (by decide) dL_addWork_30

def w_L_awayFor (S : St) (a0 : Nat) (x1 : Int32) (x2 : Int32) (a3 : Nat) (f : Int32 → St → Prop) : Prop := ok S a0 10 ∧ w_X9_awayFor S a0 x1 x2 (fun (r2 : Int32) (S3 : St) => ok S3 a3 103 ∧ vp_in 0 (sN S3 a3) ∧ let S7 : St := setJ S3 a3 (Int32.toNatClampNeg 0) (Int32.toInt64 r2); f 0 S7) (fun (E : String) (S3 : St) => (E = "java/lang/IndexOutOfBoundsException" ∧ f 1 S3) ∨ (E = "java/lang/IllegalArgumentException" ∧ f 2 S3) ∨ (E = "java/util/NoSuchElementException" ∧ f 3 S3))
set_option maxRecDepth 100000 in
set_option maxHeartbeats 4000000 in
theorem c_L_awayFor (l : Launch) (S : St) (a0 : Nat) (x1 : Int32) (x2 : Int32) (a3 : Nat) (f : Int32 → St → Prop) (hw : w_L_awayFor S a0 x1 x2 a3 f) : Ct l yL_awayFor (Cond.codeWith yL_awayFor cL_awayFor 5 (some .int) [(0, 10, 13, 21), (0, 10, 17, 13), (0, 10, 21, 49)]) { frames := 8, cells := 2, slots := 12, locals := 157 } 2 12 S [.ref a0, .int x1, .int x2, .ref a3] (pI f) nox := by
  refine entryW (by decide +kernel) rfl rfl (by first | decide | exact nl rfl) rfl ?_
  intro X h hq
  unfold w_L_awayFor at hw
  refine r_aload_n h 3 rfl rfl dL_awayFor_0 ?_
  refine r_iconst h (v := 0) (by decide) dL_awayFor_1 ?_
  refine r_aload_n h 0 rfl rfl dL_awayFor_2 ?_
  refine r_iload_n h 1 rfl rfl dL_awayFor_3 ?_
  refine r_iload_n h 2 rfl rfl dL_awayFor_4 ?_
  obtain ⟨h1, hw⟩ := hw
  refine r_callV h (fun l => c_X9_awayFor l _ _ _ _ _ _ hw) q1116 q1117 q1118 q55 q1119 nd_X9_awayFor ⟨by decide, by decide⟩ rfl rfl ⟨by decide, by decide⟩ kci10 rfl h1 rfl (by first | decide | exact nl rfl) rfl dL_awayFor_5 (fun E S9 he => ?_) (kI fun r2 S3 hw => ?_)
  · rcases he with ⟨rfl, hw⟩ | ⟨rfl, hw⟩ | ⟨rfl, hw⟩
    · refine r_catch h (pre := []) (x := ⟨0, 10, 13, 21⟩) (suf := [⟨0, 10, 17, 13⟩, ⟨0, 10, 21, 49⟩]) rfl (fun _ h => absurd h List.not_mem_nil) (by first | decide | exact nl rfl) (by first | decide | exact nl rfl) q667 n701 (fun q9 => ?_)
      refine r_astore h [] (by decide) rfl dL_awayFor_13 ?_
      refine r_iconst h (v := 1) (by decide) dL_awayFor_15 ?_
      exact r_iret h hq rfl ⟨_, rfl, hw⟩ (by decide) (by decide) dL_awayFor_16
    · refine r_catch h (pre := [⟨0, 10, 13, 21⟩]) (x := ⟨0, 10, 17, 13⟩) (suf := [⟨0, 10, 21, 49⟩]) rfl (List.forall_mem_cons.mpr ⟨⟨by decide, _, q667, by decide +kernel⟩, (fun _ h => absurd h List.not_mem_nil)⟩) (by first | decide | exact nl rfl) (by first | decide | exact nl rfl) q463 n475 (fun q9 => ?_)
      refine r_astore h [] (by decide) rfl dL_awayFor_17 ?_
      refine r_iconst h (v := 2) (by decide) dL_awayFor_19 ?_
      exact r_iret h hq rfl ⟨_, rfl, hw⟩ (by decide) (by decide) dL_awayFor_20
    · refine r_catch h (pre := [⟨0, 10, 13, 21⟩, ⟨0, 10, 17, 13⟩]) (x := ⟨0, 10, 21, 49⟩) (suf := []) rfl (List.forall_mem_cons.mpr ⟨⟨by decide, _, q667, by decide +kernel⟩, (List.forall_mem_cons.mpr ⟨⟨by decide, _, q463, by decide +kernel⟩, (fun _ h => absurd h List.not_mem_nil)⟩)⟩) (by first | decide | exact nl rfl) (by first | decide | exact nl rfl) q901 n912 (fun q9 => ?_)
      refine r_astore h [] (by decide) rfl dL_awayFor_21 ?_
      refine r_iconst h (v := 3) (by decide) dL_awayFor_23 ?_
      exact r_iret h hq rfl ⟨_, rfl, hw⟩ (by decide) (by decide) dL_awayFor_24
  · refine r_i2l h dL_awayFor_8 ?_
    obtain ⟨h5, hw⟩ := hw
    obtain ⟨h6, hw⟩ := hw
    refine r_last h h5 h6 dL_awayFor_9 ?_
    refine r_goto h 25 dL_awayFor_10 (by decide) ?_
    refine r_iconst h (v := 0) (by decide) dL_awayFor_25 ?_
    exact r_iret h hq rfl ⟨_, rfl, hw⟩ (by decide) (by decide) dL_awayFor_26

def w_L_canHang (S : St) (a0 : Nat) (x1 : Int32) (x2 : Int32) (a3 : Nat) (f : Int32 → St → Prop) : Prop := ok S a0 10 ∧ w_X9_canHang S a0 x1 x2 (fun (r2 : Int32) (S3 : St) => (((r2 = 0) → ok S3 a3 103 ∧ vp_in 0 (sN S3 a3) ∧ let S7 : St := setJ S3 a3 (Int32.toNatClampNeg 0) 0; f 0 S7) ∧ ((¬ r2 = 0) → ok S3 a3 103 ∧ vp_in 0 (sN S3 a3) ∧ let S10 : St := setJ S3 a3 (Int32.toNatClampNeg 0) 1; f 0 S10))) (fun (E : String) (S3 : St) => (E = "java/lang/IndexOutOfBoundsException" ∧ f 1 S3))
set_option maxRecDepth 100000 in
set_option maxHeartbeats 4000000 in
theorem c_L_canHang (l : Launch) (S : St) (a0 : Nat) (x1 : Int32) (x2 : Int32) (a3 : Nat) (f : Int32 → St → Prop) (hw : w_L_canHang S a0 x1 x2 a3 f) : Ct l yL_canHang (Cond.codeWith yL_canHang cL_canHang 5 (some .int) [(0, 17, 20, 21)]) { frames := 8, cells := 2, slots := 12, locals := 125 } 2 12 S [.ref a0, .int x1, .int x2, .ref a3] (pI f) nox := by
  refine entryW (by decide +kernel) rfl rfl (by first | decide | exact nl rfl) rfl ?_
  intro X h hq
  unfold w_L_canHang at hw
  refine r_aload_n h 3 rfl rfl dL_canHang_0 ?_
  refine r_iconst h (v := 0) (by decide) dL_canHang_1 ?_
  refine r_aload_n h 0 rfl rfl dL_canHang_2 ?_
  refine r_iload_n h 1 rfl rfl dL_canHang_3 ?_
  refine r_iload_n h 2 rfl rfl dL_canHang_4 ?_
  obtain ⟨h1, hw⟩ := hw
  refine r_callV h (fun l => c_X9_canHang l _ _ _ _ _ _ hw) q842 q843 q844 q55 q845 nd_X9_canHang ⟨by decide, by decide⟩ rfl rfl ⟨by decide, by decide⟩ kci10 rfl h1 rfl (by first | decide | exact nl rfl) rfl dL_canHang_5 (fun E S9 he => ?_) (kI fun r2 S3 hw => ?_)
  · rcases he with ⟨rfl, hw⟩
    · refine r_catch h (pre := []) (x := ⟨0, 17, 20, 21⟩) (suf := []) rfl (fun _ h => absurd h List.not_mem_nil) (by first | decide | exact nl rfl) (by first | decide | exact nl rfl) q667 n701 (fun q9 => ?_)
      refine r_astore h [] (by decide) rfl dL_canHang_20 ?_
      refine r_iconst h (v := 1) (by decide) dL_canHang_22 ?_
      exact r_iret h hq rfl ⟨_, rfl, hw⟩ (by decide) (by decide) dL_canHang_23
  · refine r_if_eq h 15 dL_canHang_8 (by decide) (fun hc => ?_) (fun hc => ?_)
    · replace hw := hw.1 hc
      refine r_lconst h (v := 0) (by decide) dL_canHang_15 ?_
      obtain ⟨h5, hw⟩ := hw
      obtain ⟨h6, hw⟩ := hw
      refine r_last h h5 h6 dL_canHang_16 ?_
      refine r_goto h 24 dL_canHang_17 (by decide) ?_
      refine r_iconst h (v := 0) (by decide) dL_canHang_24 ?_
      exact r_iret h hq rfl ⟨_, rfl, hw⟩ (by decide) (by decide) dL_canHang_25
    · replace hw := hw.2 hc
      refine r_lconst h (v := 1) (by decide) dL_canHang_11 ?_
      refine r_goto h 16 dL_canHang_12 (by decide) ?_
      obtain ⟨h8, hw⟩ := hw
      obtain ⟨h9, hw⟩ := hw
      refine r_last h h8 h9 dL_canHang_16 ?_
      refine r_goto h 24 dL_canHang_17 (by decide) ?_
      refine r_iconst h (v := 0) (by decide) dL_canHang_24 ?_
      exact r_iret h hq rfl ⟨_, rfl, hw⟩ (by decide) (by decide) dL_canHang_25

def w_L_canTake (S : St) (a0 : Nat) (x1 : Int32) (x2 : Int32) (a3 : Nat) (f : Int32 → St → Prop) : Prop := ok S a0 10 ∧ w_X9_canTake S a0 x1 x2 (fun (r2 : Int32) (S3 : St) => (((r2 = 0) → ok S3 a3 103 ∧ vp_in 0 (sN S3 a3) ∧ let S7 : St := setJ S3 a3 (Int32.toNatClampNeg 0) 0; f 0 S7) ∧ ((¬ r2 = 0) → ok S3 a3 103 ∧ vp_in 0 (sN S3 a3) ∧ let S10 : St := setJ S3 a3 (Int32.toNatClampNeg 0) 1; f 0 S10))) (fun (E : String) (S3 : St) => (E = "java/util/NoSuchElementException" ∧ f 1 S3) ∨ (E = "java/lang/IndexOutOfBoundsException" ∧ f 2 S3) ∨ (E = "java/lang/IllegalStateException" ∧ f 3 S3))
set_option maxRecDepth 100000 in
set_option maxHeartbeats 4000000 in
theorem c_L_canTake (l : Launch) (S : St) (a0 : Nat) (x1 : Int32) (x2 : Int32) (a3 : Nat) (f : Int32 → St → Prop) (hw : w_L_canTake S a0 x1 x2 a3 f) : Ct l yL_canTake (Cond.codeWith yL_canTake cL_canTake 5 (some .int) [(0, 17, 20, 49), (0, 17, 24, 21), (0, 17, 28, 15)]) { frames := 8, cells := 3, slots := 18, locals := 159 } 3 18 S [.ref a0, .int x1, .int x2, .ref a3] (pI f) nox := by
  refine entryW (by decide +kernel) rfl rfl (by first | decide | exact nl rfl) rfl ?_
  intro X h hq
  unfold w_L_canTake at hw
  refine r_aload_n h 3 rfl rfl dL_canTake_0 ?_
  refine r_iconst h (v := 0) (by decide) dL_canTake_1 ?_
  refine r_aload_n h 0 rfl rfl dL_canTake_2 ?_
  refine r_iload_n h 1 rfl rfl dL_canTake_3 ?_
  refine r_iload_n h 2 rfl rfl dL_canTake_4 ?_
  obtain ⟨h1, hw⟩ := hw
  refine r_callV h (fun l => c_X9_canTake l _ _ _ _ _ _ hw) q1004 q1005 q1006 q55 q1007 nd_X9_canTake ⟨by decide, by decide⟩ rfl rfl ⟨by decide, by decide⟩ kci10 rfl h1 rfl (by first | decide | exact nl rfl) rfl dL_canTake_5 (fun E S9 he => ?_) (kI fun r2 S3 hw => ?_)
  · rcases he with ⟨rfl, hw⟩ | ⟨rfl, hw⟩ | ⟨rfl, hw⟩
    · refine r_catch h (pre := []) (x := ⟨0, 17, 20, 49⟩) (suf := [⟨0, 17, 24, 21⟩, ⟨0, 17, 28, 15⟩]) rfl (fun _ h => absurd h List.not_mem_nil) (by first | decide | exact nl rfl) (by first | decide | exact nl rfl) q901 n912 (fun q9 => ?_)
      refine r_astore h [] (by decide) rfl dL_canTake_20 ?_
      refine r_iconst h (v := 1) (by decide) dL_canTake_22 ?_
      exact r_iret h hq rfl ⟨_, rfl, hw⟩ (by decide) (by decide) dL_canTake_23
    · refine r_catch h (pre := [⟨0, 17, 20, 49⟩]) (x := ⟨0, 17, 24, 21⟩) (suf := [⟨0, 17, 28, 15⟩]) rfl (List.forall_mem_cons.mpr ⟨⟨by decide, _, q901, by decide +kernel⟩, (fun _ h => absurd h List.not_mem_nil)⟩) (by first | decide | exact nl rfl) (by first | decide | exact nl rfl) q667 n701 (fun q9 => ?_)
      refine r_astore h [] (by decide) rfl dL_canTake_24 ?_
      refine r_iconst h (v := 2) (by decide) dL_canTake_26 ?_
      exact r_iret h hq rfl ⟨_, rfl, hw⟩ (by decide) (by decide) dL_canTake_27
    · refine r_catch h (pre := [⟨0, 17, 20, 49⟩, ⟨0, 17, 24, 21⟩]) (x := ⟨0, 17, 28, 15⟩) (suf := []) rfl (List.forall_mem_cons.mpr ⟨⟨by decide, _, q901, by decide +kernel⟩, (List.forall_mem_cons.mpr ⟨⟨by decide, _, q667, by decide +kernel⟩, (fun _ h => absurd h List.not_mem_nil)⟩)⟩) (by first | decide | exact nl rfl) (by first | decide | exact nl rfl) q464 n547 (fun q9 => ?_)
      refine r_astore h [] (by decide) rfl dL_canTake_28 ?_
      refine r_iconst h (v := 3) (by decide) dL_canTake_30 ?_
      exact r_iret h hq rfl ⟨_, rfl, hw⟩ (by decide) (by decide) dL_canTake_31
  · refine r_if_eq h 15 dL_canTake_8 (by decide) (fun hc => ?_) (fun hc => ?_)
    · replace hw := hw.1 hc
      refine r_lconst h (v := 0) (by decide) dL_canTake_15 ?_
      obtain ⟨h5, hw⟩ := hw
      obtain ⟨h6, hw⟩ := hw
      refine r_last h h5 h6 dL_canTake_16 ?_
      refine r_goto h 32 dL_canTake_17 (by decide) ?_
      refine r_iconst h (v := 0) (by decide) dL_canTake_32 ?_
      exact r_iret h hq rfl ⟨_, rfl, hw⟩ (by decide) (by decide) dL_canTake_33
    · replace hw := hw.2 hc
      refine r_lconst h (v := 1) (by decide) dL_canTake_11 ?_
      refine r_goto h 16 dL_canTake_12 (by decide) ?_
      obtain ⟨h8, hw⟩ := hw
      obtain ⟨h9, hw⟩ := hw
      refine r_last h h8 h9 dL_canTake_16 ?_
      refine r_goto h 32 dL_canTake_17 (by decide) ?_
      refine r_iconst h (v := 0) (by decide) dL_canTake_32 ?_
      exact r_iret h hq rfl ⟨_, rfl, hw⟩ (by decide) (by decide) dL_canTake_33

def w_L_cancel (S : St) (a0 : Nat) (x1 : Int32) (a2 : Nat) (f : Int32 → St → Prop) : Prop := ok S a0 10 ∧ w_X9_cancel S a0 x1 (fun (r2 : Int32) (S3 : St) => ok S3 a2 103 ∧ vp_in 0 (sN S3 a2) ∧ let S7 : St := setJ S3 a2 (Int32.toNatClampNeg 0) (Int32.toInt64 r2); f 0 S7) (fun (E : String) (S3 : St) => (E = "java/util/NoSuchElementException" ∧ f 1 S3) ∨ (E = "java/lang/IllegalStateException" ∧ f 2 S3))
set_option maxRecDepth 100000 in
set_option maxHeartbeats 4000000 in
theorem c_L_cancel (l : Launch) (S : St) (a0 : Nat) (x1 : Int32) (a2 : Nat) (f : Int32 → St → Prop) (hw : w_L_cancel S a0 x1 a2 f) : Ct l yL_cancel (Cond.codeWith yL_cancel cL_cancel 4 (some .int) [(0, 9, 12, 49), (0, 9, 15, 15)]) { frames := 14, cells := 2, slots := 12, locals := 309 } 2 12 S [.ref a0, .int x1, .ref a2] (pI f) nox := by
  refine entryW (by decide +kernel) rfl rfl (by first | decide | exact nl rfl) rfl ?_
  intro X h hq
  unfold w_L_cancel at hw
  refine r_aload_n h 2 rfl rfl dL_cancel_0 ?_
  refine r_iconst h (v := 0) (by decide) dL_cancel_1 ?_
  refine r_aload_n h 0 rfl rfl dL_cancel_2 ?_
  refine r_iload_n h 1 rfl rfl dL_cancel_3 ?_
  obtain ⟨h1, hw⟩ := hw
  refine r_callV h (fun l => c_X9_cancel l _ _ _ _ _ hw) q961 q962 q963 q55 q964 nd_X9_cancel ⟨by decide, by decide⟩ rfl rfl ⟨by decide, by decide⟩ kci10 rfl h1 rfl (by first | decide | exact nl rfl) rfl dL_cancel_4 (fun E S9 he => ?_) (kI fun r2 S3 hw => ?_)
  · rcases he with ⟨rfl, hw⟩ | ⟨rfl, hw⟩
    · refine r_catch h (pre := []) (x := ⟨0, 9, 12, 49⟩) (suf := [⟨0, 9, 15, 15⟩]) rfl (fun _ h => absurd h List.not_mem_nil) (by first | decide | exact nl rfl) (by first | decide | exact nl rfl) q901 n912 (fun q9 => ?_)
      refine r_astore_n h [] rfl (by decide) rfl dL_cancel_12 ?_
      refine r_iconst h (v := 1) (by decide) dL_cancel_13 ?_
      exact r_iret h hq rfl ⟨_, rfl, hw⟩ (by decide) (by decide) dL_cancel_14
    · refine r_catch h (pre := [⟨0, 9, 12, 49⟩]) (x := ⟨0, 9, 15, 15⟩) (suf := []) rfl (List.forall_mem_cons.mpr ⟨⟨by decide, _, q901, by decide +kernel⟩, (fun _ h => absurd h List.not_mem_nil)⟩) (by first | decide | exact nl rfl) (by first | decide | exact nl rfl) q464 n547 (fun q9 => ?_)
      refine r_astore_n h [] rfl (by decide) rfl dL_cancel_15 ?_
      refine r_iconst h (v := 2) (by decide) dL_cancel_16 ?_
      exact r_iret h hq rfl ⟨_, rfl, hw⟩ (by decide) (by decide) dL_cancel_17
  · refine r_i2l h dL_cancel_7 ?_
    obtain ⟨h5, hw⟩ := hw
    obtain ⟨h6, hw⟩ := hw
    refine r_last h h5 h6 dL_cancel_8 ?_
    refine r_goto h 18 dL_cancel_9 (by decide) ?_
    refine r_iconst h (v := 0) (by decide) dL_cancel_18 ?_
    exact r_iret h hq rfl ⟨_, rfl, hw⟩ (by decide) (by decide) dL_cancel_19

def w_L_hanging (S : St) (a0 : Nat) (x1 : Int32) (x2 : Int32) (a3 : Nat) (f : Int32 → St → Prop) : Prop := ok S a0 10 ∧ w_X9_hanging S a0 x1 x2 (fun (r2 : Int32) (S3 : St) => ok S3 a3 103 ∧ vp_in 0 (sN S3 a3) ∧ let S7 : St := setJ S3 a3 (Int32.toNatClampNeg 0) (Int32.toInt64 r2); f 0 S7) (fun (E : String) (S3 : St) => (E = "java/lang/IndexOutOfBoundsException" ∧ f 1 S3) ∨ (E = "java/lang/IllegalArgumentException" ∧ f 2 S3))
set_option maxRecDepth 100000 in
set_option maxHeartbeats 4000000 in
theorem c_L_hanging (l : Launch) (S : St) (a0 : Nat) (x1 : Int32) (x2 : Int32) (a3 : Nat) (f : Int32 → St → Prop) (hw : w_L_hanging S a0 x1 x2 a3 f) : Ct l yL_hanging (Cond.codeWith yL_hanging cL_hanging 5 (some .int) [(0, 10, 13, 21), (0, 10, 17, 13)]) { frames := 8, cells := 1, slots := 6, locals := 126 } 1 6 S [.ref a0, .int x1, .int x2, .ref a3] (pI f) nox := by
  refine entryW (by decide +kernel) rfl rfl (by first | decide | exact nl rfl) rfl ?_
  intro X h hq
  unfold w_L_hanging at hw
  refine r_aload_n h 3 rfl rfl dL_hanging_0 ?_
  refine r_iconst h (v := 0) (by decide) dL_hanging_1 ?_
  refine r_aload_n h 0 rfl rfl dL_hanging_2 ?_
  refine r_iload_n h 1 rfl rfl dL_hanging_3 ?_
  refine r_iload_n h 2 rfl rfl dL_hanging_4 ?_
  obtain ⟨h1, hw⟩ := hw
  refine r_callV h (fun l => c_X9_hanging l _ _ _ _ _ _ hw) q1101 q1102 q1103 q55 q1104 nd_X9_hanging ⟨by decide, by decide⟩ rfl rfl ⟨by decide, by decide⟩ kci10 rfl h1 rfl (by first | decide | exact nl rfl) rfl dL_hanging_5 (fun E S9 he => ?_) (kI fun r2 S3 hw => ?_)
  · rcases he with ⟨rfl, hw⟩ | ⟨rfl, hw⟩
    · refine r_catch h (pre := []) (x := ⟨0, 10, 13, 21⟩) (suf := [⟨0, 10, 17, 13⟩]) rfl (fun _ h => absurd h List.not_mem_nil) (by first | decide | exact nl rfl) (by first | decide | exact nl rfl) q667 n701 (fun q9 => ?_)
      refine r_astore h [] (by decide) rfl dL_hanging_13 ?_
      refine r_iconst h (v := 1) (by decide) dL_hanging_15 ?_
      exact r_iret h hq rfl ⟨_, rfl, hw⟩ (by decide) (by decide) dL_hanging_16
    · refine r_catch h (pre := [⟨0, 10, 13, 21⟩]) (x := ⟨0, 10, 17, 13⟩) (suf := []) rfl (List.forall_mem_cons.mpr ⟨⟨by decide, _, q667, by decide +kernel⟩, (fun _ h => absurd h List.not_mem_nil)⟩) (by first | decide | exact nl rfl) (by first | decide | exact nl rfl) q463 n475 (fun q9 => ?_)
      refine r_astore h [] (by decide) rfl dL_hanging_17 ?_
      refine r_iconst h (v := 2) (by decide) dL_hanging_19 ?_
      exact r_iret h hq rfl ⟨_, rfl, hw⟩ (by decide) (by decide) dL_hanging_20
  · refine r_i2l h dL_hanging_8 ?_
    obtain ⟨h5, hw⟩ := hw
    obtain ⟨h6, hw⟩ := hw
    refine r_last h h5 h6 dL_hanging_9 ?_
    refine r_goto h 21 dL_hanging_10 (by decide) ?_
    refine r_iconst h (v := 0) (by decide) dL_hanging_21 ?_
    exact r_iret h hq rfl ⟨_, rfl, hw⟩ (by decide) (by decide) dL_hanging_22

def w_L_include (S : St) (a0 : Nat) (x1 : Int32) (x2 : Int32) (a3 : Nat) (f : Int32 → St → Prop) : Prop := ok S a0 10 ∧ w_X9_include S a0 x1 x2 (fun (r2 : Int32) (S3 : St) => ok S3 a3 103 ∧ vp_in 0 (sN S3 a3) ∧ let S7 : St := setJ S3 a3 (Int32.toNatClampNeg 0) (Int32.toInt64 r2); f 0 S7) (fun (E : String) (S3 : St) => (E = "java/util/NoSuchElementException" ∧ f 1 S3) ∨ (E = "java/lang/IndexOutOfBoundsException" ∧ f 2 S3) ∨ (E = "java/lang/IllegalStateException" ∧ f 3 S3))
set_option maxRecDepth 100000 in
set_option maxHeartbeats 4000000 in
theorem c_L_include (l : Launch) (S : St) (a0 : Nat) (x1 : Int32) (x2 : Int32) (a3 : Nat) (f : Int32 → St → Prop) (hw : w_L_include S a0 x1 x2 a3 f) : Ct l yL_include (Cond.codeWith yL_include cL_include 5 (some .int) [(0, 10, 13, 49), (0, 10, 17, 21), (0, 10, 21, 15)]) { frames := 8, cells := 3, slots := 32, locals := 215 } 3 32 S [.ref a0, .int x1, .int x2, .ref a3] (pI f) nox := by
  refine entryW (by decide +kernel) rfl rfl (by first | decide | exact nl rfl) rfl ?_
  intro X h hq
  unfold w_L_include at hw
  refine r_aload_n h 3 rfl rfl dL_include_0 ?_
  refine r_iconst h (v := 0) (by decide) dL_include_1 ?_
  refine r_aload_n h 0 rfl rfl dL_include_2 ?_
  refine r_iload_n h 1 rfl rfl dL_include_3 ?_
  refine r_iload_n h 2 rfl rfl dL_include_4 ?_
  obtain ⟨h1, hw⟩ := hw
  refine r_callV h (fun l => c_X9_include l _ _ _ _ _ _ hw) q902 q903 q904 q55 q905 nd_X9_include ⟨by decide, by decide⟩ rfl rfl ⟨by decide, by decide⟩ kci10 rfl h1 rfl (by first | decide | exact nl rfl) rfl dL_include_5 (fun E S9 he => ?_) (kI fun r2 S3 hw => ?_)
  · rcases he with ⟨rfl, hw⟩ | ⟨rfl, hw⟩ | ⟨rfl, hw⟩
    · refine r_catch h (pre := []) (x := ⟨0, 10, 13, 49⟩) (suf := [⟨0, 10, 17, 21⟩, ⟨0, 10, 21, 15⟩]) rfl (fun _ h => absurd h List.not_mem_nil) (by first | decide | exact nl rfl) (by first | decide | exact nl rfl) q901 n912 (fun q9 => ?_)
      refine r_astore h [] (by decide) rfl dL_include_13 ?_
      refine r_iconst h (v := 1) (by decide) dL_include_15 ?_
      exact r_iret h hq rfl ⟨_, rfl, hw⟩ (by decide) (by decide) dL_include_16
    · refine r_catch h (pre := [⟨0, 10, 13, 49⟩]) (x := ⟨0, 10, 17, 21⟩) (suf := [⟨0, 10, 21, 15⟩]) rfl (List.forall_mem_cons.mpr ⟨⟨by decide, _, q901, by decide +kernel⟩, (fun _ h => absurd h List.not_mem_nil)⟩) (by first | decide | exact nl rfl) (by first | decide | exact nl rfl) q667 n701 (fun q9 => ?_)
      refine r_astore h [] (by decide) rfl dL_include_17 ?_
      refine r_iconst h (v := 2) (by decide) dL_include_19 ?_
      exact r_iret h hq rfl ⟨_, rfl, hw⟩ (by decide) (by decide) dL_include_20
    · refine r_catch h (pre := [⟨0, 10, 13, 49⟩, ⟨0, 10, 17, 21⟩]) (x := ⟨0, 10, 21, 15⟩) (suf := []) rfl (List.forall_mem_cons.mpr ⟨⟨by decide, _, q901, by decide +kernel⟩, (List.forall_mem_cons.mpr ⟨⟨by decide, _, q667, by decide +kernel⟩, (fun _ h => absurd h List.not_mem_nil)⟩)⟩) (by first | decide | exact nl rfl) (by first | decide | exact nl rfl) q464 n547 (fun q9 => ?_)
      refine r_astore h [] (by decide) rfl dL_include_21 ?_
      refine r_iconst h (v := 3) (by decide) dL_include_23 ?_
      exact r_iret h hq rfl ⟨_, rfl, hw⟩ (by decide) (by decide) dL_include_24
  · refine r_i2l h dL_include_8 ?_
    obtain ⟨h5, hw⟩ := hw
    obtain ⟨h6, hw⟩ := hw
    refine r_last h h5 h6 dL_include_9 ?_
    refine r_goto h 25 dL_include_10 (by decide) ?_
    refine r_iconst h (v := 0) (by decide) dL_include_25 ?_
    exact r_iret h hq rfl ⟨_, rfl, hw⟩ (by decide) (by decide) dL_include_26

def w_L_meanWorks (S : St) (a0 : Nat) (a1 : Nat) (f : Int32 → St → Prop) : Prop := ok S a0 10 ∧ w_X9_meanWorks S a0 (fun (r2 : UInt64) (S3 : St) => ok S3 a1 104 ∧ vp_in 0 (sN S3 a1) ∧ let S7 : St := setE S3 a1 (Int32.toNatClampNeg 0) r2; f 0 S7) (fun (E : String) (S3 : St) => (E = "java/lang/ArithmeticException" ∧ f 1 S3))
set_option maxRecDepth 100000 in
set_option maxHeartbeats 4000000 in
theorem c_L_meanWorks (l : Launch) (S : St) (a0 : Nat) (a1 : Nat) (f : Int32 → St → Prop) (hw : w_L_meanWorks S a0 a1 f) : Ct l yL_meanWorks (Cond.codeWith yL_meanWorks cL_meanWorks 3 (some .int) [(0, 7, 10, 101)]) { frames := 7, cells := 1, slots := 6, locals := 107 } 1 6 S [.ref a0, .ref a1] (pI f) nox := by
  refine entryW (by decide +kernel) rfl rfl (by first | decide | exact nl rfl) rfl ?_
  intro X h hq
  unfold w_L_meanWorks at hw
  refine r_aload_n h 1 rfl rfl dL_meanWorks_0 ?_
  refine r_iconst h (v := 0) (by decide) dL_meanWorks_1 ?_
  refine r_aload_n h 0 rfl rfl dL_meanWorks_2 ?_
  obtain ⟨h1, hw⟩ := hw
  refine r_callV h (fun l => c_X9_meanWorks l _ _ _ _ hw) q1143 q1144 q1145 q55 q1146 nd_X9_meanWorks ⟨by decide, by decide⟩ rfl rfl ⟨by decide, by decide⟩ kci10 rfl h1 rfl (by first | decide | exact nl rfl) rfl dL_meanWorks_3 (fun E S9 he => ?_) (kD fun r2 S3 hw => ?_)
  · rcases he with ⟨rfl, hw⟩
    · refine r_catch h (pre := []) (x := ⟨0, 7, 10, 101⟩) (suf := []) rfl (fun _ h => absurd h List.not_mem_nil) (by first | decide | exact nl rfl) (by first | decide | exact nl rfl) q1129 n1141 (fun q9 => ?_)
      refine r_astore_n h [] rfl (by decide) rfl dL_meanWorks_10 ?_
      refine r_iconst h (v := 1) (by decide) dL_meanWorks_11 ?_
      exact r_iret h hq rfl ⟨_, rfl, hw⟩ (by decide) (by decide) dL_meanWorks_12
  · obtain ⟨h5, hw⟩ := hw
    obtain ⟨h6, hw⟩ := hw
    refine r_dast h h5 h6 dL_meanWorks_6 ?_
    refine r_goto h 13 dL_meanWorks_7 (by decide) ?_
    refine r_iconst h (v := 0) (by decide) dL_meanWorks_13 ?_
    exact r_iret h hq rfl ⟨_, rfl, hw⟩ (by decide) (by decide) dL_meanWorks_14

def w_L_request (S : St) (a0 : Nat) (x1 : Int32) (a2 : Nat) (f : Int32 → St → Prop) : Prop := ok S a0 10 ∧ w_X9_request S a0 x1 (fun (r2 : Int32) (S3 : St) => ok S3 a2 103 ∧ vp_in 0 (sN S3 a2) ∧ let S7 : St := setJ S3 a2 (Int32.toNatClampNeg 0) (Int32.toInt64 r2); f 0 S7) (fun (E : String) (S3 : St) => (E = "java/util/NoSuchElementException" ∧ f 1 S3) ∨ (E = "java/lang/IllegalStateException" ∧ f 2 S3) ∨ (E = "java/lang/UnsupportedOperationException" ∧ f 3 S3))
set_option maxRecDepth 100000 in
set_option maxHeartbeats 4000000 in
theorem c_L_request (l : Launch) (S : St) (a0 : Nat) (x1 : Int32) (a2 : Nat) (f : Int32 → St → Prop) (hw : w_L_request S a0 x1 a2 f) : Ct l yL_request (Cond.codeWith yL_request cL_request 4 (some .int) [(0, 9, 12, 49), (0, 9, 15, 15), (0, 9, 18, 55)]) { frames := 13, cells := 2, slots := 12, locals := 286 } 2 12 S [.ref a0, .int x1, .ref a2] (pI f) nox := by
  refine entryW (by decide +kernel) rfl rfl (by first | decide | exact nl rfl) rfl ?_
  intro X h hq
  unfold w_L_request at hw
  refine r_aload_n h 2 rfl rfl dL_request_0 ?_
  refine r_iconst h (v := 0) (by decide) dL_request_1 ?_
  refine r_aload_n h 0 rfl rfl dL_request_2 ?_
  refine r_iload_n h 1 rfl rfl dL_request_3 ?_
  obtain ⟨h1, hw⟩ := hw
  refine r_callV h (fun l => c_X9_request l _ _ _ _ _ hw) q934 q935 q936 q55 q937 nd_X9_request ⟨by decide, by decide⟩ rfl rfl ⟨by decide, by decide⟩ kci10 rfl h1 rfl (by first | decide | exact nl rfl) rfl dL_request_4 (fun E S9 he => ?_) (kI fun r2 S3 hw => ?_)
  · rcases he with ⟨rfl, hw⟩ | ⟨rfl, hw⟩ | ⟨rfl, hw⟩
    · refine r_catch h (pre := []) (x := ⟨0, 9, 12, 49⟩) (suf := [⟨0, 9, 15, 15⟩, ⟨0, 9, 18, 55⟩]) rfl (fun _ h => absurd h List.not_mem_nil) (by first | decide | exact nl rfl) (by first | decide | exact nl rfl) q901 n912 (fun q9 => ?_)
      refine r_astore_n h [] rfl (by decide) rfl dL_request_12 ?_
      refine r_iconst h (v := 1) (by decide) dL_request_13 ?_
      exact r_iret h hq rfl ⟨_, rfl, hw⟩ (by decide) (by decide) dL_request_14
    · refine r_catch h (pre := [⟨0, 9, 12, 49⟩]) (x := ⟨0, 9, 15, 15⟩) (suf := [⟨0, 9, 18, 55⟩]) rfl (List.forall_mem_cons.mpr ⟨⟨by decide, _, q901, by decide +kernel⟩, (fun _ h => absurd h List.not_mem_nil)⟩) (by first | decide | exact nl rfl) (by first | decide | exact nl rfl) q464 n547 (fun q9 => ?_)
      refine r_astore_n h [] rfl (by decide) rfl dL_request_15 ?_
      refine r_iconst h (v := 2) (by decide) dL_request_16 ?_
      exact r_iret h hq rfl ⟨_, rfl, hw⟩ (by decide) (by decide) dL_request_17
    · refine r_catch h (pre := [⟨0, 9, 12, 49⟩, ⟨0, 9, 15, 15⟩]) (x := ⟨0, 9, 18, 55⟩) (suf := []) rfl (List.forall_mem_cons.mpr ⟨⟨by decide, _, q901, by decide +kernel⟩, (List.forall_mem_cons.mpr ⟨⟨by decide, _, q464, by decide +kernel⟩, (fun _ h => absurd h List.not_mem_nil)⟩)⟩) (by first | decide | exact nl rfl) (by first | decide | exact nl rfl) q933 n944 (fun q9 => ?_)
      refine r_astore_n h [] rfl (by decide) rfl dL_request_18 ?_
      refine r_iconst h (v := 3) (by decide) dL_request_19 ?_
      exact r_iret h hq rfl ⟨_, rfl, hw⟩ (by decide) (by decide) dL_request_20
  · refine r_i2l h dL_request_7 ?_
    obtain ⟨h5, hw⟩ := hw
    obtain ⟨h6, hw⟩ := hw
    refine r_last h h5 h6 dL_request_8 ?_
    refine r_goto h 21 dL_request_9 (by decide) ?_
    refine r_iconst h (v := 0) (by decide) dL_request_21 ?_
    exact r_iret h hq rfl ⟨_, rfl, hw⟩ (by decide) (by decide) dL_request_22

def w_L_separate (S : St) (a0 : Nat) (x1 : Int32) (x2 : Int32) (x3 : Int32) (a4 : Nat) (f : Int32 → St → Prop) : Prop := ok S a0 10 ∧ w_X9_separate S a0 x1 x2 x3 (fun (r2 : Int32) (S3 : St) => ok S3 a4 103 ∧ vp_in 0 (sN S3 a4) ∧ let S7 : St := setJ S3 a4 (Int32.toNatClampNeg 0) (Int32.toInt64 r2); f 0 S7) (fun (E : String) (S3 : St) => (E = "java/lang/IndexOutOfBoundsException" ∧ f 1 S3) ∨ (E = "java/lang/IllegalArgumentException" ∧ f 2 S3) ∨ (E = "java/lang/IllegalStateException" ∧ f 3 S3))
set_option maxRecDepth 100000 in
set_option maxHeartbeats 4000000 in
theorem c_L_separate (l : Launch) (S : St) (a0 : Nat) (x1 : Int32) (x2 : Int32) (x3 : Int32) (a4 : Nat) (f : Int32 → St → Prop) (hw : w_L_separate S a0 x1 x2 x3 a4 f) : Ct l yL_separate (Cond.codeWith yL_separate cL_separate 6 (some .int) [(0, 12, 15, 21), (0, 12, 19, 13), (0, 12, 23, 15)]) { frames := 14, cells := 3, slots := 18, locals := 312 } 3 18 S [.ref a0, .int x1, .int x2, .int x3, .ref a4] (pI f) nox := by
  refine entryW (by decide +kernel) rfl rfl (by first | decide | exact nl rfl) rfl ?_
  intro X h hq
  unfold w_L_separate at hw
  refine r_aload h 4 rfl dL_separate_0 ?_
  refine r_iconst h (v := 0) (by decide) dL_separate_2 ?_
  refine r_aload_n h 0 rfl rfl dL_separate_3 ?_
  refine r_iload_n h 1 rfl rfl dL_separate_4 ?_
  refine r_iload_n h 2 rfl rfl dL_separate_5 ?_
  refine r_iload_n h 3 rfl rfl dL_separate_6 ?_
  obtain ⟨h1, hw⟩ := hw
  refine r_callV h (fun l => c_X9_separate l _ _ _ _ _ _ _ hw) q798 q799 q800 q55 q801 nd_X9_separate ⟨by decide, by decide⟩ rfl rfl ⟨by decide, by decide⟩ kci10 rfl h1 rfl (by first | decide | exact nl rfl) rfl dL_separate_7 (fun E S9 he => ?_) (kI fun r2 S3 hw => ?_)
  · rcases he with ⟨rfl, hw⟩ | ⟨rfl, hw⟩ | ⟨rfl, hw⟩
    · refine r_catch h (pre := []) (x := ⟨0, 12, 15, 21⟩) (suf := [⟨0, 12, 19, 13⟩, ⟨0, 12, 23, 15⟩]) rfl (fun _ h => absurd h List.not_mem_nil) (by first | decide | exact nl rfl) (by first | decide | exact nl rfl) q667 n701 (fun q9 => ?_)
      refine r_astore h [] (by decide) rfl dL_separate_15 ?_
      refine r_iconst h (v := 1) (by decide) dL_separate_17 ?_
      exact r_iret h hq rfl ⟨_, rfl, hw⟩ (by decide) (by decide) dL_separate_18
    · refine r_catch h (pre := [⟨0, 12, 15, 21⟩]) (x := ⟨0, 12, 19, 13⟩) (suf := [⟨0, 12, 23, 15⟩]) rfl (List.forall_mem_cons.mpr ⟨⟨by decide, _, q667, by decide +kernel⟩, (fun _ h => absurd h List.not_mem_nil)⟩) (by first | decide | exact nl rfl) (by first | decide | exact nl rfl) q463 n475 (fun q9 => ?_)
      refine r_astore h [] (by decide) rfl dL_separate_19 ?_
      refine r_iconst h (v := 2) (by decide) dL_separate_21 ?_
      exact r_iret h hq rfl ⟨_, rfl, hw⟩ (by decide) (by decide) dL_separate_22
    · refine r_catch h (pre := [⟨0, 12, 15, 21⟩, ⟨0, 12, 19, 13⟩]) (x := ⟨0, 12, 23, 15⟩) (suf := []) rfl (List.forall_mem_cons.mpr ⟨⟨by decide, _, q667, by decide +kernel⟩, (List.forall_mem_cons.mpr ⟨⟨by decide, _, q463, by decide +kernel⟩, (fun _ h => absurd h List.not_mem_nil)⟩)⟩) (by first | decide | exact nl rfl) (by first | decide | exact nl rfl) q464 n547 (fun q9 => ?_)
      refine r_astore h [] (by decide) rfl dL_separate_23 ?_
      refine r_iconst h (v := 3) (by decide) dL_separate_25 ?_
      exact r_iret h hq rfl ⟨_, rfl, hw⟩ (by decide) (by decide) dL_separate_26
  · refine r_i2l h dL_separate_10 ?_
    obtain ⟨h5, hw⟩ := hw
    obtain ⟨h6, hw⟩ := hw
    refine r_last h h5 h6 dL_separate_11 ?_
    refine r_goto h 27 dL_separate_12 (by decide) ?_
    refine r_iconst h (v := 0) (by decide) dL_separate_27 ?_
    exact r_iret h hq rfl ⟨_, rfl, hw⟩ (by decide) (by decide) dL_separate_28

def w_L_separation (S : St) (a0 : Nat) (x1 : Int32) (x2 : Int32) (a3 : Nat) (f : Int32 → St → Prop) : Prop := ok S a0 10 ∧ w_X9_separation S a0 x1 x2 (fun (r2 : Int32) (S3 : St) => ok S3 a3 103 ∧ vp_in 0 (sN S3 a3) ∧ let S7 : St := setJ S3 a3 (Int32.toNatClampNeg 0) (Int32.toInt64 r2); f 0 S7) (fun (E : String) (S3 : St) => (E = "java/lang/IndexOutOfBoundsException" ∧ f 1 S3))
set_option maxRecDepth 100000 in
set_option maxHeartbeats 4000000 in
theorem c_L_separation (l : Launch) (S : St) (a0 : Nat) (x1 : Int32) (x2 : Int32) (a3 : Nat) (f : Int32 → St → Prop) (hw : w_L_separation S a0 x1 x2 a3 f) : Ct l yL_separation (Cond.codeWith yL_separation cL_separation 5 (some .int) [(0, 10, 13, 21)]) { frames := 8, cells := 2, slots := 12, locals := 127 } 2 12 S [.ref a0, .int x1, .int x2, .ref a3] (pI f) nox := by
  refine entryW (by decide +kernel) rfl rfl (by first | decide | exact nl rfl) rfl ?_
  intro X h hq
  unfold w_L_separation at hw
  refine r_aload_n h 3 rfl rfl dL_separation_0 ?_
  refine r_iconst h (v := 0) (by decide) dL_separation_1 ?_
  refine r_aload_n h 0 rfl rfl dL_separation_2 ?_
  refine r_iload_n h 1 rfl rfl dL_separation_3 ?_
  refine r_iload_n h 2 rfl rfl dL_separation_4 ?_
  obtain ⟨h1, hw⟩ := hw
  refine r_callV h (fun l => c_X9_separation l _ _ _ _ _ _ hw) q834 q835 q836 q55 q837 nd_X9_separation ⟨by decide, by decide⟩ rfl rfl ⟨by decide, by decide⟩ kci10 rfl h1 rfl (by first | decide | exact nl rfl) rfl dL_separation_5 (fun E S9 he => ?_) (kI fun r2 S3 hw => ?_)
  · rcases he with ⟨rfl, hw⟩
    · refine r_catch h (pre := []) (x := ⟨0, 10, 13, 21⟩) (suf := []) rfl (fun _ h => absurd h List.not_mem_nil) (by first | decide | exact nl rfl) (by first | decide | exact nl rfl) q667 n701 (fun q9 => ?_)
      refine r_astore h [] (by decide) rfl dL_separation_13 ?_
      refine r_iconst h (v := 1) (by decide) dL_separation_15 ?_
      exact r_iret h hq rfl ⟨_, rfl, hw⟩ (by decide) (by decide) dL_separation_16
  · refine r_i2l h dL_separation_8 ?_
    obtain ⟨h5, hw⟩ := hw
    obtain ⟨h6, hw⟩ := hw
    refine r_last h h5 h6 dL_separation_9 ?_
    refine r_goto h 17 dL_separation_10 (by decide) ?_
    refine r_iconst h (v := 0) (by decide) dL_separation_17 ?_
    exact r_iret h hq rfl ⟨_, rfl, hw⟩ (by decide) (by decide) dL_separation_18

def w_L_setClimate (S : St) (a0 : Nat) (x1 : Int32) (x2 : Int32) (x3 : Int32) (a4 : Nat) (f : Int32 → St → Prop) : Prop := ok S a0 10 ∧ w_X9_setClimate S a0 x1 x2 x3 (fun (r2 : Int32) (S3 : St) => ok S3 a4 103 ∧ vp_in 0 (sN S3 a4) ∧ let S7 : St := setJ S3 a4 (Int32.toNatClampNeg 0) (Int32.toInt64 r2); f 0 S7) (fun (E : String) (S3 : St) => (E = "java/lang/IndexOutOfBoundsException" ∧ f 1 S3) ∨ (E = "java/lang/IllegalArgumentException" ∧ f 2 S3))
set_option maxRecDepth 100000 in
set_option maxHeartbeats 4000000 in
theorem c_L_setClimate (l : Launch) (S : St) (a0 : Nat) (x1 : Int32) (x2 : Int32) (x3 : Int32) (a4 : Nat) (f : Int32 → St → Prop) (hw : w_L_setClimate S a0 x1 x2 x3 a4 f) : Ct l yL_setClimate (Cond.codeWith yL_setClimate cL_setClimate 6 (some .int) [(0, 12, 15, 21), (0, 12, 19, 13)]) { frames := 14, cells := 2, slots := 12, locals := 312 } 2 12 S [.ref a0, .int x1, .int x2, .int x3, .ref a4] (pI f) nox := by
  refine entryW (by decide +kernel) rfl rfl (by first | decide | exact nl rfl) rfl ?_
  intro X h hq
  unfold w_L_setClimate at hw
  refine r_aload h 4 rfl dL_setClimate_0 ?_
  refine r_iconst h (v := 0) (by decide) dL_setClimate_2 ?_
  refine r_aload_n h 0 rfl rfl dL_setClimate_3 ?_
  refine r_iload_n h 1 rfl rfl dL_setClimate_4 ?_
  refine r_iload_n h 2 rfl rfl dL_setClimate_5 ?_
  refine r_iload_n h 3 rfl rfl dL_setClimate_6 ?_
  obtain ⟨h1, hw⟩ := hw
  refine r_callV h (fun l => c_X9_setClimate l _ _ _ _ _ _ _ hw) q691 q692 q693 q55 q694 nd_X9_setClimate ⟨by decide, by decide⟩ rfl rfl ⟨by decide, by decide⟩ kci10 rfl h1 rfl (by first | decide | exact nl rfl) rfl dL_setClimate_7 (fun E S9 he => ?_) (kI fun r2 S3 hw => ?_)
  · rcases he with ⟨rfl, hw⟩ | ⟨rfl, hw⟩
    · refine r_catch h (pre := []) (x := ⟨0, 12, 15, 21⟩) (suf := [⟨0, 12, 19, 13⟩]) rfl (fun _ h => absurd h List.not_mem_nil) (by first | decide | exact nl rfl) (by first | decide | exact nl rfl) q667 n701 (fun q9 => ?_)
      refine r_astore h [] (by decide) rfl dL_setClimate_15 ?_
      refine r_iconst h (v := 1) (by decide) dL_setClimate_17 ?_
      exact r_iret h hq rfl ⟨_, rfl, hw⟩ (by decide) (by decide) dL_setClimate_18
    · refine r_catch h (pre := [⟨0, 12, 15, 21⟩]) (x := ⟨0, 12, 19, 13⟩) (suf := []) rfl (List.forall_mem_cons.mpr ⟨⟨by decide, _, q667, by decide +kernel⟩, (fun _ h => absurd h List.not_mem_nil)⟩) (by first | decide | exact nl rfl) (by first | decide | exact nl rfl) q463 n475 (fun q9 => ?_)
      refine r_astore h [] (by decide) rfl dL_setClimate_19 ?_
      refine r_iconst h (v := 2) (by decide) dL_setClimate_21 ?_
      exact r_iret h hq rfl ⟨_, rfl, hw⟩ (by decide) (by decide) dL_setClimate_22
  · refine r_i2l h dL_setClimate_10 ?_
    obtain ⟨h5, hw⟩ := hw
    obtain ⟨h6, hw⟩ := hw
    refine r_last h h5 h6 dL_setClimate_11 ?_
    refine r_goto h 23 dL_setClimate_12 (by decide) ?_
    refine r_iconst h (v := 0) (by decide) dL_setClimate_23 ?_
    exact r_iret h hq rfl ⟨_, rfl, hw⟩ (by decide) (by decide) dL_setClimate_24

def w_L_share (S : St) (a0 : Nat) (x1 : Int32) (x2 : Int32) (a3 : Nat) (f : Int32 → St → Prop) : Prop := ok S a0 10 ∧ w_X9_share S a0 x1 x2 (fun (r2 : UInt32) (S3 : St) => vf_n64 (FP.f2d r2) ∧ ok S3 a3 104 ∧ vp_in 0 (sN S3 a3) ∧ let S8 : St := setE S3 a3 (Int32.toNatClampNeg 0) (FP.f2d r2); f 0 S8) (fun (E : String) (S3 : St) => (E = "java/lang/IndexOutOfBoundsException" ∧ f 1 S3) ∨ (E = "java/lang/IllegalArgumentException" ∧ f 2 S3))
set_option maxRecDepth 100000 in
set_option maxHeartbeats 4000000 in
theorem c_L_share (l : Launch) (S : St) (a0 : Nat) (x1 : Int32) (x2 : Int32) (a3 : Nat) (f : Int32 → St → Prop) (hw : w_L_share S a0 x1 x2 a3 f) : Ct l yL_share (Cond.codeWith yL_share cL_share 5 (some .int) [(0, 10, 13, 21), (0, 10, 17, 13)]) { frames := 8, cells := 1, slots := 6, locals := 135 } 1 6 S [.ref a0, .int x1, .int x2, .ref a3] (pI f) nox := by
  refine entryW (by decide +kernel) rfl rfl (by first | decide | exact nl rfl) rfl ?_
  intro X h hq
  unfold w_L_share at hw
  refine r_aload_n h 3 rfl rfl dL_share_0 ?_
  refine r_iconst h (v := 0) (by decide) dL_share_1 ?_
  refine r_aload_n h 0 rfl rfl dL_share_2 ?_
  refine r_iload_n h 1 rfl rfl dL_share_3 ?_
  refine r_iload_n h 2 rfl rfl dL_share_4 ?_
  obtain ⟨h1, hw⟩ := hw
  refine r_callV h (fun l => c_X9_share l _ _ _ _ _ _ hw) q1161 q1162 q1163 q55 q1164 nd_X9_share ⟨by decide, by decide⟩ rfl rfl ⟨by decide, by decide⟩ kci10 rfl h1 rfl (by first | decide | exact nl rfl) rfl dL_share_5 (fun E S9 he => ?_) (kF fun r2 S3 hw => ?_)
  · rcases he with ⟨rfl, hw⟩ | ⟨rfl, hw⟩
    · refine r_catch h (pre := []) (x := ⟨0, 10, 13, 21⟩) (suf := [⟨0, 10, 17, 13⟩]) rfl (fun _ h => absurd h List.not_mem_nil) (by first | decide | exact nl rfl) (by first | decide | exact nl rfl) q667 n701 (fun q9 => ?_)
      refine r_astore h [] (by decide) rfl dL_share_13 ?_
      refine r_iconst h (v := 1) (by decide) dL_share_15 ?_
      exact r_iret h hq rfl ⟨_, rfl, hw⟩ (by decide) (by decide) dL_share_16
    · refine r_catch h (pre := [⟨0, 10, 13, 21⟩]) (x := ⟨0, 10, 17, 13⟩) (suf := []) rfl (List.forall_mem_cons.mpr ⟨⟨by decide, _, q667, by decide +kernel⟩, (fun _ h => absurd h List.not_mem_nil)⟩) (by first | decide | exact nl rfl) (by first | decide | exact nl rfl) q463 n475 (fun q9 => ?_)
      refine r_astore h [] (by decide) rfl dL_share_17 ?_
      refine r_iconst h (v := 2) (by decide) dL_share_19 ?_
      exact r_iret h hq rfl ⟨_, rfl, hw⟩ (by decide) (by decide) dL_share_20
  · obtain ⟨h5, hw⟩ := hw
    refine r_f2d h h5 dL_share_8 ?_
    obtain ⟨h6, hw⟩ := hw
    obtain ⟨h7, hw⟩ := hw
    refine r_dast h h6 h7 dL_share_9 ?_
    refine r_goto h 21 dL_share_10 (by decide) ?_
    refine r_iconst h (v := 0) (by decide) dL_share_21 ?_
    exact r_iret h hq rfl ⟨_, rfl, hw⟩ (by decide) (by decide) dL_share_22

def w_L_stateOf (S : St) (a0 : Nat) (x1 : Int32) (a2 : Nat) (f : Int32 → St → Prop) : Prop := ok S a0 10 ∧ w_X9_stateOf S a0 x1 (fun (r2 : Int32) (S3 : St) => ok S3 a2 103 ∧ vp_in 0 (sN S3 a2) ∧ let S7 : St := setJ S3 a2 (Int32.toNatClampNeg 0) (Int32.toInt64 r2); f 0 S7) (fun (E : String) (S3 : St) => (E = "java/util/NoSuchElementException" ∧ f 1 S3))
set_option maxRecDepth 100000 in
set_option maxHeartbeats 4000000 in
theorem c_L_stateOf (l : Launch) (S : St) (a0 : Nat) (x1 : Int32) (a2 : Nat) (f : Int32 → St → Prop) (hw : w_L_stateOf S a0 x1 a2 f) : Ct l yL_stateOf (Cond.codeWith yL_stateOf cL_stateOf 4 (some .int) [(0, 9, 12, 49)]) { frames := 8, cells := 1, slots := 6, locals := 124 } 1 6 S [.ref a0, .int x1, .ref a2] (pI f) nox := by
  refine entryW (by decide +kernel) rfl rfl (by first | decide | exact nl rfl) rfl ?_
  intro X h hq
  unfold w_L_stateOf at hw
  refine r_aload_n h 2 rfl rfl dL_stateOf_0 ?_
  refine r_iconst h (v := 0) (by decide) dL_stateOf_1 ?_
  refine r_aload_n h 0 rfl rfl dL_stateOf_2 ?_
  refine r_iload_n h 1 rfl rfl dL_stateOf_3 ?_
  obtain ⟨h1, hw⟩ := hw
  refine r_callV h (fun l => c_X9_stateOf l _ _ _ _ _ hw) q969 q970 q971 q55 q972 nd_X9_stateOf ⟨by decide, by decide⟩ rfl rfl ⟨by decide, by decide⟩ kci10 rfl h1 rfl (by first | decide | exact nl rfl) rfl dL_stateOf_4 (fun E S9 he => ?_) (kI fun r2 S3 hw => ?_)
  · rcases he with ⟨rfl, hw⟩
    · refine r_catch h (pre := []) (x := ⟨0, 9, 12, 49⟩) (suf := []) rfl (fun _ h => absurd h List.not_mem_nil) (by first | decide | exact nl rfl) (by first | decide | exact nl rfl) q901 n912 (fun q9 => ?_)
      refine r_astore_n h [] rfl (by decide) rfl dL_stateOf_12 ?_
      refine r_iconst h (v := 1) (by decide) dL_stateOf_13 ?_
      exact r_iret h hq rfl ⟨_, rfl, hw⟩ (by decide) (by decide) dL_stateOf_14
  · refine r_i2l h dL_stateOf_7 ?_
    obtain ⟨h5, hw⟩ := hw
    obtain ⟨h6, hw⟩ := hw
    refine r_last h h5 h6 dL_stateOf_8 ?_
    refine r_goto h 15 dL_stateOf_9 (by decide) ?_
    refine r_iconst h (v := 0) (by decide) dL_stateOf_15 ?_
    exact r_iret h hq rfl ⟨_, rfl, hw⟩ (by decide) (by decide) dL_stateOf_16

def w_L_taken (S : St) (a0 : Nat) (x1 : Int32) (x2 : Int32) (a3 : Nat) (f : Int32 → St → Prop) : Prop := ok S a0 10 ∧ w_X9_taken S a0 x1 x2 (fun (r2 : Int32) (S3 : St) => ok S3 a3 103 ∧ vp_in 0 (sN S3 a3) ∧ let S7 : St := setJ S3 a3 (Int32.toNatClampNeg 0) (Int32.toInt64 r2); f 0 S7) (fun (E : String) (S3 : St) => (E = "java/lang/IndexOutOfBoundsException" ∧ f 1 S3) ∨ (E = "java/lang/IllegalArgumentException" ∧ f 2 S3))
set_option maxRecDepth 100000 in
set_option maxHeartbeats 4000000 in
theorem c_L_taken (l : Launch) (S : St) (a0 : Nat) (x1 : Int32) (x2 : Int32) (a3 : Nat) (f : Int32 → St → Prop) (hw : w_L_taken S a0 x1 x2 a3 f) : Ct l yL_taken (Cond.codeWith yL_taken cL_taken 5 (some .int) [(0, 10, 13, 21), (0, 10, 17, 13)]) { frames := 8, cells := 1, slots := 6, locals := 134 } 1 6 S [.ref a0, .int x1, .int x2, .ref a3] (pI f) nox := by
  refine entryW (by decide +kernel) rfl rfl (by first | decide | exact nl rfl) rfl ?_
  intro X h hq
  unfold w_L_taken at hw
  refine r_aload_n h 3 rfl rfl dL_taken_0 ?_
  refine r_iconst h (v := 0) (by decide) dL_taken_1 ?_
  refine r_aload_n h 0 rfl rfl dL_taken_2 ?_
  refine r_iload_n h 1 rfl rfl dL_taken_3 ?_
  refine r_iload_n h 2 rfl rfl dL_taken_4 ?_
  obtain ⟨h1, hw⟩ := hw
  refine r_callV h (fun l => c_X9_taken l _ _ _ _ _ _ hw) q1086 q1087 q1088 q55 q1089 nd_X9_taken ⟨by decide, by decide⟩ rfl rfl ⟨by decide, by decide⟩ kci10 rfl h1 rfl (by first | decide | exact nl rfl) rfl dL_taken_5 (fun E S9 he => ?_) (kI fun r2 S3 hw => ?_)
  · rcases he with ⟨rfl, hw⟩ | ⟨rfl, hw⟩
    · refine r_catch h (pre := []) (x := ⟨0, 10, 13, 21⟩) (suf := [⟨0, 10, 17, 13⟩]) rfl (fun _ h => absurd h List.not_mem_nil) (by first | decide | exact nl rfl) (by first | decide | exact nl rfl) q667 n701 (fun q9 => ?_)
      refine r_astore h [] (by decide) rfl dL_taken_13 ?_
      refine r_iconst h (v := 1) (by decide) dL_taken_15 ?_
      exact r_iret h hq rfl ⟨_, rfl, hw⟩ (by decide) (by decide) dL_taken_16
    · refine r_catch h (pre := [⟨0, 10, 13, 21⟩]) (x := ⟨0, 10, 17, 13⟩) (suf := []) rfl (List.forall_mem_cons.mpr ⟨⟨by decide, _, q667, by decide +kernel⟩, (fun _ h => absurd h List.not_mem_nil)⟩) (by first | decide | exact nl rfl) (by first | decide | exact nl rfl) q463 n475 (fun q9 => ?_)
      refine r_astore h [] (by decide) rfl dL_taken_17 ?_
      refine r_iconst h (v := 2) (by decide) dL_taken_19 ?_
      exact r_iret h hq rfl ⟨_, rfl, hw⟩ (by decide) (by decide) dL_taken_20
  · refine r_i2l h dL_taken_8 ?_
    obtain ⟨h5, hw⟩ := hw
    obtain ⟨h6, hw⟩ := hw
    refine r_last h h5 h6 dL_taken_9 ?_
    refine r_goto h 21 dL_taken_10 (by decide) ?_
    refine r_iconst h (v := 0) (by decide) dL_taken_21 ?_
    exact r_iret h hq rfl ⟨_, rfl, hw⟩ (by decide) (by decide) dL_taken_22

def w_L_trips (S : St) (a0 : Nat) (x1 : Int32) (x2 : Int32) (a3 : Nat) (f : Int32 → St → Prop) : Prop := ok S a0 10 ∧ w_X9_trips S a0 x1 x2 (fun (r2 : Int32) (S3 : St) => ok S3 a3 103 ∧ vp_in 0 (sN S3 a3) ∧ let S7 : St := setJ S3 a3 (Int32.toNatClampNeg 0) (Int32.toInt64 r2); f 0 S7) (fun (E : String) (S3 : St) => (E = "java/util/NoSuchElementException" ∧ f 1 S3) ∨ (E = "java/lang/IndexOutOfBoundsException" ∧ f 2 S3) ∨ (E = "java/lang/UnsupportedOperationException" ∧ f 3 S3))
set_option maxRecDepth 100000 in
set_option maxHeartbeats 4000000 in
theorem c_L_trips (l : Launch) (S : St) (a0 : Nat) (x1 : Int32) (x2 : Int32) (a3 : Nat) (f : Int32 → St → Prop) (hw : w_L_trips S a0 x1 x2 a3 f) : Ct l yL_trips (Cond.codeWith yL_trips cL_trips 5 (some .int) [(0, 10, 13, 49), (0, 10, 17, 21), (0, 10, 21, 55)]) { frames := 9, cells := 2, slots := 12, locals := 148 } 2 12 S [.ref a0, .int x1, .int x2, .ref a3] (pI f) nox := by
  refine entryW (by decide +kernel) rfl rfl (by first | decide | exact nl rfl) rfl ?_
  intro X h hq
  unfold w_L_trips at hw
  refine r_aload_n h 3 rfl rfl dL_trips_0 ?_
  refine r_iconst h (v := 0) (by decide) dL_trips_1 ?_
  refine r_aload_n h 0 rfl rfl dL_trips_2 ?_
  refine r_iload_n h 1 rfl rfl dL_trips_3 ?_
  refine r_iload_n h 2 rfl rfl dL_trips_4 ?_
  obtain ⟨h1, hw⟩ := hw
  refine r_callV h (fun l => c_X9_trips l _ _ _ _ _ _ hw) q1033 q1034 q1035 q55 q1036 nd_X9_trips ⟨by decide, by decide⟩ rfl rfl ⟨by decide, by decide⟩ kci10 rfl h1 rfl (by first | decide | exact nl rfl) rfl dL_trips_5 (fun E S9 he => ?_) (kI fun r2 S3 hw => ?_)
  · rcases he with ⟨rfl, hw⟩ | ⟨rfl, hw⟩ | ⟨rfl, hw⟩
    · refine r_catch h (pre := []) (x := ⟨0, 10, 13, 49⟩) (suf := [⟨0, 10, 17, 21⟩, ⟨0, 10, 21, 55⟩]) rfl (fun _ h => absurd h List.not_mem_nil) (by first | decide | exact nl rfl) (by first | decide | exact nl rfl) q901 n912 (fun q9 => ?_)
      refine r_astore h [] (by decide) rfl dL_trips_13 ?_
      refine r_iconst h (v := 1) (by decide) dL_trips_15 ?_
      exact r_iret h hq rfl ⟨_, rfl, hw⟩ (by decide) (by decide) dL_trips_16
    · refine r_catch h (pre := [⟨0, 10, 13, 49⟩]) (x := ⟨0, 10, 17, 21⟩) (suf := [⟨0, 10, 21, 55⟩]) rfl (List.forall_mem_cons.mpr ⟨⟨by decide, _, q901, by decide +kernel⟩, (fun _ h => absurd h List.not_mem_nil)⟩) (by first | decide | exact nl rfl) (by first | decide | exact nl rfl) q667 n701 (fun q9 => ?_)
      refine r_astore h [] (by decide) rfl dL_trips_17 ?_
      refine r_iconst h (v := 2) (by decide) dL_trips_19 ?_
      exact r_iret h hq rfl ⟨_, rfl, hw⟩ (by decide) (by decide) dL_trips_20
    · refine r_catch h (pre := [⟨0, 10, 13, 49⟩, ⟨0, 10, 17, 21⟩]) (x := ⟨0, 10, 21, 55⟩) (suf := []) rfl (List.forall_mem_cons.mpr ⟨⟨by decide, _, q901, by decide +kernel⟩, (List.forall_mem_cons.mpr ⟨⟨by decide, _, q667, by decide +kernel⟩, (fun _ h => absurd h List.not_mem_nil)⟩)⟩) (by first | decide | exact nl rfl) (by first | decide | exact nl rfl) q933 n944 (fun q9 => ?_)
      refine r_astore h [] (by decide) rfl dL_trips_21 ?_
      refine r_iconst h (v := 3) (by decide) dL_trips_23 ?_
      exact r_iret h hq rfl ⟨_, rfl, hw⟩ (by decide) (by decide) dL_trips_24
  · refine r_i2l h dL_trips_8 ?_
    obtain ⟨h5, hw⟩ := hw
    obtain ⟨h6, hw⟩ := hw
    refine r_last h h5 h6 dL_trips_9 ?_
    refine r_goto h 25 dL_trips_10 (by decide) ?_
    refine r_iconst h (v := 0) (by decide) dL_trips_25 ?_
    exact r_iret h hq rfl ⟨_, rfl, hw⟩ (by decide) (by decide) dL_trips_26

def w_L_tripsByTrying (S : St) (a0 : Nat) (x1 : Int32) (x2 : Int32) (a3 : Nat) (f : Int32 → St → Prop) : Prop := ok S a0 10 ∧ w_X9_tripsByTrying S a0 x1 x2 (fun (r2 : Int32) (S3 : St) => ok S3 a3 103 ∧ vp_in 0 (sN S3 a3) ∧ let S7 : St := setJ S3 a3 (Int32.toNatClampNeg 0) (Int32.toInt64 r2); f 0 S7) (fun (E : String) (S3 : St) => (E = "java/util/NoSuchElementException" ∧ f 1 S3) ∨ (E = "java/lang/IndexOutOfBoundsException" ∧ f 2 S3) ∨ (E = "java/lang/UnsupportedOperationException" ∧ f 3 S3))
set_option maxRecDepth 100000 in
set_option maxHeartbeats 4000000 in
theorem c_L_tripsByTrying (l : Launch) (S : St) (a0 : Nat) (x1 : Int32) (x2 : Int32) (a3 : Nat) (f : Int32 → St → Prop) (hw : w_L_tripsByTrying S a0 x1 x2 a3 f) : Ct l yL_tripsByTrying (Cond.codeWith yL_tripsByTrying cL_tripsByTrying 5 (some .int) [(0, 10, 13, 49), (0, 10, 17, 21), (0, 10, 21, 55)]) { frames := 11, cells := 2, slots := 12, locals := 272 } 2 12 S [.ref a0, .int x1, .int x2, .ref a3] (pI f) nox := by
  refine entryW (by decide +kernel) rfl rfl (by first | decide | exact nl rfl) rfl ?_
  intro X h hq
  unfold w_L_tripsByTrying at hw
  refine r_aload_n h 3 rfl rfl dL_tripsByTrying_0 ?_
  refine r_iconst h (v := 0) (by decide) dL_tripsByTrying_1 ?_
  refine r_aload_n h 0 rfl rfl dL_tripsByTrying_2 ?_
  refine r_iload_n h 1 rfl rfl dL_tripsByTrying_3 ?_
  refine r_iload_n h 2 rfl rfl dL_tripsByTrying_4 ?_
  obtain ⟨h1, hw⟩ := hw
  refine r_callV h (fun l => c_X9_tripsByTrying l _ _ _ _ _ _ hw) q1071 q1072 q1073 q55 q1074 nd_X9_tripsByTrying ⟨by decide, by decide⟩ rfl rfl ⟨by decide, by decide⟩ kci10 rfl h1 rfl (by first | decide | exact nl rfl) rfl dL_tripsByTrying_5 (fun E S9 he => ?_) (kI fun r2 S3 hw => ?_)
  · rcases he with ⟨rfl, hw⟩ | ⟨rfl, hw⟩ | ⟨rfl, hw⟩
    · refine r_catch h (pre := []) (x := ⟨0, 10, 13, 49⟩) (suf := [⟨0, 10, 17, 21⟩, ⟨0, 10, 21, 55⟩]) rfl (fun _ h => absurd h List.not_mem_nil) (by first | decide | exact nl rfl) (by first | decide | exact nl rfl) q901 n912 (fun q9 => ?_)
      refine r_astore h [] (by decide) rfl dL_tripsByTrying_13 ?_
      refine r_iconst h (v := 1) (by decide) dL_tripsByTrying_15 ?_
      exact r_iret h hq rfl ⟨_, rfl, hw⟩ (by decide) (by decide) dL_tripsByTrying_16
    · refine r_catch h (pre := [⟨0, 10, 13, 49⟩]) (x := ⟨0, 10, 17, 21⟩) (suf := [⟨0, 10, 21, 55⟩]) rfl (List.forall_mem_cons.mpr ⟨⟨by decide, _, q901, by decide +kernel⟩, (fun _ h => absurd h List.not_mem_nil)⟩) (by first | decide | exact nl rfl) (by first | decide | exact nl rfl) q667 n701 (fun q9 => ?_)
      refine r_astore h [] (by decide) rfl dL_tripsByTrying_17 ?_
      refine r_iconst h (v := 2) (by decide) dL_tripsByTrying_19 ?_
      exact r_iret h hq rfl ⟨_, rfl, hw⟩ (by decide) (by decide) dL_tripsByTrying_20
    · refine r_catch h (pre := [⟨0, 10, 13, 49⟩, ⟨0, 10, 17, 21⟩]) (x := ⟨0, 10, 21, 55⟩) (suf := []) rfl (List.forall_mem_cons.mpr ⟨⟨by decide, _, q901, by decide +kernel⟩, (List.forall_mem_cons.mpr ⟨⟨by decide, _, q667, by decide +kernel⟩, (fun _ h => absurd h List.not_mem_nil)⟩)⟩) (by first | decide | exact nl rfl) (by first | decide | exact nl rfl) q933 n944 (fun q9 => ?_)
      refine r_astore h [] (by decide) rfl dL_tripsByTrying_21 ?_
      refine r_iconst h (v := 3) (by decide) dL_tripsByTrying_23 ?_
      exact r_iret h hq rfl ⟨_, rfl, hw⟩ (by decide) (by decide) dL_tripsByTrying_24
  · refine r_i2l h dL_tripsByTrying_8 ?_
    obtain ⟨h5, hw⟩ := hw
    obtain ⟨h6, hw⟩ := hw
    refine r_last h h5 h6 dL_tripsByTrying_9 ?_
    refine r_goto h 25 dL_tripsByTrying_10 (by decide) ?_
    refine r_iconst h (v := 0) (by decide) dL_tripsByTrying_25 ?_
    exact r_iret h hq rfl ⟨_, rfl, hw⟩ (by decide) (by decide) dL_tripsByTrying_26

def w_L_wallFor (S : St) (a0 : Nat) (x1 : Int32) (x2 : Int32) (a3 : Nat) (f : Int32 → St → Prop) : Prop := ok S a0 10 ∧ w_X9_wallFor S a0 x1 x2 (fun (r2 : Int32) (S3 : St) => ok S3 a3 103 ∧ vp_in 0 (sN S3 a3) ∧ let S7 : St := setJ S3 a3 (Int32.toNatClampNeg 0) (Int32.toInt64 r2); f 0 S7) (fun (E : String) (S3 : St) => (E = "java/util/NoSuchElementException" ∧ f 1 S3) ∨ (E = "java/lang/IndexOutOfBoundsException" ∧ f 2 S3) ∨ (E = "java/lang/IllegalStateException" ∧ f 3 S3) ∨ (E = "java/lang/UnsupportedOperationException" ∧ f 4 S3))
set_option maxRecDepth 100000 in
set_option maxHeartbeats 4000000 in
theorem c_L_wallFor (l : Launch) (S : St) (a0 : Nat) (x1 : Int32) (x2 : Int32) (a3 : Nat) (f : Int32 → St → Prop) (hw : w_L_wallFor S a0 x1 x2 a3 f) : Ct l yL_wallFor (Cond.codeWith yL_wallFor cL_wallFor 5 (some .int) [(0, 10, 13, 49), (0, 10, 17, 21), (0, 10, 21, 15), (0, 10, 25, 55)]) { frames := 13, cells := 4, slots := 24, locals := 287 } 4 24 S [.ref a0, .int x1, .int x2, .ref a3] (pI f) nox := by
  refine entryW (by decide +kernel) rfl rfl (by first | decide | exact nl rfl) rfl ?_
  intro X h hq
  unfold w_L_wallFor at hw
  refine r_aload_n h 3 rfl rfl dL_wallFor_0 ?_
  refine r_iconst h (v := 0) (by decide) dL_wallFor_1 ?_
  refine r_aload_n h 0 rfl rfl dL_wallFor_2 ?_
  refine r_iload_n h 1 rfl rfl dL_wallFor_3 ?_
  refine r_iload_n h 2 rfl rfl dL_wallFor_4 ?_
  obtain ⟨h1, hw⟩ := hw
  refine r_callV h (fun l => c_X9_wallFor l _ _ _ _ _ _ hw) q1013 q1014 q1015 q55 q1016 nd_X9_wallFor ⟨by decide, by decide⟩ rfl rfl ⟨by decide, by decide⟩ kci10 rfl h1 rfl (by first | decide | exact nl rfl) rfl dL_wallFor_5 (fun E S9 he => ?_) (kI fun r2 S3 hw => ?_)
  · rcases he with ⟨rfl, hw⟩ | ⟨rfl, hw⟩ | ⟨rfl, hw⟩ | ⟨rfl, hw⟩
    · refine r_catch h (pre := []) (x := ⟨0, 10, 13, 49⟩) (suf := [⟨0, 10, 17, 21⟩, ⟨0, 10, 21, 15⟩, ⟨0, 10, 25, 55⟩]) rfl (fun _ h => absurd h List.not_mem_nil) (by first | decide | exact nl rfl) (by first | decide | exact nl rfl) q901 n912 (fun q9 => ?_)
      refine r_astore h [] (by decide) rfl dL_wallFor_13 ?_
      refine r_iconst h (v := 1) (by decide) dL_wallFor_15 ?_
      exact r_iret h hq rfl ⟨_, rfl, hw⟩ (by decide) (by decide) dL_wallFor_16
    · refine r_catch h (pre := [⟨0, 10, 13, 49⟩]) (x := ⟨0, 10, 17, 21⟩) (suf := [⟨0, 10, 21, 15⟩, ⟨0, 10, 25, 55⟩]) rfl (List.forall_mem_cons.mpr ⟨⟨by decide, _, q901, by decide +kernel⟩, (fun _ h => absurd h List.not_mem_nil)⟩) (by first | decide | exact nl rfl) (by first | decide | exact nl rfl) q667 n701 (fun q9 => ?_)
      refine r_astore h [] (by decide) rfl dL_wallFor_17 ?_
      refine r_iconst h (v := 2) (by decide) dL_wallFor_19 ?_
      exact r_iret h hq rfl ⟨_, rfl, hw⟩ (by decide) (by decide) dL_wallFor_20
    · refine r_catch h (pre := [⟨0, 10, 13, 49⟩, ⟨0, 10, 17, 21⟩]) (x := ⟨0, 10, 21, 15⟩) (suf := [⟨0, 10, 25, 55⟩]) rfl (List.forall_mem_cons.mpr ⟨⟨by decide, _, q901, by decide +kernel⟩, (List.forall_mem_cons.mpr ⟨⟨by decide, _, q667, by decide +kernel⟩, (fun _ h => absurd h List.not_mem_nil)⟩)⟩) (by first | decide | exact nl rfl) (by first | decide | exact nl rfl) q464 n547 (fun q9 => ?_)
      refine r_astore h [] (by decide) rfl dL_wallFor_21 ?_
      refine r_iconst h (v := 3) (by decide) dL_wallFor_23 ?_
      exact r_iret h hq rfl ⟨_, rfl, hw⟩ (by decide) (by decide) dL_wallFor_24
    · refine r_catch h (pre := [⟨0, 10, 13, 49⟩, ⟨0, 10, 17, 21⟩, ⟨0, 10, 21, 15⟩]) (x := ⟨0, 10, 25, 55⟩) (suf := []) rfl (List.forall_mem_cons.mpr ⟨⟨by decide, _, q901, by decide +kernel⟩, (List.forall_mem_cons.mpr ⟨⟨by decide, _, q667, by decide +kernel⟩, (List.forall_mem_cons.mpr ⟨⟨by decide, _, q464, by decide +kernel⟩, (fun _ h => absurd h List.not_mem_nil)⟩)⟩)⟩) (by first | decide | exact nl rfl) (by first | decide | exact nl rfl) q933 n944 (fun q9 => ?_)
      refine r_astore h [] (by decide) rfl dL_wallFor_25 ?_
      refine r_iconst h (v := 4) (by decide) dL_wallFor_27 ?_
      exact r_iret h hq rfl ⟨_, rfl, hw⟩ (by decide) (by decide) dL_wallFor_28
  · refine r_i2l h dL_wallFor_8 ?_
    obtain ⟨h5, hw⟩ := hw
    obtain ⟨h6, hw⟩ := hw
    refine r_last h h5 h6 dL_wallFor_9 ?_
    refine r_goto h 29 dL_wallFor_10 (by decide) ?_
    refine r_iconst h (v := 0) (by decide) dL_wallFor_29 ?_
    exact r_iret h hq rfl ⟨_, rfl, hw⟩ (by decide) (by decide) dL_wallFor_30

def w_L_wallForBySearch (S : St) (a0 : Nat) (x1 : Int32) (x2 : Int32) (a3 : Nat) (f : Int32 → St → Prop) : Prop := ok S a0 10 ∧ w_X9_wallForBySearch S a0 x1 x2 (fun (r2 : Int32) (S3 : St) => ok S3 a3 103 ∧ vp_in 0 (sN S3 a3) ∧ let S7 : St := setJ S3 a3 (Int32.toNatClampNeg 0) (Int32.toInt64 r2); f 0 S7) (fun (E : String) (S3 : St) => (E = "java/util/NoSuchElementException" ∧ f 1 S3) ∨ (E = "java/lang/IndexOutOfBoundsException" ∧ f 2 S3) ∨ (E = "java/lang/IllegalStateException" ∧ f 3 S3) ∨ (E = "java/lang/UnsupportedOperationException" ∧ f 4 S3))
set_option maxRecDepth 100000 in
set_option maxHeartbeats 4000000 in
theorem c_L_wallForBySearch (l : Launch) (S : St) (a0 : Nat) (x1 : Int32) (x2 : Int32) (a3 : Nat) (f : Int32 → St → Prop) (hw : w_L_wallForBySearch S a0 x1 x2 a3 f) : Ct l yL_wallForBySearch (Cond.codeWith yL_wallForBySearch cL_wallForBySearch 5 (some .int) [(0, 10, 13, 49), (0, 10, 17, 21), (0, 10, 21, 15), (0, 10, 25, 55)]) { frames := 9, cells := 4, slots := 24, locals := 209 } 4 24 S [.ref a0, .int x1, .int x2, .ref a3] (pI f) nox := by
  refine entryW (by decide +kernel) rfl rfl (by first | decide | exact nl rfl) rfl ?_
  intro X h hq
  unfold w_L_wallForBySearch at hw
  refine r_aload_n h 3 rfl rfl dL_wallForBySearch_0 ?_
  refine r_iconst h (v := 0) (by decide) dL_wallForBySearch_1 ?_
  refine r_aload_n h 0 rfl rfl dL_wallForBySearch_2 ?_
  refine r_iload_n h 1 rfl rfl dL_wallForBySearch_3 ?_
  refine r_iload_n h 2 rfl rfl dL_wallForBySearch_4 ?_
  obtain ⟨h1, hw⟩ := hw
  refine r_callV h (fun l => c_X9_wallForBySearch l _ _ _ _ _ _ hw) q1026 q1027 q1028 q55 q1029 nd_X9_wallForBySearch ⟨by decide, by decide⟩ rfl rfl ⟨by decide, by decide⟩ kci10 rfl h1 rfl (by first | decide | exact nl rfl) rfl dL_wallForBySearch_5 (fun E S9 he => ?_) (kI fun r2 S3 hw => ?_)
  · rcases he with ⟨rfl, hw⟩ | ⟨rfl, hw⟩ | ⟨rfl, hw⟩ | ⟨rfl, hw⟩
    · refine r_catch h (pre := []) (x := ⟨0, 10, 13, 49⟩) (suf := [⟨0, 10, 17, 21⟩, ⟨0, 10, 21, 15⟩, ⟨0, 10, 25, 55⟩]) rfl (fun _ h => absurd h List.not_mem_nil) (by first | decide | exact nl rfl) (by first | decide | exact nl rfl) q901 n912 (fun q9 => ?_)
      refine r_astore h [] (by decide) rfl dL_wallForBySearch_13 ?_
      refine r_iconst h (v := 1) (by decide) dL_wallForBySearch_15 ?_
      exact r_iret h hq rfl ⟨_, rfl, hw⟩ (by decide) (by decide) dL_wallForBySearch_16
    · refine r_catch h (pre := [⟨0, 10, 13, 49⟩]) (x := ⟨0, 10, 17, 21⟩) (suf := [⟨0, 10, 21, 15⟩, ⟨0, 10, 25, 55⟩]) rfl (List.forall_mem_cons.mpr ⟨⟨by decide, _, q901, by decide +kernel⟩, (fun _ h => absurd h List.not_mem_nil)⟩) (by first | decide | exact nl rfl) (by first | decide | exact nl rfl) q667 n701 (fun q9 => ?_)
      refine r_astore h [] (by decide) rfl dL_wallForBySearch_17 ?_
      refine r_iconst h (v := 2) (by decide) dL_wallForBySearch_19 ?_
      exact r_iret h hq rfl ⟨_, rfl, hw⟩ (by decide) (by decide) dL_wallForBySearch_20
    · refine r_catch h (pre := [⟨0, 10, 13, 49⟩, ⟨0, 10, 17, 21⟩]) (x := ⟨0, 10, 21, 15⟩) (suf := [⟨0, 10, 25, 55⟩]) rfl (List.forall_mem_cons.mpr ⟨⟨by decide, _, q901, by decide +kernel⟩, (List.forall_mem_cons.mpr ⟨⟨by decide, _, q667, by decide +kernel⟩, (fun _ h => absurd h List.not_mem_nil)⟩)⟩) (by first | decide | exact nl rfl) (by first | decide | exact nl rfl) q464 n547 (fun q9 => ?_)
      refine r_astore h [] (by decide) rfl dL_wallForBySearch_21 ?_
      refine r_iconst h (v := 3) (by decide) dL_wallForBySearch_23 ?_
      exact r_iret h hq rfl ⟨_, rfl, hw⟩ (by decide) (by decide) dL_wallForBySearch_24
    · refine r_catch h (pre := [⟨0, 10, 13, 49⟩, ⟨0, 10, 17, 21⟩, ⟨0, 10, 21, 15⟩]) (x := ⟨0, 10, 25, 55⟩) (suf := []) rfl (List.forall_mem_cons.mpr ⟨⟨by decide, _, q901, by decide +kernel⟩, (List.forall_mem_cons.mpr ⟨⟨by decide, _, q667, by decide +kernel⟩, (List.forall_mem_cons.mpr ⟨⟨by decide, _, q464, by decide +kernel⟩, (fun _ h => absurd h List.not_mem_nil)⟩)⟩)⟩) (by first | decide | exact nl rfl) (by first | decide | exact nl rfl) q933 n944 (fun q9 => ?_)
      refine r_astore h [] (by decide) rfl dL_wallForBySearch_25 ?_
      refine r_iconst h (v := 4) (by decide) dL_wallForBySearch_27 ?_
      exact r_iret h hq rfl ⟨_, rfl, hw⟩ (by decide) (by decide) dL_wallForBySearch_28
  · refine r_i2l h dL_wallForBySearch_8 ?_
    obtain ⟨h5, hw⟩ := hw
    obtain ⟨h6, hw⟩ := hw
    refine r_last h h5 h6 dL_wallForBySearch_9 ?_
    refine r_goto h 29 dL_wallForBySearch_10 (by decide) ?_
    refine r_iconst h (v := 0) (by decide) dL_wallForBySearch_29 ?_
    exact r_iret h hq rfl ⟨_, rfl, hw⟩ (by decide) (by decide) dL_wallForBySearch_30

def w_L_wallOf (S : St) (a0 : Nat) (x1 : Int32) (x2 : Int32) (a3 : Nat) (f : Int32 → St → Prop) : Prop := ok S a0 10 ∧ w_X9_wallOf S a0 x1 x2 (fun (r2 : Int32) (S3 : St) => ok S3 a3 103 ∧ vp_in 0 (sN S3 a3) ∧ let S7 : St := setJ S3 a3 (Int32.toNatClampNeg 0) (Int32.toInt64 r2); f 0 S7) (fun (E : String) (S3 : St) => (E = "java/util/NoSuchElementException" ∧ f 1 S3) ∨ (E = "java/lang/IndexOutOfBoundsException" ∧ f 2 S3) ∨ (E = "java/lang/IllegalStateException" ∧ f 3 S3))
set_option maxRecDepth 100000 in
set_option maxHeartbeats 4000000 in
theorem c_L_wallOf (l : Launch) (S : St) (a0 : Nat) (x1 : Int32) (x2 : Int32) (a3 : Nat) (f : Int32 → St → Prop) (hw : w_L_wallOf S a0 x1 x2 a3 f) : Ct l yL_wallOf (Cond.codeWith yL_wallOf cL_wallOf 5 (some .int) [(0, 10, 13, 49), (0, 10, 17, 21), (0, 10, 21, 15)]) { frames := 8, cells := 3, slots := 18, locals := 127 } 3 18 S [.ref a0, .int x1, .int x2, .ref a3] (pI f) nox := by
  refine entryW (by decide +kernel) rfl rfl (by first | decide | exact nl rfl) rfl ?_
  intro X h hq
  unfold w_L_wallOf at hw
  refine r_aload_n h 3 rfl rfl dL_wallOf_0 ?_
  refine r_iconst h (v := 0) (by decide) dL_wallOf_1 ?_
  refine r_aload_n h 0 rfl rfl dL_wallOf_2 ?_
  refine r_iload_n h 1 rfl rfl dL_wallOf_3 ?_
  refine r_iload_n h 2 rfl rfl dL_wallOf_4 ?_
  obtain ⟨h1, hw⟩ := hw
  refine r_callV h (fun l => c_X9_wallOf l _ _ _ _ _ _ hw) q995 q996 q997 q55 q998 nd_X9_wallOf ⟨by decide, by decide⟩ rfl rfl ⟨by decide, by decide⟩ kci10 rfl h1 rfl (by first | decide | exact nl rfl) rfl dL_wallOf_5 (fun E S9 he => ?_) (kI fun r2 S3 hw => ?_)
  · rcases he with ⟨rfl, hw⟩ | ⟨rfl, hw⟩ | ⟨rfl, hw⟩
    · refine r_catch h (pre := []) (x := ⟨0, 10, 13, 49⟩) (suf := [⟨0, 10, 17, 21⟩, ⟨0, 10, 21, 15⟩]) rfl (fun _ h => absurd h List.not_mem_nil) (by first | decide | exact nl rfl) (by first | decide | exact nl rfl) q901 n912 (fun q9 => ?_)
      refine r_astore h [] (by decide) rfl dL_wallOf_13 ?_
      refine r_iconst h (v := 1) (by decide) dL_wallOf_15 ?_
      exact r_iret h hq rfl ⟨_, rfl, hw⟩ (by decide) (by decide) dL_wallOf_16
    · refine r_catch h (pre := [⟨0, 10, 13, 49⟩]) (x := ⟨0, 10, 17, 21⟩) (suf := [⟨0, 10, 21, 15⟩]) rfl (List.forall_mem_cons.mpr ⟨⟨by decide, _, q901, by decide +kernel⟩, (fun _ h => absurd h List.not_mem_nil)⟩) (by first | decide | exact nl rfl) (by first | decide | exact nl rfl) q667 n701 (fun q9 => ?_)
      refine r_astore h [] (by decide) rfl dL_wallOf_17 ?_
      refine r_iconst h (v := 2) (by decide) dL_wallOf_19 ?_
      exact r_iret h hq rfl ⟨_, rfl, hw⟩ (by decide) (by decide) dL_wallOf_20
    · refine r_catch h (pre := [⟨0, 10, 13, 49⟩, ⟨0, 10, 17, 21⟩]) (x := ⟨0, 10, 21, 15⟩) (suf := []) rfl (List.forall_mem_cons.mpr ⟨⟨by decide, _, q901, by decide +kernel⟩, (List.forall_mem_cons.mpr ⟨⟨by decide, _, q667, by decide +kernel⟩, (fun _ h => absurd h List.not_mem_nil)⟩)⟩) (by first | decide | exact nl rfl) (by first | decide | exact nl rfl) q464 n547 (fun q9 => ?_)
      refine r_astore h [] (by decide) rfl dL_wallOf_21 ?_
      refine r_iconst h (v := 3) (by decide) dL_wallOf_23 ?_
      exact r_iret h hq rfl ⟨_, rfl, hw⟩ (by decide) (by decide) dL_wallOf_24
  · refine r_i2l h dL_wallOf_8 ?_
    obtain ⟨h5, hw⟩ := hw
    obtain ⟨h6, hw⟩ := hw
    refine r_last h h5 h6 dL_wallOf_9 ?_
    refine r_goto h 25 dL_wallOf_10 (by decide) ?_
    refine r_iconst h (v := 0) (by decide) dL_wallOf_25 ?_
    exact r_iret h hq rfl ⟨_, rfl, hw⟩ (by decide) (by decide) dL_wallOf_26

def w_L_workOf (S : St) (a0 : Nat) (x1 : Int32) (x2 : Int32) (a3 : Nat) (f : Int32 → St → Prop) : Prop := ok S a0 10 ∧ w_X9_workOf S a0 x1 x2 (fun (r2 : Int32) (S3 : St) => ok S3 a3 103 ∧ vp_in 0 (sN S3 a3) ∧ let S7 : St := setJ S3 a3 (Int32.toNatClampNeg 0) (Int32.toInt64 r2); f 0 S7) (fun (E : String) (S3 : St) => (E = "java/util/NoSuchElementException" ∧ f 1 S3) ∨ (E = "java/lang/IndexOutOfBoundsException" ∧ f 2 S3))
set_option maxRecDepth 100000 in
set_option maxHeartbeats 4000000 in
theorem c_L_workOf (l : Launch) (S : St) (a0 : Nat) (x1 : Int32) (x2 : Int32) (a3 : Nat) (f : Int32 → St → Prop) (hw : w_L_workOf S a0 x1 x2 a3 f) : Ct l yL_workOf (Cond.codeWith yL_workOf cL_workOf 5 (some .int) [(0, 10, 13, 49), (0, 10, 17, 21)]) { frames := 8, cells := 2, slots := 12, locals := 126 } 2 12 S [.ref a0, .int x1, .int x2, .ref a3] (pI f) nox := by
  refine entryW (by decide +kernel) rfl rfl (by first | decide | exact nl rfl) rfl ?_
  intro X h hq
  unfold w_L_workOf at hw
  refine r_aload_n h 3 rfl rfl dL_workOf_0 ?_
  refine r_iconst h (v := 0) (by decide) dL_workOf_1 ?_
  refine r_aload_n h 0 rfl rfl dL_workOf_2 ?_
  refine r_iload_n h 1 rfl rfl dL_workOf_3 ?_
  refine r_iload_n h 2 rfl rfl dL_workOf_4 ?_
  obtain ⟨h1, hw⟩ := hw
  refine r_callV h (fun l => c_X9_workOf l _ _ _ _ _ _ hw) q983 q984 q985 q55 q986 nd_X9_workOf ⟨by decide, by decide⟩ rfl rfl ⟨by decide, by decide⟩ kci10 rfl h1 rfl (by first | decide | exact nl rfl) rfl dL_workOf_5 (fun E S9 he => ?_) (kI fun r2 S3 hw => ?_)
  · rcases he with ⟨rfl, hw⟩ | ⟨rfl, hw⟩
    · refine r_catch h (pre := []) (x := ⟨0, 10, 13, 49⟩) (suf := [⟨0, 10, 17, 21⟩]) rfl (fun _ h => absurd h List.not_mem_nil) (by first | decide | exact nl rfl) (by first | decide | exact nl rfl) q901 n912 (fun q9 => ?_)
      refine r_astore h [] (by decide) rfl dL_workOf_13 ?_
      refine r_iconst h (v := 1) (by decide) dL_workOf_15 ?_
      exact r_iret h hq rfl ⟨_, rfl, hw⟩ (by decide) (by decide) dL_workOf_16
    · refine r_catch h (pre := [⟨0, 10, 13, 49⟩]) (x := ⟨0, 10, 17, 21⟩) (suf := []) rfl (List.forall_mem_cons.mpr ⟨⟨by decide, _, q901, by decide +kernel⟩, (fun _ h => absurd h List.not_mem_nil)⟩) (by first | decide | exact nl rfl) (by first | decide | exact nl rfl) q667 n701 (fun q9 => ?_)
      refine r_astore h [] (by decide) rfl dL_workOf_17 ?_
      refine r_iconst h (v := 2) (by decide) dL_workOf_19 ?_
      exact r_iret h hq rfl ⟨_, rfl, hw⟩ (by decide) (by decide) dL_workOf_20
  · refine r_i2l h dL_workOf_8 ?_
    obtain ⟨h5, hw⟩ := hw
    obtain ⟨h6, hw⟩ := hw
    refine r_last h h5 h6 dL_workOf_9 ?_
    refine r_goto h 21 dL_workOf_10 (by decide) ?_
    refine r_iconst h (v := 0) (by decide) dL_workOf_21 ?_
    exact r_iret h hq rfl ⟨_, rfl, hw⟩ (by decide) (by decide) dL_workOf_22

def w_L_worksOf (S : St) (a0 : Nat) (x1 : Int32) (a2 : Nat) (f : Int32 → St → Prop) : Prop := ok S a0 10 ∧ w_X9_worksOf S a0 x1 (fun (r2 : Int32) (S3 : St) => ok S3 a2 103 ∧ vp_in 0 (sN S3 a2) ∧ let S7 : St := setJ S3 a2 (Int32.toNatClampNeg 0) (Int32.toInt64 r2); f 0 S7) (fun (E : String) (S3 : St) => (E = "java/util/NoSuchElementException" ∧ f 1 S3))
set_option maxRecDepth 100000 in
set_option maxHeartbeats 4000000 in
theorem c_L_worksOf (l : Launch) (S : St) (a0 : Nat) (x1 : Int32) (a2 : Nat) (f : Int32 → St → Prop) (hw : w_L_worksOf S a0 x1 a2 f) : Ct l yL_worksOf (Cond.codeWith yL_worksOf cL_worksOf 4 (some .int) [(0, 9, 12, 49)]) { frames := 8, cells := 1, slots := 6, locals := 124 } 1 6 S [.ref a0, .int x1, .ref a2] (pI f) nox := by
  refine entryW (by decide +kernel) rfl rfl (by first | decide | exact nl rfl) rfl ?_
  intro X h hq
  unfold w_L_worksOf at hw
  refine r_aload_n h 2 rfl rfl dL_worksOf_0 ?_
  refine r_iconst h (v := 0) (by decide) dL_worksOf_1 ?_
  refine r_aload_n h 0 rfl rfl dL_worksOf_2 ?_
  refine r_iload_n h 1 rfl rfl dL_worksOf_3 ?_
  obtain ⟨h1, hw⟩ := hw
  refine r_callV h (fun l => c_X9_worksOf l _ _ _ _ _ hw) q976 q977 q978 q55 q979 nd_X9_worksOf ⟨by decide, by decide⟩ rfl rfl ⟨by decide, by decide⟩ kci10 rfl h1 rfl (by first | decide | exact nl rfl) rfl dL_worksOf_4 (fun E S9 he => ?_) (kI fun r2 S3 hw => ?_)
  · rcases he with ⟨rfl, hw⟩
    · refine r_catch h (pre := []) (x := ⟨0, 9, 12, 49⟩) (suf := []) rfl (fun _ h => absurd h List.not_mem_nil) (by first | decide | exact nl rfl) (by first | decide | exact nl rfl) q901 n912 (fun q9 => ?_)
      refine r_astore_n h [] rfl (by decide) rfl dL_worksOf_12 ?_
      refine r_iconst h (v := 1) (by decide) dL_worksOf_13 ?_
      exact r_iret h hq rfl ⟨_, rfl, hw⟩ (by decide) (by decide) dL_worksOf_14
  · refine r_i2l h dL_worksOf_7 ?_
    obtain ⟨h5, hw⟩ := hw
    obtain ⟨h6, hw⟩ := hw
    refine r_last h h5 h6 dL_worksOf_8 ?_
    refine r_goto h 15 dL_worksOf_9 (by decide) ?_
    refine r_iconst h (v := 0) (by decide) dL_worksOf_15 ?_
    exact r_iret h hq rfl ⟨_, rfl, hw⟩ (by decide) (by decide) dL_worksOf_16
