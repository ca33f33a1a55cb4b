def w_Jx4a65c_size_8abf5 (S : St) (a0 : Nat) (f : Int32 → St → Prop) : Prop := ok S a0 0 ∧ f (sI S a0 2) S
set_option maxRecDepth 100000 in
set_option maxHeartbeats 4000000 in
theorem c_Jx4a65c_size_8abf5 (l : Launch) (S : St) (a0 : Nat) (f : Int32 → St → Prop) (hw : w_Jx4a65c_size_8abf5 S a0 f) : Ct l yJx4a65c_size_8abf5 (Cond.code yJx4a65c_size_8abf5 cJx4a65c_size_8abf5 1 (some .int)) { frames := 0, cells := 0, slots := 0, locals := 0 } 0 0 S [.ref a0] (pI f) nox := by
  refine entry (by decide +kernel) rfl rfl (by first | decide | exact nl rfl) rfl ?_
  intro X h hq
  unfold w_Jx4a65c_size_8abf5 at hw
  refine r_aload_n h 0 rfl rfl dJx4a65c_size_8abf5_0 ?_
  obtain ⟨h1, hw⟩ := hw
  refine r_geti h kci0 in0 (k := 2) (by decide) rfl rfl q115 h1 dJx4a65c_size_8abf5_1 ?_
  exact r_iret h hq rfl ⟨_, rfl, hw⟩ (by decide) (by decide) dJx4a65c_size_8abf5_4

def w_Jxa1e45_init_da8c8 (S : St) (a0 : Nat) (f : St → Prop) : Prop := f S
set_option maxRecDepth 100000 in
set_option maxHeartbeats 4000000 in
theorem c_Jxa1e45_init_da8c8 (l : Launch) (S : St) (a0 : Nat) (f : St → Prop) (hw : w_Jxa1e45_init_da8c8 S a0 f) : Ct l yJxa1e45_init_da8c8 (Cond.code yJxa1e45_init_da8c8 cJxa1e45_init_da8c8 1 none) { frames := 1, cells := 0, slots := 0, locals := 12 } 0 0 S [.ref a0] (pV f) nox := by
  refine entry (by decide +kernel) rfl rfl (by first | decide | exact nl rfl) rfl ?_
  intro X h hq
  unfold w_Jxa1e45_init_da8c8 at hw
  refine r_aload_n h 0 rfl rfl dJxa1e45_init_da8c8_0 ?_
  refine r_objInit h q111 q92 q93 (by first | decide | exact nl rfl) (by first | decide | exact nl rfl) dJxa1e45_init_da8c8_1 ?_
  exact r_vret h hq rfl ⟨rfl, hw⟩ (by decide) (by decide) dJxa1e45_init_da8c8_4

def w_Jxc12de_init_da8c8 (S : St) (a0 : Nat) (f : St → Prop) : Prop := w_Jxa1e45_init_da8c8 S a0 (fun (S1 : St) => ok S1 a0 0 ∧ let S4 : St := setI S1 a0 0 0; f S4)
set_option maxRecDepth 100000 in
set_option maxHeartbeats 4000000 in
theorem c_Jxc12de_init_da8c8 (l : Launch) (S : St) (a0 : Nat) (f : St → Prop) (hw : w_Jxc12de_init_da8c8 S a0 f) : Ct l yJxc12de_init_da8c8 (Cond.code yJxc12de_init_da8c8 cJxc12de_init_da8c8 1 none) { frames := 2, cells := 0, slots := 0, locals := 32 } 0 0 S [.ref a0] (pV f) nox := by
  refine entry (by decide +kernel) rfl rfl (by first | decide | exact nl rfl) rfl ?_
  intro X h hq
  unfold w_Jxc12de_init_da8c8 at hw
  refine r_aload_n h 0 rfl rfl dJxc12de_init_da8c8_0 ?_
  refine r_callI h (fun l => c_Jxa1e45_init_da8c8 l _ _ _ hw) q108 q109 q57 q110 nd_Jxa1e45_init_da8c8 rfl ⟨by decide, by decide⟩ rfl rfl ⟨by decide, by decide⟩ (as := []) rfl (by first | decide | exact nl rfl) rfl dJxc12de_init_da8c8_1 nxk (kV fun  S1 hw => ?_)
  refine r_aload_n h 0 rfl rfl dJxc12de_init_da8c8_4 ?_
  refine r_iconst h (v := 0) (by decide) dJxc12de_init_da8c8_5 ?_
  obtain ⟨h3, hw⟩ := hw
  refine r_puti h kci0 in0 tyJx4a65c_ok nmJx4a65c (k := 0) (by decide) rfl rfl rfl rfl rfl rfl q116 h3 dJxc12de_init_da8c8_6 ?_
  exact r_vret h hq rfl ⟨rfl, hw⟩ (by decide) (by decide) dJxc12de_init_da8c8_9

def w_Jx4a65c_init_da8c8 (S : St) (a0 : Nat) (f : St → Prop) : Prop := w_Jxc12de_init_da8c8 S a0 (fun (S1 : St) => ok S1 a0 0 ∧ let S4 : St := setP S1 a0 1 (some (sT S1)); f S4)
set_option maxRecDepth 100000 in
set_option maxHeartbeats 4000000 in
theorem c_Jx4a65c_init_da8c8 (l : Launch) (S : St) (a0 : Nat) (f : St → Prop) (hw : w_Jx4a65c_init_da8c8 S a0 f) : Ct l yJx4a65c_init_da8c8 (Cond.code yJx4a65c_init_da8c8 cJx4a65c_init_da8c8 1 none) { frames := 3, cells := 0, slots := 0, locals := 52 } 0 0 S [.ref a0] (pV f) nox := by
  refine entry (by decide +kernel) rfl rfl (by first | decide | exact nl rfl) rfl ?_
  intro X h hq
  unfold w_Jx4a65c_init_da8c8 at hw
  refine r_aload_n h 0 rfl rfl dJx4a65c_init_da8c8_0 ?_
  refine r_callI h (fun l => c_Jxc12de_init_da8c8 l _ _ _ hw) q105 q106 q58 q107 nd_Jxc12de_init_da8c8 rfl ⟨by decide, by decide⟩ rfl rfl ⟨by decide, by decide⟩ (as := []) rfl (by first | decide | exact nl rfl) rfl dJx4a65c_init_da8c8_1 nxk (kV fun  S1 hw => ?_)
  refine r_aload_n h 0 rfl rfl dJx4a65c_init_da8c8_4 ?_
  refine r_getT h q112 dJx4a65c_init_da8c8_5 ?_
  obtain ⟨h3, hw⟩ := hw
  refine r_putr h (v := (some (sT S1))) rfl kci0 in0 tyJx4a65c_ok nmJx4a65c (k := 1) (by decide) rfl rfl rfl rfl rfl rfl q114 h3 dJx4a65c_init_da8c8_8 ?_
  exact r_vret h hq rfl ⟨rfl, hw⟩ (by decide) (by decide) dJx4a65c_init_da8c8_11

def w_J8_newLength_cabcc (S : St) (x0 : Int32) (x1 : Int32) (x2 : Int32) (f : Int32 → St → Prop) : Prop := ((((x0 + (if x1 < x2 then x2 else x1)) ≤ 0) → False) ∧ ((¬ (x0 + (if x1 < x2 then x2 else x1)) ≤ 0) → (((2147483639 < (x0 + (if x1 < x2 then x2 else x1))) → False) ∧ ((¬ 2147483639 < (x0 + (if x1 < x2 then x2 else x1))) → f (x0 + (if x1 < x2 then x2 else x1)) S))))
set_option maxRecDepth 100000 in
set_option maxHeartbeats 4000000 in
theorem c_J8_newLength_cabcc (l : Launch) (S : St) (x0 : Int32) (x1 : Int32) (x2 : Int32) (f : Int32 → St → Prop) (hw : w_J8_newLength_cabcc S x0 x1 x2 f) : Ct l yJ8_newLength_cabcc (Cond.code yJ8_newLength_cabcc cJ8_newLength_cabcc 4 (some .int)) { frames := 1, cells := 0, slots := 0, locals := 14 } 0 0 S [.int x0, .int x1, .int x2] (pI f) nox := by
  refine entry (by decide +kernel) rfl rfl (by first | decide | exact nl rfl) rfl ?_
  intro X h hq
  unfold w_J8_newLength_cabcc at hw
  refine r_iload_n h 0 rfl rfl dJ8_newLength_cabcc_0 ?_
  refine r_iload_n h 1 rfl rfl dJ8_newLength_cabcc_1 ?_
  refine r_iload_n h 2 rfl rfl dJ8_newLength_cabcc_2 ?_
  refine r_max h q605 q412 q72 q413 (by first | decide | exact nl rfl) (by first | decide | exact nl rfl) (by first | decide | exact nl rfl) (by first | decide | exact nl rfl) dJ8_newLength_cabcc_3 ?_
  refine r_iadd h dJ8_newLength_cabcc_6 ?_
  refine r_istore_n h [1, 2, 0] rfl (by decide) rfl dJ8_newLength_cabcc_7 ?_
  refine r_iconst h (v := 0) (by decide) dJ8_newLength_cabcc_8 ?_
  refine r_iload_n h 2 rfl rfl dJ8_newLength_cabcc_9 ?_
  refine r_icmp_ge h 21 dJ8_newLength_cabcc_10 (by decide) (fun hc => ?_) (fun hc => ?_)
  · replace hw := hw.1 hc
    exact hw.elim
  · replace hw := hw.2 hc
    refine r_iload_n h 2 rfl rfl dJ8_newLength_cabcc_13 ?_
    refine r_ldc h q606 dJ8_newLength_cabcc_14 ?_
    refine r_icmp_gt h 21 dJ8_newLength_cabcc_16 (by decide) (fun hc => ?_) (fun hc => ?_)
    · replace hw := hw.1 hc
      exact hw.elim
    · replace hw := hw.2 hc
      refine r_iload_n h 2 rfl rfl dJ8_newLength_cabcc_19 ?_
      exact r_iret h hq rfl ⟨_, rfl, hw⟩ (by decide) (by decide) dJ8_newLength_cabcc_20

def w_J7_copyOf_6403c (S : St) (a0 : Nat) (x1 : Int32) (a2 : Nat) (f : Nat → St → Prop) : Prop := (((¬ a2 = (sM S)) → False) ∧ ((a2 = (sM S)) → (¬ x1 < 0) ∧ Int32.toNatClampNeg x1 ≤ 20 ∧ ∀ q1 : Nat, q1 ∉ sL S → let S5 : St := newA S q1 102 (Int32.toNatClampNeg x1); ∃ n7 : Nat, alen S5 a0 n7 ∧ ok S5 a0 102 ∧ (¬ (if x1 < (Int32.ofNat n7) then x1 else (Int32.ofNat n7)) < 0) ∧ (Int32.toNatClampNeg (if x1 < (Int32.ofNat n7) then x1 else (Int32.ofNat n7))) ≤ sN S5 a0 ∧ (Int32.toNatClampNeg (if x1 < (Int32.ofNat n7) then x1 else (Int32.ofNat n7))) ≤ sN S5 q1 ∧ (∀ i, i < (Int32.toNatClampNeg (if x1 < (Int32.ofNat n7) then x1 else (Int32.ofNat n7))) → ∀ y, sP S5 a0 i = some y → isO S5 y) ∧ let S14 : St := setPs S5 q1 (va_cpy (sP S5 a0) (sP S5 q1) 0 0 (Int32.toNatClampNeg (if x1 < (Int32.ofNat n7) then x1 else (Int32.ofNat n7)))); f q1 S14))
set_option maxRecDepth 100000 in
set_option maxHeartbeats 4000000 in
theorem c_J7_copyOf_6403c (l : Launch) (S : St) (a0 : Nat) (x1 : Int32) (a2 : Nat) (f : Nat → St → Prop) (hw : w_J7_copyOf_6403c S a0 x1 a2 f) : Ct l yJ7_copyOf_6403c (Cond.code yJ7_copyOf_6403c cJ7_copyOf_6403c 4 (some (.array (.object "java/lang/Object")))) { frames := 1, cells := 1, slots := 20, locals := 60 } 1 20 S [.ref a0, .int x1, .ref a2] (pA f) nox := by
  refine entry (by decide +kernel) rfl rfl (by first | decide | exact nl rfl) rfl ?_
  intro X h hq
  unfold w_J7_copyOf_6403c at hw
  refine r_aload_n h 2 rfl rfl dJ7_copyOf_6403c_0 ?_
  refine r_ldcM h q639 dJ7_copyOf_6403c_1 ?_
  refine r_acmp_ne h 13 dJ7_copyOf_6403c_3 (by decide) (fun hc => ?_) (fun hc => ?_)
  · replace hw := hw.1 hc
    exact hw.elim
  · replace hw := hw.2 hc
    refine r_iload_n h 1 rfl rfl dJ7_copyOf_6403c_6 ?_
    obtain ⟨h3, h4, hw⟩ := hw
    refine r_newQ h q641 h3 h4 (by first | decide | exact nl rfl) (by first | decide | exact nl rfl) dJ7_copyOf_6403c_7 (fun q1 h2 => ?_)
    replace hw := hw q1 h2
    refine r_goto h 24 dJ7_copyOf_6403c_10 (by decide) ?_
    refine r_astore_n h [1, 2, 0] rfl (by decide) rfl dJ7_copyOf_6403c_24 ?_
    refine r_aload_n h 0 rfl rfl dJ7_copyOf_6403c_25 ?_
    refine r_iconst h (v := 0) (by decide) dJ7_copyOf_6403c_26 ?_
    refine r_aload_n h 2 rfl rfl dJ7_copyOf_6403c_27 ?_
    refine r_iconst h (v := 0) (by decide) dJ7_copyOf_6403c_28 ?_
    refine r_aload_n h 0 rfl rfl dJ7_copyOf_6403c_29 ?_
    obtain ⟨n7, h8, hw⟩ := hw
    refine r_alenT h h8 dJ7_copyOf_6403c_30 ?_
    refine r_iload_n h 1 rfl rfl dJ7_copyOf_6403c_31 ?_
    refine r_min h q642 q643 q72 q644 (by first | decide | exact nl rfl) (by first | decide | exact nl rfl) (by first | decide | exact nl rfl) (by first | decide | exact nl rfl) dJ7_copyOf_6403c_32 ?_
    obtain ⟨h9, hw⟩ := hw
    obtain ⟨h10, h11, h12, h13, hw⟩ := hw
    refine r_copy0 h q645 q647 q646 q74 h9 (ok_newaS (c := 102) (n := Int32.toNatClampNeg x1)) h10 h11 h12 h13 (by first | decide | exact nl rfl) (by first | decide | exact nl rfl) dJ7_copyOf_6403c_35 ?_
    refine r_aload_n h 2 rfl rfl dJ7_copyOf_6403c_38 ?_
    exact r_aret h hq rfl (Or.inr ⟨_, rfl⟩) ⟨_, rfl, hw⟩ (by decide) (by decide) dJ7_copyOf_6403c_39

def w_J7_copyOf_1904c (S : St) (a0 : Nat) (x1 : Int32) (f : Nat → St → Prop) : Prop := ok S a0 102 ∧ w_J7_copyOf_6403c S a0 x1 (sM S) (fun (b2 : Nat) (S3 : St) => f b2 S3)
set_option maxRecDepth 100000 in
set_option maxHeartbeats 4000000 in
theorem c_J7_copyOf_1904c (l : Launch) (S : St) (a0 : Nat) (x1 : Int32) (f : Nat → St → Prop) (hw : w_J7_copyOf_1904c S a0 x1 f) : Ct l yJ7_copyOf_1904c (Cond.code yJ7_copyOf_1904c cJ7_copyOf_1904c 2 (some (.array (.object "java/lang/Object")))) { frames := 2, cells := 1, slots := 20, locals := 83 } 1 20 S [.ref a0, .int x1] (pA f) nox := by
  refine entry (by decide +kernel) rfl rfl (by first | decide | exact nl rfl) rfl ?_
  intro X h hq
  unfold w_J7_copyOf_1904c at hw
  refine r_aload_n h 0 rfl rfl dJ7_copyOf_1904c_0 ?_
  refine r_iload_n h 1 rfl rfl dJ7_copyOf_1904c_1 ?_
  refine r_aload_n h 0 rfl rfl dJ7_copyOf_1904c_2 ?_
  obtain ⟨h1, hw⟩ := hw
  refine r_getClass h q613 n1527 q1526 q614 q635 h1 (by first | decide | exact nl rfl) (by first | decide | exact nl rfl) dJ7_copyOf_1904c_3 ?_
  refine r_callS h (fun l => c_J7_copyOf_6403c l _ _ _ _ _ hw) q636 q637 q73 q638 nd_J7_copyOf_6403c ⟨by decide, by decide⟩ rfl rfl ⟨by decide, by decide⟩ (as := [.ref a0, .int x1, .ref (sM S)]) rfl (by first | decide | exact nl rfl) rfl dJ7_copyOf_1904c_6 nxk (kA fun b2 S3 hw => ?_)
  exact r_aret h hq rfl (Or.inr ⟨_, rfl⟩) ⟨_, rfl, hw⟩ (by decide) (by decide) dJ7_copyOf_1904c_9

def wj_Jx4a65c_grow_92f84_20 (f : Nat → St → Prop) (S : St) (a0 : Nat) (x1 : Int32) (x2 : Int32) : Prop := w_J8_newLength_cabcc S x2 (x1 - x2) (x2 >>> (1 &&& 31)) (fun (r7 : Int32) (S8 : St) => ok S8 a0 0 ∧ ∃ b11 : Nat, sP S8 a0 1 = some b11 ∧ w_J7_copyOf_1904c S8 b11 r7 (fun (b13 : Nat) (S14 : St) => ok S14 a0 0 ∧ let S17 : St := setP S14 a0 1 (some b13); f b13 S17))
def w_Jx4a65c_grow_92f84 (S : St) (a0 : Nat) (x1 : Int32) (f : Nat → St → Prop) : Prop := ok S a0 0 ∧ ∃ b2 : Nat, sP S a0 1 = some b2 ∧ ∃ n4 : Nat, alen S b2 n4 ∧ (((0 < (Int32.ofNat n4)) → wj_Jx4a65c_grow_92f84_20 f S a0 x1 (Int32.ofNat n4)) ∧ ((¬ 0 < (Int32.ofNat n4)) → (((b2 = (sT S)) → (¬ (if 10 < x1 then x1 else 10) < 0) ∧ Int32.toNatClampNeg (if 10 < x1 then x1 else 10) ≤ 20 ∧ ∀ q19 : Nat, q19 ∉ sL S → let S23 : St := newA S q19 102 (Int32.toNatClampNeg (if 10 < x1 then x1 else 10)); let S25 : St := setP S23 a0 1 (some q19); f q19 S25) ∧ ((¬ b2 = (sT S)) → wj_Jx4a65c_grow_92f84_20 f S a0 x1 (Int32.ofNat n4)))))
set_option maxRecDepth 100000 in
set_option maxHeartbeats 4000000 in
theorem c_Jx4a65c_grow_92f84 (l : Launch) (S : St) (a0 : Nat) (x1 : Int32) (f : Nat → St → Prop) (hw : w_Jx4a65c_grow_92f84 S a0 x1 f) : Ct l yJx4a65c_grow_92f84 (Cond.code yJx4a65c_grow_92f84 cJx4a65c_grow_92f84 4 (some (.array (.object "java/lang/Object")))) { frames := 3, cells := 1, slots := 20, locals := 104 } 1 20 S [.ref a0, .int x1] (pA f) nox := by
  refine entry (by decide +kernel) rfl rfl (by first | decide | exact nl rfl) rfl ?_
  intro X h hq
  have L20 : ∀ (S : St) (a0 : Nat) (x1 : Int32) (x2 : Int32), wj_Jx4a65c_grow_92f84_20 f S a0 x1 x2 → pw X 0 0 S 20 [(0, .ref a0), (1, .int x1), (2, .int x2)] [] := by
    intro S a0 x1 x2 hw
    unfold wj_Jx4a65c_grow_92f84_20 at hw
    refine r_iload_n h 2 rfl rfl dJx4a65c_grow_92f84_20 ?_
    refine r_iload_n h 1 rfl rfl dJx4a65c_grow_92f84_21 ?_
    refine r_iload_n h 2 rfl rfl dJx4a65c_grow_92f84_22 ?_
    refine r_isub h dJx4a65c_grow_92f84_23 ?_
    refine r_iload_n h 2 rfl rfl dJx4a65c_grow_92f84_24 ?_
    refine r_iconst h (v := 1) (by decide) dJx4a65c_grow_92f84_25 ?_
    refine r_ishr h dJx4a65c_grow_92f84_26 ?_
    refine r_callS h (fun l => c_J8_newLength_cabcc l _ _ _ _ _ hw) q602 q603 q71 q604 nd_J8_newLength_cabcc ⟨by decide, by decide⟩ rfl rfl ⟨by decide, by decide⟩ (as := [.int x2, .int (x1 - x2), .int (x2 >>> (1 &&& 31))]) rfl (by first | decide | exact nl rfl) rfl dJx4a65c_grow_92f84_27 nxk (kI fun r7 S8 hw => ?_)
    refine r_istore_n h [1, 0] rfl (by decide) rfl dJx4a65c_grow_92f84_30 ?_
    refine r_aload_n h 0 rfl rfl dJx4a65c_grow_92f84_31 ?_
    refine r_aload_n h 0 rfl rfl dJx4a65c_grow_92f84_32 ?_
    obtain ⟨h10, hw⟩ := hw
    obtain ⟨b11, h12, hw⟩ := hw
    refine r_getr h kci0 in0 (k := 1) (by decide) rfl rfl q114 h10 h12 dJx4a65c_grow_92f84_33 ?_
    refine r_iload_n h 1 rfl rfl dJx4a65c_grow_92f84_36 ?_
    refine r_callS h (fun l => c_J7_copyOf_1904c l _ _ _ _ hw) q610 q611 q73 q612 nd_J7_copyOf_1904c ⟨by decide, by decide⟩ rfl rfl ⟨by decide, by decide⟩ (as := [.ref b11, .int r7]) rfl (by first | decide | exact nl rfl) rfl dJx4a65c_grow_92f84_37 nxk (kA fun b13 S14 hw => ?_)
    refine r_dup_x1 h rfl rfl dJx4a65c_grow_92f84_40 ?_
    obtain ⟨h16, hw⟩ := hw
    refine r_putr h (v := (some b13)) rfl kci0 in0 tyJx4a65c_ok nmJx4a65c (k := 1) (by decide) rfl rfl rfl rfl rfl rfl q114 h16 dJx4a65c_grow_92f84_41 ?_
    exact r_aret h hq rfl (Or.inr ⟨_, rfl⟩) ⟨_, rfl, hw⟩ (by decide) (by decide) dJx4a65c_grow_92f84_44
  unfold w_Jx4a65c_grow_92f84 at hw
  refine r_aload_n h 0 rfl rfl dJx4a65c_grow_92f84_0 ?_
  obtain ⟨h1, hw⟩ := hw
  obtain ⟨b2, h3, hw⟩ := hw
  refine r_getr h kci0 in0 (k := 1) (by decide) rfl rfl q114 h1 h3 dJx4a65c_grow_92f84_1 ?_
  obtain ⟨n4, h5, hw⟩ := hw
  refine r_alenT h h5 dJx4a65c_grow_92f84_4 ?_
  refine r_istore_n h [1, 2, 0] rfl (by decide) rfl dJx4a65c_grow_92f84_5 ?_
  refine r_iload_n h 2 rfl rfl dJx4a65c_grow_92f84_6 ?_
  refine r_if_gt h 20 dJx4a65c_grow_92f84_7 (by decide) (fun hc => ?_) (fun hc => ?_)
  · replace hw := hw.1 hc
    exact L20 _ _ _ _ hw
  · replace hw := hw.2 hc
    refine r_aload_n h 0 rfl rfl dJx4a65c_grow_92f84_10 ?_
    refine r_getr h kci0 in0 (k := 1) (by decide) rfl rfl q114 h1 h3 dJx4a65c_grow_92f84_11 ?_
    refine r_getT h q112 dJx4a65c_grow_92f84_14 ?_
    refine r_acmp_eq h 45 dJx4a65c_grow_92f84_17 (by decide) (fun hc => ?_) (fun hc => ?_)
    · replace hw := hw.1 hc
      refine r_aload_n h 0 rfl rfl dJx4a65c_grow_92f84_45 ?_
      refine r_bipush h (v := 10) (by decide) dJx4a65c_grow_92f84_46 ?_
      refine r_iload_n h 1 rfl rfl dJx4a65c_grow_92f84_48 ?_
      refine r_max h q648 q412 q72 q413 (by first | decide | exact nl rfl) (by first | decide | exact nl rfl) (by first | decide | exact nl rfl) (by first | decide | exact nl rfl) dJx4a65c_grow_92f84_49 ?_
      obtain ⟨h21, h22, hw⟩ := hw
      refine r_newQ h q649 h21 h22 (by first | decide | exact nl rfl) (by first | decide | exact nl rfl) dJx4a65c_grow_92f84_52 (fun q19 h20 => ?_)
      replace hw := hw q19 h20
      refine r_dup_x1 h rfl rfl dJx4a65c_grow_92f84_55 ?_
      refine r_putr h (v := (some q19)) rfl kci0 in0 tyJx4a65c_ok nmJx4a65c (k := 1) (by decide) rfl rfl rfl rfl rfl rfl q114 (ok_newa (c := 102) (n := Int32.toNatClampNeg (if 10 < x1 then x1 else 10)) h20 h1) dJx4a65c_grow_92f84_56 ?_
      exact r_aret h hq rfl (Or.inr ⟨_, rfl⟩) ⟨_, rfl, hw⟩ (by decide) (by decide) dJx4a65c_grow_92f84_59
    · replace hw := hw.2 hc
      exact L20 _ _ _ _ hw

def w_Jx4a65c_grow_d5877 (S : St) (a0 : Nat) (f : Nat → St → Prop) : Prop := ok S a0 0 ∧ w_Jx4a65c_grow_92f84 S a0 ((sI S a0 2) + 1) (fun (b2 : Nat) (S3 : St) => f b2 S3)
set_option maxRecDepth 100000 in
set_option maxHeartbeats 4000000 in
theorem c_Jx4a65c_grow_d5877 (l : Launch) (S : St) (a0 : Nat) (f : Nat → St → Prop) (hw : w_Jx4a65c_grow_d5877 S a0 f) : Ct l yJx4a65c_grow_d5877 (Cond.code yJx4a65c_grow_d5877 cJx4a65c_grow_d5877 1 (some (.array (.object "java/lang/Object")))) { frames := 4, cells := 1, slots := 20, locals := 127 } 1 20 S [.ref a0] (pA f) nox := by
  refine entry (by decide +kernel) rfl rfl (by first | decide | exact nl rfl) rfl ?_
  intro X h hq
  unfold w_Jx4a65c_grow_d5877 at hw
  refine r_aload_n h 0 rfl rfl dJx4a65c_grow_d5877_0 ?_
  refine r_aload_n h 0 rfl rfl dJx4a65c_grow_d5877_1 ?_
  obtain ⟨h1, hw⟩ := hw
  refine r_geti h kci0 in0 (k := 2) (by decide) rfl rfl q115 h1 dJx4a65c_grow_d5877_2 ?_
  refine r_iconst h (v := 1) (by decide) dJx4a65c_grow_d5877_5 ?_
  refine r_iadd h dJx4a65c_grow_d5877_6 ?_
  refine r_callV h (fun l => c_Jx4a65c_grow_92f84 l _ _ _ _ hw) q598 q600 q13 q59 q601 nd_Jx4a65c_grow_92f84 ⟨by decide, by decide⟩ rfl rfl ⟨by decide, by decide⟩ kci0 rfl h1 rfl (by first | decide | exact nl rfl) rfl dJx4a65c_grow_d5877_7 nxk (kA fun b2 S3 hw => ?_)
  exact r_aret h hq rfl (Or.inr ⟨_, rfl⟩) ⟨_, rfl, hw⟩ (by decide) (by decide) dJx4a65c_grow_d5877_10

def w_Jx4a65c_add_72be8 (S : St) (a0 : Nat) (a1 : Nat) (a2 : Nat) (x3 : Int32) (f : St → Prop) : Prop := ∃ n1 : Nat, alen S a2 n1 ∧ (((¬ x3 = (Int32.ofNat n1)) → ok S a2 102 ∧ vp_in x3 (sN S a2) ∧ isO S a1 ∧ let S6 : St := setP S a2 (Int32.toNatClampNeg x3) (some a1); ok S6 a0 0 ∧ let S9 : St := setI S6 a0 2 (x3 + 1); f S9) ∧ ((x3 = (Int32.ofNat n1)) → ok S a0 0 ∧ w_Jx4a65c_grow_d5877 S a0 (fun (b11 : Nat) (S12 : St) => ok S12 b11 102 ∧ vp_in x3 (sN S12 b11) ∧ isO S12 a1 ∧ let S17 : St := setP S12 b11 (Int32.toNatClampNeg x3) (some a1); ok S17 a0 0 ∧ let S20 : St := setI S17 a0 2 (x3 + 1); f S20)))
set_option maxRecDepth 100000 in
set_option maxHeartbeats 4000000 in
theorem c_Jx4a65c_add_72be8 (l : Launch) (S : St) (a0 : Nat) (a1 : Nat) (a2 : Nat) (x3 : Int32) (f : St → Prop) (hw : w_Jx4a65c_add_72be8 S a0 a1 a2 x3 f) : Ct l yJx4a65c_add_72be8 (Cond.code yJx4a65c_add_72be8 cJx4a65c_add_72be8 4 none) { frames := 5, cells := 1, slots := 20, locals := 147 } 1 20 S [.ref a0, .ref a1, .ref a2, .int x3] (pV f) nox := by
  refine entry (by decide +kernel) rfl rfl (by first | decide | exact nl rfl) rfl ?_
  intro X h hq
  unfold w_Jx4a65c_add_72be8 at hw
  refine r_iload_n h 3 rfl rfl dJx4a65c_add_72be8_0 ?_
  refine r_aload_n h 2 rfl rfl dJx4a65c_add_72be8_1 ?_
  obtain ⟨n1, h2, hw⟩ := hw
  refine r_alenT h h2 dJx4a65c_add_72be8_2 ?_
  refine r_icmp_ne h 11 dJx4a65c_add_72be8_3 (by decide) (fun hc => ?_) (fun hc => ?_)
  · replace hw := hw.1 hc
    refine r_aload_n h 2 rfl rfl dJx4a65c_add_72be8_11 ?_
    refine r_iload_n h 3 rfl rfl dJx4a65c_add_72be8_12 ?_
    refine r_aload_n h 1 rfl rfl dJx4a65c_add_72be8_13 ?_
    obtain ⟨h3, hw⟩ := hw
    obtain ⟨h4, hw⟩ := hw
    obtain ⟨h5, hw⟩ := hw
    refine r_aastO h h3 h4 h5 dJx4a65c_add_72be8_14 ?_
    refine r_aload_n h 0 rfl rfl dJx4a65c_add_72be8_15 ?_
    refine r_iload_n h 3 rfl rfl dJx4a65c_add_72be8_16 ?_
    refine r_iconst h (v := 1) (by decide) dJx4a65c_add_72be8_17 ?_
    refine r_iadd h dJx4a65c_add_72be8_18 ?_
    obtain ⟨h8, hw⟩ := hw
    refine r_puti h kci0 in0 tyJx4a65c_ok nmJx4a65c (k := 2) (by decide) rfl rfl rfl rfl rfl rfl q115 h8 dJx4a65c_add_72be8_19 ?_
    exact r_vret h hq rfl ⟨rfl, hw⟩ (by decide) (by decide) dJx4a65c_add_72be8_22
  · replace hw := hw.2 hc
    refine r_aload_n h 0 rfl rfl dJx4a65c_add_72be8_6 ?_
    obtain ⟨h10, hw⟩ := hw
    refine r_callV h (fun l => c_Jx4a65c_grow_d5877 l _ _ _ hw) q594 q596 q12 q59 q597 nd_Jx4a65c_grow_d5877 ⟨by decide, by decide⟩ rfl rfl ⟨by decide, by decide⟩ kci0 rfl h10 rfl (by first | decide | exact nl rfl) rfl dJx4a65c_add_72be8_7 nxk (kA fun b11 S12 hw => ?_)
    refine r_astore_n h [1, 2, 0, 3] rfl (by decide) rfl dJx4a65c_add_72be8_10 ?_
    refine r_aload_n h 2 rfl rfl dJx4a65c_add_72be8_11 ?_
    refine r_iload_n h 3 rfl rfl dJx4a65c_add_72be8_12 ?_
    refine r_aload_n h 1 rfl rfl dJx4a65c_add_72be8_13 ?_
    obtain ⟨h14, hw⟩ := hw
    obtain ⟨h15, hw⟩ := hw
    obtain ⟨h16, hw⟩ := hw
    refine r_aastO h h14 h15 h16 dJx4a65c_add_72be8_14 ?_
    refine r_aload_n h 0 rfl rfl dJx4a65c_add_72be8_15 ?_
    refine r_iload_n h 3 rfl rfl dJx4a65c_add_72be8_16 ?_
    refine r_iconst h (v := 1) (by decide) dJx4a65c_add_72be8_17 ?_
    refine r_iadd h dJx4a65c_add_72be8_18 ?_
    obtain ⟨h19, hw⟩ := hw
    refine r_puti h kci0 in0 tyJx4a65c_ok nmJx4a65c (k := 2) (by decide) rfl rfl rfl rfl rfl rfl q115 h19 dJx4a65c_add_72be8_19 ?_
    exact r_vret h hq rfl ⟨rfl, hw⟩ (by decide) (by decide) dJx4a65c_add_72be8_22

def w_Jx4a65c_add_9ea2d (S : St) (a0 : Nat) (a1 : Nat) (f : Int32 → St → Prop) : Prop := ok S a0 0 ∧ let S2 : St := setI S a0 0 ((sI S a0 0) + 1); ∃ b3 : Nat, sP S2 a0 1 = some b3 ∧ w_Jx4a65c_add_72be8 S2 a0 a1 b3 (sI S2 a0 2) (fun (S5 : St) => f 1 S5)
set_option maxRecDepth 100000 in
set_option maxHeartbeats 4000000 in
theorem c_Jx4a65c_add_9ea2d (l : Launch) (S : St) (a0 : Nat) (a1 : Nat) (f : Int32 → St → Prop) (hw : w_Jx4a65c_add_9ea2d S a0 a1 f) : Ct l yJx4a65c_add_9ea2d (Cond.code yJx4a65c_add_9ea2d cJx4a65c_add_9ea2d 2 (some .boolean)) { frames := 6, cells := 1, slots := 20, locals := 170 } 1 20 S [.ref a0, .ref a1] (pI f) nox := by
  refine entry (by decide +kernel) rfl rfl (by first | decide | exact nl rfl) rfl ?_
  intro X h hq
  unfold w_Jx4a65c_add_9ea2d at hw
  refine r_aload_n h 0 rfl rfl dJx4a65c_add_9ea2d_0 ?_
  refine r_dup h rfl dJx4a65c_add_9ea2d_1 ?_
  obtain ⟨h1, hw⟩ := hw
  refine r_getiM h in0 q117 q118 h1 dJx4a65c_add_9ea2d_2 ?_
  refine r_iconst h (v := 1) (by decide) dJx4a65c_add_9ea2d_5 ?_
  refine r_iadd h dJx4a65c_add_9ea2d_6 ?_
  refine r_putiM h in0 q117 q118 h1 dJx4a65c_add_9ea2d_7 ?_
  refine r_aload_n h 0 rfl rfl dJx4a65c_add_9ea2d_10 ?_
  refine r_aload_n h 1 rfl rfl dJx4a65c_add_9ea2d_11 ?_
  refine r_aload_n h 0 rfl rfl dJx4a65c_add_9ea2d_12 ?_
  obtain ⟨b3, h4, hw⟩ := hw
  refine r_getr h kci0 in0 (k := 1) (by decide) rfl rfl q114 h1 h4 dJx4a65c_add_9ea2d_13 ?_
  refine r_aload_n h 0 rfl rfl dJx4a65c_add_9ea2d_16 ?_
  refine r_geti h kci0 in0 (k := 2) (by decide) rfl rfl q115 h1 dJx4a65c_add_9ea2d_17 ?_
  refine r_callV h (fun l => c_Jx4a65c_add_72be8 l _ _ _ _ _ _ hw) q590 q592 q11 q59 q593 nd_Jx4a65c_add_72be8 ⟨by decide, by decide⟩ rfl rfl ⟨by decide, by decide⟩ kci0 rfl h1 rfl (by first | decide | exact nl rfl) rfl dJx4a65c_add_9ea2d_20 nxk (kV fun  S5 hw => ?_)
  refine r_iconst h (v := 1) (by decide) dJx4a65c_add_9ea2d_23 ?_
  exact r_zret h hq (ty := .boolean) rfl rfl ⟨_, rfl, hw⟩ (by decide) (by decide) dJx4a65c_add_9ea2d_24

def w_J3_checkIndex_8e157N2 (S : St) (x0 : Int32) (x1 : Int32) (f : Int32 → St → Prop) : Prop := (((x0 < 0) → False) ∧ ((¬ x0 < 0) → (((x0 < x1) → f x0 S) ∧ ((¬ x0 < x1) → False))))
set_option maxRecDepth 100000 in
set_option maxHeartbeats 4000000 in
theorem c_J3_checkIndex_8e157N2 (l : Launch) (S : St) (x0 : Int32) (x1 : Int32) (f : Int32 → St → Prop) (hw : w_J3_checkIndex_8e157N2 S x0 x1 f) : Ct l yJ3_checkIndex_8e157 (Cond.code yJ3_checkIndex_8e157 cJ3_checkIndex_8e157 3 (some .int)) { frames := 0, cells := 0, slots := 0, locals := 0 } 0 0 S [.int x0, .int x1, .null] (pI f) nox := by
  refine entry (by decide +kernel) rfl rfl (by first | decide | exact nl rfl) rfl ?_
  intro X h hq
  unfold w_J3_checkIndex_8e157N2 at hw
  refine r_iload_n h 0 rfl rfl dJ3_checkIndex_8e157_0 ?_
  refine r_if_lt h 9 dJ3_checkIndex_8e157_1 (by decide) (fun hc => ?_) (fun hc => ?_)
  · replace hw := hw.1 hc
    exact hw.elim
  · replace hw := hw.2 hc
    refine r_iload_n h 0 rfl rfl dJ3_checkIndex_8e157_4 ?_
    refine r_iload_n h 1 rfl rfl dJ3_checkIndex_8e157_5 ?_
    refine r_icmp_lt h 16 dJ3_checkIndex_8e157_6 (by decide) (fun hc => ?_) (fun hc => ?_)
    · replace hw := hw.1 hc
      refine r_iload_n h 0 rfl rfl dJ3_checkIndex_8e157_16 ?_
      exact r_iret h hq rfl ⟨_, rfl, hw⟩ (by decide) (by decide) dJ3_checkIndex_8e157_17
    · replace hw := hw.2 hc
      exact hw.elim

def w_J15_checkIndex_7cf53 (S : St) (x0 : Int32) (x1 : Int32) (f : Int32 → St → Prop) : Prop := w_J3_checkIndex_8e157N2 S x0 x1 (fun (r1 : Int32) (S2 : St) => f r1 S2)
set_option maxRecDepth 100000 in
set_option maxHeartbeats 4000000 in
theorem c_J15_checkIndex_7cf53 (l : Launch) (S : St) (x0 : Int32) (x1 : Int32) (f : Int32 → St → Prop) (hw : w_J15_checkIndex_7cf53 S x0 x1 f) : Ct l yJ15_checkIndex_7cf53 (Cond.code yJ15_checkIndex_7cf53 cJ15_checkIndex_7cf53 2 (some .int)) { frames := 1, cells := 0, slots := 0, locals := 22 } 0 0 S [.int x0, .int x1] (pI f) nox := by
  refine entry (by decide +kernel) rfl rfl (by first | decide | exact nl rfl) rfl ?_
  intro X h hq
  unfold w_J15_checkIndex_7cf53 at hw
  refine r_iload_n h 0 rfl rfl dJ15_checkIndex_7cf53_0 ?_
  refine r_iload_n h 1 rfl rfl dJ15_checkIndex_7cf53_1 ?_
  refine r_null h dJ15_checkIndex_7cf53_2 ?_
  refine r_callS h (fun l => c_J3_checkIndex_8e157N2 l _ _ _ _ hw) q266 q267 q76 q268 nd_J3_checkIndex_8e157 ⟨by decide, by decide⟩ rfl rfl ⟨by decide, by decide⟩ (as := [.int x0, .int x1, .null]) rfl (by first | decide | exact nl rfl) rfl dJ15_checkIndex_7cf53_3 nxk (kI fun r1 S2 hw => ?_)
  exact r_iret h hq rfl ⟨_, rfl, hw⟩ (by decide) (by decide) dJ15_checkIndex_7cf53_6

def w_Jx4a65c_elementData_915e3 (S : St) (a0 : Nat) (x1 : Int32) (f : Nat → St → Prop) : Prop := ok S a0 0 ∧ ∃ b2 : Nat, sP S a0 1 = some b2 ∧ ok S b2 102 ∧ vp_in x1 (sN S b2) ∧ ∃ b6 : Nat, sP S b2 (Int32.toNatClampNeg x1) = some b6 ∧ f b6 S
set_option maxRecDepth 100000 in
set_option maxHeartbeats 4000000 in
theorem c_Jx4a65c_elementData_915e3 (l : Launch) (S : St) (a0 : Nat) (x1 : Int32) (f : Nat → St → Prop) (hw : w_Jx4a65c_elementData_915e3 S a0 x1 f) : Ct l yJx4a65c_elementData_915e3 (Cond.code yJx4a65c_elementData_915e3 cJx4a65c_elementData_915e3 2 (some (.object "java/lang/Object"))) { frames := 0, cells := 0, slots := 0, locals := 0 } 0 0 S [.ref a0, .int x1] (pA f) nox := by
  refine entry (by decide +kernel) rfl rfl (by first | decide | exact nl rfl) rfl ?_
  intro X h hq
  unfold w_Jx4a65c_elementData_915e3 at hw
  refine r_aload_n h 0 rfl rfl dJx4a65c_elementData_915e3_0 ?_
  obtain ⟨h1, hw⟩ := hw
  obtain ⟨b2, h3, hw⟩ := hw
  refine r_getr h kci0 in0 (k := 1) (by decide) rfl rfl q114 h1 h3 dJx4a65c_elementData_915e3_1 ?_
  refine r_iload_n h 1 rfl rfl dJx4a65c_elementData_915e3_4 ?_
  obtain ⟨h4, hw⟩ := hw
  obtain ⟨h5, hw⟩ := hw
  obtain ⟨b6, h7, hw⟩ := hw
  refine r_aald h h4 h5 h7 dJx4a65c_elementData_915e3_5 ?_
  exact r_aret h hq rfl (Or.inl ⟨_, rfl⟩) ⟨_, rfl, hw⟩ (by decide) (by decide) dJx4a65c_elementData_915e3_6

def w_Jx4a65c_get_915e3 (S : St) (a0 : Nat) (x1 : Int32) (f : Nat → St → Prop) : Prop := ok S a0 0 ∧ w_J15_checkIndex_7cf53 S x1 (sI S a0 2) (fun (r2 : Int32) (S3 : St) => ok S3 a0 0 ∧ w_Jx4a65c_elementData_915e3 S3 a0 x1 (fun (b6 : Nat) (S7 : St) => f b6 S7))
set_option maxRecDepth 100000 in
set_option maxHeartbeats 4000000 in
theorem c_Jx4a65c_get_915e3 (l : Launch) (S : St) (a0 : Nat) (x1 : Int32) (f : Nat → St → Prop) (hw : w_Jx4a65c_get_915e3 S a0 x1 f) : Ct l yJx4a65c_get_915e3 (Cond.code yJx4a65c_get_915e3 cJx4a65c_get_915e3 2 (some (.object "java/lang/Object"))) { frames := 2, cells := 0, slots := 0, locals := 43 } 0 0 S [.ref a0, .int x1] (pA f) nox := by
  refine entry (by decide +kernel) rfl rfl (by first | decide | exact nl rfl) rfl ?_
  intro X h hq
  unfold w_Jx4a65c_get_915e3 at hw
  refine r_iload_n h 1 rfl rfl dJx4a65c_get_915e3_0 ?_
  refine r_aload_n h 0 rfl rfl dJx4a65c_get_915e3_1 ?_
  obtain ⟨h1, hw⟩ := hw
  refine r_geti h kci0 in0 (k := 2) (by decide) rfl rfl q115 h1 dJx4a65c_get_915e3_2 ?_
  refine r_callS h (fun l => c_J15_checkIndex_7cf53 l _ _ _ _ hw) q263 q264 q75 q265 nd_J15_checkIndex_7cf53 ⟨by decide, by decide⟩ rfl rfl ⟨by decide, by decide⟩ (as := [.int x1, .int (sI S a0 2)]) rfl (by first | decide | exact nl rfl) rfl dJx4a65c_get_915e3_5 nxk (kI fun r2 S3 hw => ?_)
  refine r_pop h rfl dJx4a65c_get_915e3_8 ?_
  refine r_aload_n h 0 rfl rfl dJx4a65c_get_915e3_9 ?_
  refine r_iload_n h 1 rfl rfl dJx4a65c_get_915e3_10 ?_
  obtain ⟨h5, hw⟩ := hw
  refine r_callV h (fun l => c_Jx4a65c_elementData_915e3 l _ _ _ _ hw) q269 q270 q271 q59 q272 nd_Jx4a65c_elementData_915e3 ⟨by decide, by decide⟩ rfl rfl ⟨by decide, by decide⟩ kci0 rfl h5 rfl (by first | decide | exact nl rfl) rfl dJx4a65c_get_915e3_11 nxk (kA fun b6 S7 hw => ?_)
  exact r_aret h hq rfl (Or.inl ⟨_, rfl⟩) ⟨_, rfl, hw⟩ (by decide) (by decide) dJx4a65c_get_915e3_14

def w_Jx4a65c_isEmpty_aae02 (S : St) (a0 : Nat) (f : Int32 → St → Prop) : Prop := ok S a0 0 ∧ (((¬ (sI S a0 2) = 0) → f 0 S) ∧ (((sI S a0 2) = 0) → f 1 S))
set_option maxRecDepth 100000 in
set_option maxHeartbeats 4000000 in
theorem c_Jx4a65c_isEmpty_aae02 (l : Launch) (S : St) (a0 : Nat) (f : Int32 → St → Prop) (hw : w_Jx4a65c_isEmpty_aae02 S a0 f) : Ct l yJx4a65c_isEmpty_aae02 (Cond.code yJx4a65c_isEmpty_aae02 cJx4a65c_isEmpty_aae02 1 (some .boolean)) { frames := 0, cells := 0, slots := 0, locals := 0 } 0 0 S [.ref a0] (pI f) nox := by
  refine entry (by decide +kernel) rfl rfl (by first | decide | exact nl rfl) rfl ?_
  intro X h hq
  unfold w_Jx4a65c_isEmpty_aae02 at hw
  refine r_aload_n h 0 rfl rfl dJx4a65c_isEmpty_aae02_0 ?_
  obtain ⟨h1, hw⟩ := hw
  refine r_geti h kci0 in0 (k := 2) (by decide) rfl rfl q115 h1 dJx4a65c_isEmpty_aae02_1 ?_
  refine r_if_ne h 11 dJx4a65c_isEmpty_aae02_4 (by decide) (fun hc => ?_) (fun hc => ?_)
  · replace hw := hw.1 hc
    refine r_iconst h (v := 0) (by decide) dJx4a65c_isEmpty_aae02_11 ?_
    exact r_zret h hq (ty := .boolean) rfl rfl ⟨_, rfl, hw⟩ (by decide) (by decide) dJx4a65c_isEmpty_aae02_12
  · replace hw := hw.2 hc
    refine r_iconst h (v := 1) (by decide) dJx4a65c_isEmpty_aae02_7 ?_
    refine r_goto h 12 dJx4a65c_isEmpty_aae02_8 (by decide) ?_
    exact r_zret h hq (ty := .boolean) rfl rfl ⟨_, rfl, hw⟩ (by decide) (by decide) dJx4a65c_isEmpty_aae02_12
