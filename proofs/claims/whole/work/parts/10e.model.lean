def w_X10_init (S : St) (a0 : Nat) (f : St → Prop) : Prop := ∀ q1 : Nat, q1 ∉ sL S → let S3 : St := newA S q1 101 4; ok S3 a0 11 ∧ let S6 : St := setP S3 a0 0 (some q1); ∀ q9 : Nat, q9 ∉ sL S6 → let S11 : St := newA S6 q9 101 4; let S13 : St := setP S11 a0 1 (some q9); ∀ q16 : Nat, q16 ∉ sL S13 → let S18 : St := newA S13 q16 101 8; let S20 : St := setP S18 a0 2 (some q16); ∀ q23 : Nat, q23 ∉ sL S20 → let S25 : St := newA S20 q23 101 4; let S27 : St := setP S25 a0 3 (some q23); ∀ q30 : Nat, q30 ∉ sL S27 → let S32 : St := newA S27 q30 101 4; let S34 : St := setP S32 a0 4 (some q30); ∀ q37 : Nat, q37 ∉ sL S34 → let S39 : St := newA S34 q37 101 4; let S41 : St := setP S39 a0 5 (some q37); ∀ q44 : Nat, q44 ∉ sL S41 → let S46 : St := newA S41 q44 101 12; let S48 : St := setP S46 a0 6 (some q44); ∀ q51 : Nat, q51 ∉ sL S48 → let S53 : St := newA S48 q51 101 12; let S55 : St := setP S53 a0 7 (some q51); ∀ q58 : Nat, q58 ∉ sL S55 → let S60 : St := newA S55 q58 101 12; let S62 : St := setP S60 a0 8 (some q58); ∀ q65 : Nat, q65 ∉ sL S62 → let S67 : St := newA S62 q65 101 12; let S69 : St := setP S67 a0 9 (some q65); ∀ q72 : Nat, q72 ∉ sL S69 → let S74 : St := newA S69 q72 101 12; let S76 : St := setP S74 a0 10 (some q72); ∀ q79 : Nat, q79 ∉ sL S76 → let S81 : St := newA S76 q79 101 12; let S83 : St := setP S81 a0 11 (some q79); ∀ q86 : Nat, q86 ∉ sL S83 → let S88 : St := newA S83 q86 101 144; let S90 : St := setP S88 a0 12 (some q86); ∀ q93 : Nat, q93 ∉ sL S90 → let S95 : St := newA S90 q93 101 8; let S97 : St := setP S95 a0 13 (some q93); ∀ q100 : Nat, q100 ∉ sL S97 → let S102 : St := newA S97 q100 101 8; let S104 : St := setP S102 a0 14 (some q100); ∀ q107 : Nat, q107 ∉ sL S104 → let S109 : St := newA S104 q107 101 8; let S111 : St := setP S109 a0 15 (some q107); ∀ q114 : Nat, q114 ∉ sL S111 → let S116 : St := newA S111 q114 101 8; let S118 : St := setP S116 a0 16 (some q114); ∀ q121 : Nat, q121 ∉ sL S118 → let S123 : St := newA S118 q121 101 8; let S125 : St := setP S123 a0 17 (some q121); ∀ q128 : Nat, q128 ∉ sL S125 → let S130 : St := newA S125 q128 101 40; let S132 : St := setP S130 a0 18 (some q128); ∀ q135 : Nat, q135 ∉ sL S132 → let S137 : St := newA S132 q135 101 40; let S139 : St := setP S137 a0 19 (some q135); ∀ q142 : Nat, q142 ∉ sL S139 → let S144 : St := newA S139 q142 101 5; let S146 : St := setP S144 a0 20 (some q142); ∀ q149 : Nat, q149 ∉ sL S146 → let S151 : St := newA S146 q149 101 5; let S153 : St := setP S151 a0 21 (some q149); ∀ q156 : Nat, q156 ∉ sL S153 → let S158 : St := newA S153 q156 101 32; let S160 : St := setP S158 a0 22 (some q156); let S163 : St := setI S160 a0 23 0; let S165 : St := setI S163 a0 24 0; let S167 : St := setI S165 a0 25 0; let S169 : St := setI S167 a0 26 0; let S171 : St := setI S169 a0 27 0; let S173 : St := setI S171 a0 28 0; f S173
set_option maxRecDepth 100000 in
set_option maxHeartbeats 4000000 in
theorem c_X10_init (l : Launch) (S : St) (a0 : Nat) (f : St → Prop) (hw : w_X10_init S a0 f) : Ct l yX10_init (Cond.code yX10_init cX10_init 1 none) { frames := 1, cells := 23, slots := 406, locals := 12 } 23 406 S [.ref a0] (pV f) nox := by
  refine entry (by decide +kernel) rfl rfl (by first | decide | exact nl rfl) rfl ?_
  intro X h hq
  unfold w_X10_init at hw
  refine r_aload_n h 0 rfl rfl dX10_init_0 ?_
  refine r_objInit h q1171 q92 q93 (by first | decide | exact nl rfl) (by first | decide | exact nl rfl) dX10_init_1 ?_
  refine r_aload_n h 0 rfl rfl dX10_init_4 ?_
  refine r_iconst h (v := 4) (by decide) dX10_init_5 ?_
  refine r_newI h (N := 4) q186 (by first | decide | exact nl rfl) (by first | decide | exact nl rfl) (by first | decide | exact nl rfl) (by first | decide | exact nl rfl) (by first | decide | exact nl rfl) dX10_init_6 (fun q1 h2 => ?_)
  replace hw := hw q1 h2
  obtain ⟨h5, hw⟩ := hw
  refine r_putrF h (v := (some q1)) rfl kci11 in11 tyX10_ok nmX10 (k := 0) (by decide) rfl rfl rfl rfl rfl rfl rfl rfl q1172 h5 dX10_init_8 ?_
  refine r_aload_n h 0 rfl rfl dX10_init_11 ?_
  refine r_iconst h (v := 4) (by decide) dX10_init_12 ?_
  refine r_newI h (N := 4) q186 (by first | decide | exact nl rfl) (by first | decide | exact nl rfl) (by first | decide | exact nl rfl) (by first | decide | exact nl rfl) (by first | decide | exact nl rfl) dX10_init_13 (fun q9 h10 => ?_)
  replace hw := hw q9 h10
  refine r_putrF h (v := (some q9)) rfl kci11 in11 tyX10_ok nmX10 (k := 1) (by decide) rfl rfl rfl rfl rfl rfl rfl rfl q1173 (ok_newa (c := 101) (n := 4) h10 (ok_setP h5)) dX10_init_15 ?_
  refine r_aload_n h 0 rfl rfl dX10_init_18 ?_
  refine r_bipush h (v := 8) (by decide) dX10_init_19 ?_
  refine r_newI h (N := 8) q186 (by first | decide | exact nl rfl) (by first | decide | exact nl rfl) (by first | decide | exact nl rfl) (by first | decide | exact nl rfl) (by first | decide | exact nl rfl) dX10_init_21 (fun q16 h17 => ?_)
  replace hw := hw q16 h17
  refine r_putrF h (v := (some q16)) rfl kci11 in11 tyX10_ok nmX10 (k := 2) (by decide) rfl rfl rfl rfl rfl rfl rfl rfl q1174 (ok_newa (c := 101) (n := 8) h17 (ok_setP (ok_newa (c := 101) (n := 4) h10 (ok_setP h5)))) dX10_init_23 ?_
  refine r_aload_n h 0 rfl rfl dX10_init_26 ?_
  refine r_iconst h (v := 4) (by decide) dX10_init_27 ?_
  refine r_newI h (N := 4) q186 (by first | decide | exact nl rfl) (by first | decide | exact nl rfl) (by first | decide | exact nl rfl) (by first | decide | exact nl rfl) (by first | decide | exact nl rfl) dX10_init_28 (fun q23 h24 => ?_)
  replace hw := hw q23 h24
  refine r_putrF h (v := (some q23)) rfl kci11 in11 tyX10_ok nmX10 (k := 3) (by decide) rfl rfl rfl rfl rfl rfl rfl rfl q1175 (ok_newa (c := 101) (n := 4) h24 (ok_setP (ok_newa (c := 101) (n := 8) h17 (ok_setP (ok_newa (c := 101) (n := 4) h10 (ok_setP h5)))))) dX10_init_30 ?_
  refine r_aload_n h 0 rfl rfl dX10_init_33 ?_
  refine r_iconst h (v := 4) (by decide) dX10_init_34 ?_
  refine r_newI h (N := 4) q186 (by first | decide | exact nl rfl) (by first | decide | exact nl rfl) (by first | decide | exact nl rfl) (by first | decide | exact nl rfl) (by first | decide | exact nl rfl) dX10_init_35 (fun q30 h31 => ?_)
  replace hw := hw q30 h31
  refine r_putrF h (v := (some q30)) rfl kci11 in11 tyX10_ok nmX10 (k := 4) (by decide) rfl rfl rfl rfl rfl rfl rfl rfl q1176 (ok_newa (c := 101) (n := 4) h31 (ok_setP (ok_newa (c := 101) (n := 4) h24 (ok_setP (ok_newa (c := 101) (n := 8) h17 (ok_setP (ok_newa (c := 101) (n := 4) h10 (ok_setP h5)))))))) dX10_init_37 ?_
  refine r_aload_n h 0 rfl rfl dX10_init_40 ?_
  refine r_iconst h (v := 4) (by decide) dX10_init_41 ?_
  refine r_newI h (N := 4) q186 (by first | decide | exact nl rfl) (by first | decide | exact nl rfl) (by first | decide | exact nl rfl) (by first | decide | exact nl rfl) (by first | decide | exact nl rfl) dX10_init_42 (fun q37 h38 => ?_)
  replace hw := hw q37 h38
  refine r_putrF h (v := (some q37)) rfl kci11 in11 tyX10_ok nmX10 (k := 5) (by decide) rfl rfl rfl rfl rfl rfl rfl rfl q1177 (ok_newa (c := 101) (n := 4) h38 (ok_setP (ok_newa (c := 101) (n := 4) h31 (ok_setP (ok_newa (c := 101) (n := 4) h24 (ok_setP (ok_newa (c := 101) (n := 8) h17 (ok_setP (ok_newa (c := 101) (n := 4) h10 (ok_setP h5)))))))))) dX10_init_44 ?_
  refine r_aload_n h 0 rfl rfl dX10_init_47 ?_
  refine r_bipush h (v := 12) (by decide) dX10_init_48 ?_
  refine r_newI h (N := 12) q186 (by first | decide | exact nl rfl) (by first | decide | exact nl rfl) (by first | decide | exact nl rfl) (by first | decide | exact nl rfl) (by first | decide | exact nl rfl) dX10_init_50 (fun q44 h45 => ?_)
  replace hw := hw q44 h45
  refine r_putrF h (v := (some q44)) rfl kci11 in11 tyX10_ok nmX10 (k := 6) (by decide) rfl rfl rfl rfl rfl rfl rfl rfl q1178 (ok_newa (c := 101) (n := 12) h45 (ok_setP (ok_newa (c := 101) (n := 4) h38 (ok_setP (ok_newa (c := 101) (n := 4) h31 (ok_setP (ok_newa (c := 101) (n := 4) h24 (ok_setP (ok_newa (c := 101) (n := 8) h17 (ok_setP (ok_newa (c := 101) (n := 4) h10 (ok_setP h5)))))))))))) dX10_init_52 ?_
  refine r_aload_n h 0 rfl rfl dX10_init_55 ?_
  refine r_bipush h (v := 12) (by decide) dX10_init_56 ?_
  refine r_newI h (N := 12) q186 (by first | decide | exact nl rfl) (by first | decide | exact nl rfl) (by first | decide | exact nl rfl) (by first | decide | exact nl rfl) (by first | decide | exact nl rfl) dX10_init_58 (fun q51 h52 => ?_)
  replace hw := hw q51 h52
  refine r_putrF h (v := (some q51)) rfl kci11 in11 tyX10_ok nmX10 (k := 7) (by decide) rfl rfl rfl rfl rfl rfl rfl rfl q1179 (ok_newa (c := 101) (n := 12) h52 (ok_setP (ok_newa (c := 101) (n := 12) h45 (ok_setP (ok_newa (c := 101) (n := 4) h38 (ok_setP (ok_newa (c := 101) (n := 4) h31 (ok_setP (ok_newa (c := 101) (n := 4) h24 (ok_setP (ok_newa (c := 101) (n := 8) h17 (ok_setP (ok_newa (c := 101) (n := 4) h10 (ok_setP h5)))))))))))))) dX10_init_60 ?_
  refine r_aload_n h 0 rfl rfl dX10_init_63 ?_
  refine r_bipush h (v := 12) (by decide) dX10_init_64 ?_
  refine r_newI h (N := 12) q186 (by first | decide | exact nl rfl) (by first | decide | exact nl rfl) (by first | decide | exact nl rfl) (by first | decide | exact nl rfl) (by first | decide | exact nl rfl) dX10_init_66 (fun q58 h59 => ?_)
  replace hw := hw q58 h59
  refine r_putrF h (v := (some q58)) rfl kci11 in11 tyX10_ok nmX10 (k := 8) (by decide) rfl rfl rfl rfl rfl rfl rfl rfl q1180 (ok_newa (c := 101) (n := 12) h59 (ok_setP (ok_newa (c := 101) (n := 12) h52 (ok_setP (ok_newa (c := 101) (n := 12) h45 (ok_setP (ok_newa (c := 101) (n := 4) h38 (ok_setP (ok_newa (c := 101) (n := 4) h31 (ok_setP (ok_newa (c := 101) (n := 4) h24 (ok_setP (ok_newa (c := 101) (n := 8) h17 (ok_setP (ok_newa (c := 101) (n := 4) h10 (ok_setP h5)))))))))))))))) dX10_init_68 ?_
  refine r_aload_n h 0 rfl rfl dX10_init_71 ?_
  refine r_bipush h (v := 12) (by decide) dX10_init_72 ?_
  refine r_newI h (N := 12) q186 (by first | decide | exact nl rfl) (by first | decide | exact nl rfl) (by first | decide | exact nl rfl) (by first | decide | exact nl rfl) (by first | decide | exact nl rfl) dX10_init_74 (fun q65 h66 => ?_)
  replace hw := hw q65 h66
  refine r_putrF h (v := (some q65)) rfl kci11 in11 tyX10_ok nmX10 (k := 9) (by decide) rfl rfl rfl rfl rfl rfl rfl rfl q1181 (ok_newa (c := 101) (n := 12) h66 (ok_setP (ok_newa (c := 101) (n := 12) h59 (ok_setP (ok_newa (c := 101) (n := 12) h52 (ok_setP (ok_newa (c := 101) (n := 12) h45 (ok_setP (ok_newa (c := 101) (n := 4) h38 (ok_setP (ok_newa (c := 101) (n := 4) h31 (ok_setP (ok_newa (c := 101) (n := 4) h24 (ok_setP (ok_newa (c := 101) (n := 8) h17 (ok_setP (ok_newa (c := 101) (n := 4) h10 (ok_setP h5)))))))))))))))))) dX10_init_76 ?_
  refine r_aload_n h 0 rfl rfl dX10_init_79 ?_
  refine r_bipush h (v := 12) (by decide) dX10_init_80 ?_
  refine r_newI h (N := 12) q186 (by first | decide | exact nl rfl) (by first | decide | exact nl rfl) (by first | decide | exact nl rfl) (by first | decide | exact nl rfl) (by first | decide | exact nl rfl) dX10_init_82 (fun q72 h73 => ?_)
  replace hw := hw q72 h73
  refine r_putrF h (v := (some q72)) rfl kci11 in11 tyX10_ok nmX10 (k := 10) (by decide) rfl rfl rfl rfl rfl rfl rfl rfl q1182 (ok_newa (c := 101) (n := 12) h73 (ok_setP (ok_newa (c := 101) (n := 12) h66 (ok_setP (ok_newa (c := 101) (n := 12) h59 (ok_setP (ok_newa (c := 101) (n := 12) h52 (ok_setP (ok_newa (c := 101) (n := 12) h45 (ok_setP (ok_newa (c := 101) (n := 4) h38 (ok_setP (ok_newa (c := 101) (n := 4) h31 (ok_setP (ok_newa (c := 101) (n := 4) h24 (ok_setP (ok_newa (c := 101) (n := 8) h17 (ok_setP (ok_newa (c := 101) (n := 4) h10 (ok_setP h5)))))))))))))))))))) dX10_init_84 ?_
  refine r_aload_n h 0 rfl rfl dX10_init_87 ?_
  refine r_bipush h (v := 12) (by decide) dX10_init_88 ?_
  refine r_newI h (N := 12) q186 (by first | decide | exact nl rfl) (by first | decide | exact nl rfl) (by first | decide | exact nl rfl) (by first | decide | exact nl rfl) (by first | decide | exact nl rfl) dX10_init_90 (fun q79 h80 => ?_)
  replace hw := hw q79 h80
  refine r_putrF h (v := (some q79)) rfl kci11 in11 tyX10_ok nmX10 (k := 11) (by decide) rfl rfl rfl rfl rfl rfl rfl rfl q1183 (ok_newa (c := 101) (n := 12) h80 (ok_setP (ok_newa (c := 101) (n := 12) h73 (ok_setP (ok_newa (c := 101) (n := 12) h66 (ok_setP (ok_newa (c := 101) (n := 12) h59 (ok_setP (ok_newa (c := 101) (n := 12) h52 (ok_setP (ok_newa (c := 101) (n := 12) h45 (ok_setP (ok_newa (c := 101) (n := 4) h38 (ok_setP (ok_newa (c := 101) (n := 4) h31 (ok_setP (ok_newa (c := 101) (n := 4) h24 (ok_setP (ok_newa (c := 101) (n := 8) h17 (ok_setP (ok_newa (c := 101) (n := 4) h10 (ok_setP h5)))))))))))))))))))))) dX10_init_92 ?_
  refine r_aload_n h 0 rfl rfl dX10_init_95 ?_
  refine r_sipush h (v := 144) (by decide) dX10_init_96 ?_
  refine r_newI h (N := 144) q186 (by first | decide | exact nl rfl) (by first | decide | exact nl rfl) (by first | decide | exact nl rfl) (by first | decide | exact nl rfl) (by first | decide | exact nl rfl) dX10_init_99 (fun q86 h87 => ?_)
  replace hw := hw q86 h87
  refine r_putrF h (v := (some q86)) rfl kci11 in11 tyX10_ok nmX10 (k := 12) (by decide) rfl rfl rfl rfl rfl rfl rfl rfl q1184 (ok_newa (c := 101) (n := 144) h87 (ok_setP (ok_newa (c := 101) (n := 12) h80 (ok_setP (ok_newa (c := 101) (n := 12) h73 (ok_setP (ok_newa (c := 101) (n := 12) h66 (ok_setP (ok_newa (c := 101) (n := 12) h59 (ok_setP (ok_newa (c := 101) (n := 12) h52 (ok_setP (ok_newa (c := 101) (n := 12) h45 (ok_setP (ok_newa (c := 101) (n := 4) h38 (ok_setP (ok_newa (c := 101) (n := 4) h31 (ok_setP (ok_newa (c := 101) (n := 4) h24 (ok_setP (ok_newa (c := 101) (n := 8) h17 (ok_setP (ok_newa (c := 101) (n := 4) h10 (ok_setP h5)))))))))))))))))))))))) dX10_init_101 ?_
  refine r_aload_n h 0 rfl rfl dX10_init_104 ?_
  refine r_bipush h (v := 8) (by decide) dX10_init_105 ?_
  refine r_newI h (N := 8) q186 (by first | decide | exact nl rfl) (by first | decide | exact nl rfl) (by first | decide | exact nl rfl) (by first | decide | exact nl rfl) (by first | decide | exact nl rfl) dX10_init_107 (fun q93 h94 => ?_)
  replace hw := hw q93 h94
  refine r_putrF h (v := (some q93)) rfl kci11 in11 tyX10_ok nmX10 (k := 13) (by decide) rfl rfl rfl rfl rfl rfl rfl rfl q1185 (ok_newa (c := 101) (n := 8) h94 (ok_setP (ok_newa (c := 101) (n := 144) h87 (ok_setP (ok_newa (c := 101) (n := 12) h80 (ok_setP (ok_newa (c := 101) (n := 12) h73 (ok_setP (ok_newa (c := 101) (n := 12) h66 (ok_setP (ok_newa (c := 101) (n := 12) h59 (ok_setP (ok_newa (c := 101) (n := 12) h52 (ok_setP (ok_newa (c := 101) (n := 12) h45 (ok_setP (ok_newa (c := 101) (n := 4) h38 (ok_setP (ok_newa (c := 101) (n := 4) h31 (ok_setP (ok_newa (c := 101) (n := 4) h24 (ok_setP (ok_newa (c := 101) (n := 8) h17 (ok_setP (ok_newa (c := 101) (n := 4) h10 (ok_setP h5)))))))))))))))))))))))))) dX10_init_109 ?_
  refine r_aload_n h 0 rfl rfl dX10_init_112 ?_
  refine r_bipush h (v := 8) (by decide) dX10_init_113 ?_
  refine r_newI h (N := 8) q186 (by first | decide | exact nl rfl) (by first | decide | exact nl rfl) (by first | decide | exact nl rfl) (by first | decide | exact nl rfl) (by first | decide | exact nl rfl) dX10_init_115 (fun q100 h101 => ?_)
  replace hw := hw q100 h101
  refine r_putrF h (v := (some q100)) rfl kci11 in11 tyX10_ok nmX10 (k := 14) (by decide) rfl rfl rfl rfl rfl rfl rfl rfl q1186 (ok_newa (c := 101) (n := 8) h101 (ok_setP (ok_newa (c := 101) (n := 8) h94 (ok_setP (ok_newa (c := 101) (n := 144) h87 (ok_setP (ok_newa (c := 101) (n := 12) h80 (ok_setP (ok_newa (c := 101) (n := 12) h73 (ok_setP (ok_newa (c := 101) (n := 12) h66 (ok_setP (ok_newa (c := 101) (n := 12) h59 (ok_setP (ok_newa (c := 101) (n := 12) h52 (ok_setP (ok_newa (c := 101) (n := 12) h45 (ok_setP (ok_newa (c := 101) (n := 4) h38 (ok_setP (ok_newa (c := 101) (n := 4) h31 (ok_setP (ok_newa (c := 101) (n := 4) h24 (ok_setP (ok_newa (c := 101) (n := 8) h17 (ok_setP (ok_newa (c := 101) (n := 4) h10 (ok_setP h5)))))))))))))))))))))))))))) dX10_init_117 ?_
  refine r_aload_n h 0 rfl rfl dX10_init_120 ?_
  refine r_bipush h (v := 8) (by decide) dX10_init_121 ?_
  refine r_newI h (N := 8) q186 (by first | decide | exact nl rfl) (by first | decide | exact nl rfl) (by first | decide | exact nl rfl) (by first | decide | exact nl rfl) (by first | decide | exact nl rfl) dX10_init_123 (fun q107 h108 => ?_)
  replace hw := hw q107 h108
  refine r_putrF h (v := (some q107)) rfl kci11 in11 tyX10_ok nmX10 (k := 15) (by decide) rfl rfl rfl rfl rfl rfl rfl rfl q1187 (ok_newa (c := 101) (n := 8) h108 (ok_setP (ok_newa (c := 101) (n := 8) h101 (ok_setP (ok_newa (c := 101) (n := 8) h94 (ok_setP (ok_newa (c := 101) (n := 144) h87 (ok_setP (ok_newa (c := 101) (n := 12) h80 (ok_setP (ok_newa (c := 101) (n := 12) h73 (ok_setP (ok_newa (c := 101) (n := 12) h66 (ok_setP (ok_newa (c := 101) (n := 12) h59 (ok_setP (ok_newa (c := 101) (n := 12) h52 (ok_setP (ok_newa (c := 101) (n := 12) h45 (ok_setP (ok_newa (c := 101) (n := 4) h38 (ok_setP (ok_newa (c := 101) (n := 4) h31 (ok_setP (ok_newa (c := 101) (n := 4) h24 (ok_setP (ok_newa (c := 101) (n := 8) h17 (ok_setP (ok_newa (c := 101) (n := 4) h10 (ok_setP h5)))))))))))))))))))))))))))))) dX10_init_125 ?_
  refine r_aload_n h 0 rfl rfl dX10_init_128 ?_
  refine r_bipush h (v := 8) (by decide) dX10_init_129 ?_
  refine r_newI h (N := 8) q186 (by first | decide | exact nl rfl) (by first | decide | exact nl rfl) (by first | decide | exact nl rfl) (by first | decide | exact nl rfl) (by first | decide | exact nl rfl) dX10_init_131 (fun q114 h115 => ?_)
  replace hw := hw q114 h115
  refine r_putrF h (v := (some q114)) rfl kci11 in11 tyX10_ok nmX10 (k := 16) (by decide) rfl rfl rfl rfl rfl rfl rfl rfl q1188 (ok_newa (c := 101) (n := 8) h115 (ok_setP (ok_newa (c := 101) (n := 8) h108 (ok_setP (ok_newa (c := 101) (n := 8) h101 (ok_setP (ok_newa (c := 101) (n := 8) h94 (ok_setP (ok_newa (c := 101) (n := 144) h87 (ok_setP (ok_newa (c := 101) (n := 12) h80 (ok_setP (ok_newa (c := 101) (n := 12) h73 (ok_setP (ok_newa (c := 101) (n := 12) h66 (ok_setP (ok_newa (c := 101) (n := 12) h59 (ok_setP (ok_newa (c := 101) (n := 12) h52 (ok_setP (ok_newa (c := 101) (n := 12) h45 (ok_setP (ok_newa (c := 101) (n := 4) h38 (ok_setP (ok_newa (c := 101) (n := 4) h31 (ok_setP (ok_newa (c := 101) (n := 4) h24 (ok_setP (ok_newa (c := 101) (n := 8) h17 (ok_setP (ok_newa (c := 101) (n := 4) h10 (ok_setP h5)))))))))))))))))))))))))))))))) dX10_init_133 ?_
  refine r_aload_n h 0 rfl rfl dX10_init_136 ?_
  refine r_bipush h (v := 8) (by decide) dX10_init_137 ?_
  refine r_newI h (N := 8) q186 (by first | decide | exact nl rfl) (by first | decide | exact nl rfl) (by first | decide | exact nl rfl) (by first | decide | exact nl rfl) (by first | decide | exact nl rfl) dX10_init_139 (fun q121 h122 => ?_)
  replace hw := hw q121 h122
  refine r_putrF h (v := (some q121)) rfl kci11 in11 tyX10_ok nmX10 (k := 17) (by decide) rfl rfl rfl rfl rfl rfl rfl rfl q1189 (ok_newa (c := 101) (n := 8) h122 (ok_setP (ok_newa (c := 101) (n := 8) h115 (ok_setP (ok_newa (c := 101) (n := 8) h108 (ok_setP (ok_newa (c := 101) (n := 8) h101 (ok_setP (ok_newa (c := 101) (n := 8) h94 (ok_setP (ok_newa (c := 101) (n := 144) h87 (ok_setP (ok_newa (c := 101) (n := 12) h80 (ok_setP (ok_newa (c := 101) (n := 12) h73 (ok_setP (ok_newa (c := 101) (n := 12) h66 (ok_setP (ok_newa (c := 101) (n := 12) h59 (ok_setP (ok_newa (c := 101) (n := 12) h52 (ok_setP (ok_newa (c := 101) (n := 12) h45 (ok_setP (ok_newa (c := 101) (n := 4) h38 (ok_setP (ok_newa (c := 101) (n := 4) h31 (ok_setP (ok_newa (c := 101) (n := 4) h24 (ok_setP (ok_newa (c := 101) (n := 8) h17 (ok_setP (ok_newa (c := 101) (n := 4) h10 (ok_setP h5)))))))))))))))))))))))))))))))))) dX10_init_141 ?_
  refine r_aload_n h 0 rfl rfl dX10_init_144 ?_
  refine r_bipush h (v := 40) (by decide) dX10_init_145 ?_
  refine r_newI h (N := 40) q186 (by first | decide | exact nl rfl) (by first | decide | exact nl rfl) (by first | decide | exact nl rfl) (by first | decide | exact nl rfl) (by first | decide | exact nl rfl) dX10_init_147 (fun q128 h129 => ?_)
  replace hw := hw q128 h129
  refine r_putrF h (v := (some q128)) rfl kci11 in11 tyX10_ok nmX10 (k := 18) (by decide) rfl rfl rfl rfl rfl rfl rfl rfl q1190 (ok_newa (c := 101) (n := 40) h129 (ok_setP (ok_newa (c := 101) (n := 8) h122 (ok_setP (ok_newa (c := 101) (n := 8) h115 (ok_setP (ok_newa (c := 101) (n := 8) h108 (ok_setP (ok_newa (c := 101) (n := 8) h101 (ok_setP (ok_newa (c := 101) (n := 8) h94 (ok_setP (ok_newa (c := 101) (n := 144) h87 (ok_setP (ok_newa (c := 101) (n := 12) h80 (ok_setP (ok_newa (c := 101) (n := 12) h73 (ok_setP (ok_newa (c := 101) (n := 12) h66 (ok_setP (ok_newa (c := 101) (n := 12) h59 (ok_setP (ok_newa (c := 101) (n := 12) h52 (ok_setP (ok_newa (c := 101) (n := 12) h45 (ok_setP (ok_newa (c := 101) (n := 4) h38 (ok_setP (ok_newa (c := 101) (n := 4) h31 (ok_setP (ok_newa (c := 101) (n := 4) h24 (ok_setP (ok_newa (c := 101) (n := 8) h17 (ok_setP (ok_newa (c := 101) (n := 4) h10 (ok_setP h5)))))))))))))))))))))))))))))))))))) dX10_init_149 ?_
  refine r_aload_n h 0 rfl rfl dX10_init_152 ?_
  refine r_bipush h (v := 40) (by decide) dX10_init_153 ?_
  refine r_newI h (N := 40) q186 (by first | decide | exact nl rfl) (by first | decide | exact nl rfl) (by first | decide | exact nl rfl) (by first | decide | exact nl rfl) (by first | decide | exact nl rfl) dX10_init_155 (fun q135 h136 => ?_)
  replace hw := hw q135 h136
  refine r_putrF h (v := (some q135)) rfl kci11 in11 tyX10_ok nmX10 (k := 19) (by decide) rfl rfl rfl rfl rfl rfl rfl rfl q1191 (ok_newa (c := 101) (n := 40) h136 (ok_setP (ok_newa (c := 101) (n := 40) h129 (ok_setP (ok_newa (c := 101) (n := 8) h122 (ok_setP (ok_newa (c := 101) (n := 8) h115 (ok_setP (ok_newa (c := 101) (n := 8) h108 (ok_setP (ok_newa (c := 101) (n := 8) h101 (ok_setP (ok_newa (c := 101) (n := 8) h94 (ok_setP (ok_newa (c := 101) (n := 144) h87 (ok_setP (ok_newa (c := 101) (n := 12) h80 (ok_setP (ok_newa (c := 101) (n := 12) h73 (ok_setP (ok_newa (c := 101) (n := 12) h66 (ok_setP (ok_newa (c := 101) (n := 12) h59 (ok_setP (ok_newa (c := 101) (n := 12) h52 (ok_setP (ok_newa (c := 101) (n := 12) h45 (ok_setP (ok_newa (c := 101) (n := 4) h38 (ok_setP (ok_newa (c := 101) (n := 4) h31 (ok_setP (ok_newa (c := 101) (n := 4) h24 (ok_setP (ok_newa (c := 101) (n := 8) h17 (ok_setP (ok_newa (c := 101) (n := 4) h10 (ok_setP h5)))))))))))))))))))))))))))))))))))))) dX10_init_157 ?_
  refine r_aload_n h 0 rfl rfl dX10_init_160 ?_
  refine r_iconst h (v := 5) (by decide) dX10_init_161 ?_
  refine r_newI h (N := 5) q186 (by first | decide | exact nl rfl) (by first | decide | exact nl rfl) (by first | decide | exact nl rfl) (by first | decide | exact nl rfl) (by first | decide | exact nl rfl) dX10_init_162 (fun q142 h143 => ?_)
  replace hw := hw q142 h143
  refine r_putrF h (v := (some q142)) rfl kci11 in11 tyX10_ok nmX10 (k := 20) (by decide) rfl rfl rfl rfl rfl rfl rfl rfl q1192 (ok_newa (c := 101) (n := 5) h143 (ok_setP (ok_newa (c := 101) (n := 40) h136 (ok_setP (ok_newa (c := 101) (n := 40) h129 (ok_setP (ok_newa (c := 101) (n := 8) h122 (ok_setP (ok_newa (c := 101) (n := 8) h115 (ok_setP (ok_newa (c := 101) (n := 8) h108 (ok_setP (ok_newa (c := 101) (n := 8) h101 (ok_setP (ok_newa (c := 101) (n := 8) h94 (ok_setP (ok_newa (c := 101) (n := 144) h87 (ok_setP (ok_newa (c := 101) (n := 12) h80 (ok_setP (ok_newa (c := 101) (n := 12) h73 (ok_setP (ok_newa (c := 101) (n := 12) h66 (ok_setP (ok_newa (c := 101) (n := 12) h59 (ok_setP (ok_newa (c := 101) (n := 12) h52 (ok_setP (ok_newa (c := 101) (n := 12) h45 (ok_setP (ok_newa (c := 101) (n := 4) h38 (ok_setP (ok_newa (c := 101) (n := 4) h31 (ok_setP (ok_newa (c := 101) (n := 4) h24 (ok_setP (ok_newa (c := 101) (n := 8) h17 (ok_setP (ok_newa (c := 101) (n := 4) h10 (ok_setP h5)))))))))))))))))))))))))))))))))))))))) dX10_init_164 ?_
  refine r_aload_n h 0 rfl rfl dX10_init_167 ?_
  refine r_iconst h (v := 5) (by decide) dX10_init_168 ?_
  refine r_newI h (N := 5) q186 (by first | decide | exact nl rfl) (by first | decide | exact nl rfl) (by first | decide | exact nl rfl) (by first | decide | exact nl rfl) (by first | decide | exact nl rfl) dX10_init_169 (fun q149 h150 => ?_)
  replace hw := hw q149 h150
  refine r_putrF h (v := (some q149)) rfl kci11 in11 tyX10_ok nmX10 (k := 21) (by decide) rfl rfl rfl rfl rfl rfl rfl rfl q1193 (ok_newa (c := 101) (n := 5) h150 (ok_setP (ok_newa (c := 101) (n := 5) h143 (ok_setP (ok_newa (c := 101) (n := 40) h136 (ok_setP (ok_newa (c := 101) (n := 40) h129 (ok_setP (ok_newa (c := 101) (n := 8) h122 (ok_setP (ok_newa (c := 101) (n := 8) h115 (ok_setP (ok_newa (c := 101) (n := 8) h108 (ok_setP (ok_newa (c := 101) (n := 8) h101 (ok_setP (ok_newa (c := 101) (n := 8) h94 (ok_setP (ok_newa (c := 101) (n := 144) h87 (ok_setP (ok_newa (c := 101) (n := 12) h80 (ok_setP (ok_newa (c := 101) (n := 12) h73 (ok_setP (ok_newa (c := 101) (n := 12) h66 (ok_setP (ok_newa (c := 101) (n := 12) h59 (ok_setP (ok_newa (c := 101) (n := 12) h52 (ok_setP (ok_newa (c := 101) (n := 12) h45 (ok_setP (ok_newa (c := 101) (n := 4) h38 (ok_setP (ok_newa (c := 101) (n := 4) h31 (ok_setP (ok_newa (c := 101) (n := 4) h24 (ok_setP (ok_newa (c := 101) (n := 8) h17 (ok_setP (ok_newa (c := 101) (n := 4) h10 (ok_setP h5)))))))))))))))))))))))))))))))))))))))))) dX10_init_171 ?_
  refine r_aload_n h 0 rfl rfl dX10_init_174 ?_
  refine r_bipush h (v := 32) (by decide) dX10_init_175 ?_
  refine r_newI h (N := 32) q186 (by first | decide | exact nl rfl) (by first | decide | exact nl rfl) (by first | decide | exact nl rfl) (by first | decide | exact nl rfl) (by first | decide | exact nl rfl) dX10_init_177 (fun q156 h157 => ?_)
  replace hw := hw q156 h157
  refine r_putrF h (v := (some q156)) rfl kci11 in11 tyX10_ok nmX10 (k := 22) (by decide) rfl rfl rfl rfl rfl rfl rfl rfl q1194 (ok_newa (c := 101) (n := 32) h157 (ok_setP (ok_newa (c := 101) (n := 5) h150 (ok_setP (ok_newa (c := 101) (n := 5) h143 (ok_setP (ok_newa (c := 101) (n := 40) h136 (ok_setP (ok_newa (c := 101) (n := 40) h129 (ok_setP (ok_newa (c := 101) (n := 8) h122 (ok_setP (ok_newa (c := 101) (n := 8) h115 (ok_setP (ok_newa (c := 101) (n := 8) h108 (ok_setP (ok_newa (c := 101) (n := 8) h101 (ok_setP (ok_newa (c := 101) (n := 8) h94 (ok_setP (ok_newa (c := 101) (n := 144) h87 (ok_setP (ok_newa (c := 101) (n := 12) h80 (ok_setP (ok_newa (c := 101) (n := 12) h73 (ok_setP (ok_newa (c := 101) (n := 12) h66 (ok_setP (ok_newa (c := 101) (n := 12) h59 (ok_setP (ok_newa (c := 101) (n := 12) h52 (ok_setP (ok_newa (c := 101) (n := 12) h45 (ok_setP (ok_newa (c := 101) (n := 4) h38 (ok_setP (ok_newa (c := 101) (n := 4) h31 (ok_setP (ok_newa (c := 101) (n := 4) h24 (ok_setP (ok_newa (c := 101) (n := 8) h17 (ok_setP (ok_newa (c := 101) (n := 4) h10 (ok_setP h5)))))))))))))))))))))))))))))))))))))))))))) dX10_init_179 ?_
  refine r_aload_n h 0 rfl rfl dX10_init_182 ?_
  refine r_iconst h (v := 0) (by decide) dX10_init_183 ?_
  refine r_puti h kci11 in11 tyX10_ok nmX10 (k := 23) (by decide) rfl rfl rfl rfl rfl rfl q1195 (ok_setP (ok_newa (c := 101) (n := 32) h157 (ok_setP (ok_newa (c := 101) (n := 5) h150 (ok_setP (ok_newa (c := 101) (n := 5) h143 (ok_setP (ok_newa (c := 101) (n := 40) h136 (ok_setP (ok_newa (c := 101) (n := 40) h129 (ok_setP (ok_newa (c := 101) (n := 8) h122 (ok_setP (ok_newa (c := 101) (n := 8) h115 (ok_setP (ok_newa (c := 101) (n := 8) h108 (ok_setP (ok_newa (c := 101) (n := 8) h101 (ok_setP (ok_newa (c := 101) (n := 8) h94 (ok_setP (ok_newa (c := 101) (n := 144) h87 (ok_setP (ok_newa (c := 101) (n := 12) h80 (ok_setP (ok_newa (c := 101) (n := 12) h73 (ok_setP (ok_newa (c := 101) (n := 12) h66 (ok_setP (ok_newa (c := 101) (n := 12) h59 (ok_setP (ok_newa (c := 101) (n := 12) h52 (ok_setP (ok_newa (c := 101) (n := 12) h45 (ok_setP (ok_newa (c := 101) (n := 4) h38 (ok_setP (ok_newa (c := 101) (n := 4) h31 (ok_setP (ok_newa (c := 101) (n := 4) h24 (ok_setP (ok_newa (c := 101) (n := 8) h17 (ok_setP (ok_newa (c := 101) (n := 4) h10 (ok_setP h5))))))))))))))))))))))))))))))))))))))))))))) dX10_init_184 ?_
  refine r_aload_n h 0 rfl rfl dX10_init_187 ?_
  refine r_iconst h (v := 0) (by decide) dX10_init_188 ?_
  refine r_puti h kci11 in11 tyX10_ok nmX10 (k := 24) (by decide) rfl rfl rfl rfl rfl rfl q1196 (ok_setI (ok_setP (ok_newa (c := 101) (n := 32) h157 (ok_setP (ok_newa (c := 101) (n := 5) h150 (ok_setP (ok_newa (c := 101) (n := 5) h143 (ok_setP (ok_newa (c := 101) (n := 40) h136 (ok_setP (ok_newa (c := 101) (n := 40) h129 (ok_setP (ok_newa (c := 101) (n := 8) h122 (ok_setP (ok_newa (c := 101) (n := 8) h115 (ok_setP (ok_newa (c := 101) (n := 8) h108 (ok_setP (ok_newa (c := 101) (n := 8) h101 (ok_setP (ok_newa (c := 101) (n := 8) h94 (ok_setP (ok_newa (c := 101) (n := 144) h87 (ok_setP (ok_newa (c := 101) (n := 12) h80 (ok_setP (ok_newa (c := 101) (n := 12) h73 (ok_setP (ok_newa (c := 101) (n := 12) h66 (ok_setP (ok_newa (c := 101) (n := 12) h59 (ok_setP (ok_newa (c := 101) (n := 12) h52 (ok_setP (ok_newa (c := 101) (n := 12) h45 (ok_setP (ok_newa (c := 101) (n := 4) h38 (ok_setP (ok_newa (c := 101) (n := 4) h31 (ok_setP (ok_newa (c := 101) (n := 4) h24 (ok_setP (ok_newa (c := 101) (n := 8) h17 (ok_setP (ok_newa (c := 101) (n := 4) h10 (ok_setP h5)))))))))))))))))))))))))))))))))))))))))))))) dX10_init_189 ?_
  refine r_aload_n h 0 rfl rfl dX10_init_192 ?_
  refine r_iconst h (v := 0) (by decide) dX10_init_193 ?_
  refine r_puti h kci11 in11 tyX10_ok nmX10 (k := 25) (by decide) rfl rfl rfl rfl rfl rfl q1197 (ok_setI (ok_setI (ok_setP (ok_newa (c := 101) (n := 32) h157 (ok_setP (ok_newa (c := 101) (n := 5) h150 (ok_setP (ok_newa (c := 101) (n := 5) h143 (ok_setP (ok_newa (c := 101) (n := 40) h136 (ok_setP (ok_newa (c := 101) (n := 40) h129 (ok_setP (ok_newa (c := 101) (n := 8) h122 (ok_setP (ok_newa (c := 101) (n := 8) h115 (ok_setP (ok_newa (c := 101) (n := 8) h108 (ok_setP (ok_newa (c := 101) (n := 8) h101 (ok_setP (ok_newa (c := 101) (n := 8) h94 (ok_setP (ok_newa (c := 101) (n := 144) h87 (ok_setP (ok_newa (c := 101) (n := 12) h80 (ok_setP (ok_newa (c := 101) (n := 12) h73 (ok_setP (ok_newa (c := 101) (n := 12) h66 (ok_setP (ok_newa (c := 101) (n := 12) h59 (ok_setP (ok_newa (c := 101) (n := 12) h52 (ok_setP (ok_newa (c := 101) (n := 12) h45 (ok_setP (ok_newa (c := 101) (n := 4) h38 (ok_setP (ok_newa (c := 101) (n := 4) h31 (ok_setP (ok_newa (c := 101) (n := 4) h24 (ok_setP (ok_newa (c := 101) (n := 8) h17 (ok_setP (ok_newa (c := 101) (n := 4) h10 (ok_setP h5))))))))))))))))))))))))))))))))))))))))))))))) dX10_init_194 ?_
  refine r_aload_n h 0 rfl rfl dX10_init_197 ?_
  refine r_iconst h (v := 0) (by decide) dX10_init_198 ?_
  refine r_puti h kci11 in11 tyX10_ok nmX10 (k := 26) (by decide) rfl rfl rfl rfl rfl rfl q1198 (ok_setI (ok_setI (ok_setI (ok_setP (ok_newa (c := 101) (n := 32) h157 (ok_setP (ok_newa (c := 101) (n := 5) h150 (ok_setP (ok_newa (c := 101) (n := 5) h143 (ok_setP (ok_newa (c := 101) (n := 40) h136 (ok_setP (ok_newa (c := 101) (n := 40) h129 (ok_setP (ok_newa (c := 101) (n := 8) h122 (ok_setP (ok_newa (c := 101) (n := 8) h115 (ok_setP (ok_newa (c := 101) (n := 8) h108 (ok_setP (ok_newa (c := 101) (n := 8) h101 (ok_setP (ok_newa (c := 101) (n := 8) h94 (ok_setP (ok_newa (c := 101) (n := 144) h87 (ok_setP (ok_newa (c := 101) (n := 12) h80 (ok_setP (ok_newa (c := 101) (n := 12) h73 (ok_setP (ok_newa (c := 101) (n := 12) h66 (ok_setP (ok_newa (c := 101) (n := 12) h59 (ok_setP (ok_newa (c := 101) (n := 12) h52 (ok_setP (ok_newa (c := 101) (n := 12) h45 (ok_setP (ok_newa (c := 101) (n := 4) h38 (ok_setP (ok_newa (c := 101) (n := 4) h31 (ok_setP (ok_newa (c := 101) (n := 4) h24 (ok_setP (ok_newa (c := 101) (n := 8) h17 (ok_setP (ok_newa (c := 101) (n := 4) h10 (ok_setP h5)))))))))))))))))))))))))))))))))))))))))))))))) dX10_init_199 ?_
  refine r_aload_n h 0 rfl rfl dX10_init_202 ?_
  refine r_iconst h (v := 0) (by decide) dX10_init_203 ?_
  refine r_puti h kci11 in11 tyX10_ok nmX10 (k := 27) (by decide) rfl rfl rfl rfl rfl rfl q1199 (ok_setI (ok_setI (ok_setI (ok_setI (ok_setP (ok_newa (c := 101) (n := 32) h157 (ok_setP (ok_newa (c := 101) (n := 5) h150 (ok_setP (ok_newa (c := 101) (n := 5) h143 (ok_setP (ok_newa (c := 101) (n := 40) h136 (ok_setP (ok_newa (c := 101) (n := 40) h129 (ok_setP (ok_newa (c := 101) (n := 8) h122 (ok_setP (ok_newa (c := 101) (n := 8) h115 (ok_setP (ok_newa (c := 101) (n := 8) h108 (ok_setP (ok_newa (c := 101) (n := 8) h101 (ok_setP (ok_newa (c := 101) (n := 8) h94 (ok_setP (ok_newa (c := 101) (n := 144) h87 (ok_setP (ok_newa (c := 101) (n := 12) h80 (ok_setP (ok_newa (c := 101) (n := 12) h73 (ok_setP (ok_newa (c := 101) (n := 12) h66 (ok_setP (ok_newa (c := 101) (n := 12) h59 (ok_setP (ok_newa (c := 101) (n := 12) h52 (ok_setP (ok_newa (c := 101) (n := 12) h45 (ok_setP (ok_newa (c := 101) (n := 4) h38 (ok_setP (ok_newa (c := 101) (n := 4) h31 (ok_setP (ok_newa (c := 101) (n := 4) h24 (ok_setP (ok_newa (c := 101) (n := 8) h17 (ok_setP (ok_newa (c := 101) (n := 4) h10 (ok_setP h5))))))))))))))))))))))))))))))))))))))))))))))))) dX10_init_204 ?_
  refine r_aload_n h 0 rfl rfl dX10_init_207 ?_
  refine r_iconst h (v := 0) (by decide) dX10_init_208 ?_
  refine r_puti h kci11 in11 tyX10_ok nmX10 (k := 28) (by decide) rfl rfl rfl rfl rfl rfl q1200 (ok_setI (ok_setI (ok_setI (ok_setI (ok_setI (ok_setP (ok_newa (c := 101) (n := 32) h157 (ok_setP (ok_newa (c := 101) (n := 5) h150 (ok_setP (ok_newa (c := 101) (n := 5) h143 (ok_setP (ok_newa (c := 101) (n := 40) h136 (ok_setP (ok_newa (c := 101) (n := 40) h129 (ok_setP (ok_newa (c := 101) (n := 8) h122 (ok_setP (ok_newa (c := 101) (n := 8) h115 (ok_setP (ok_newa (c := 101) (n := 8) h108 (ok_setP (ok_newa (c := 101) (n := 8) h101 (ok_setP (ok_newa (c := 101) (n := 8) h94 (ok_setP (ok_newa (c := 101) (n := 144) h87 (ok_setP (ok_newa (c := 101) (n := 12) h80 (ok_setP (ok_newa (c := 101) (n := 12) h73 (ok_setP (ok_newa (c := 101) (n := 12) h66 (ok_setP (ok_newa (c := 101) (n := 12) h59 (ok_setP (ok_newa (c := 101) (n := 12) h52 (ok_setP (ok_newa (c := 101) (n := 12) h45 (ok_setP (ok_newa (c := 101) (n := 4) h38 (ok_setP (ok_newa (c := 101) (n := 4) h31 (ok_setP (ok_newa (c := 101) (n := 4) h24 (ok_setP (ok_newa (c := 101) (n := 8) h17 (ok_setP (ok_newa (c := 101) (n := 4) h10 (ok_setP h5)))))))))))))))))))))))))))))))))))))))))))))))))) dX10_init_209 ?_
  exact r_vret h hq rfl ⟨rfl, hw⟩ (by decide) (by decide) dX10_init_212

def w_X10_thrown (S : St) (a0 : Nat) (f : Int32 → St → Prop) : Prop := ok S a0 11 ∧ f (sI S a0 23) S
set_option maxRecDepth 100000 in
set_option maxHeartbeats 4000000 in
theorem c_X10_thrown (l : Launch) (S : St) (a0 : Nat) (f : Int32 → St → Prop) (hw : w_X10_thrown S a0 f) : Ct l yX10_thrown (Cond.code yX10_thrown cX10_thrown 1 (some .int)) { frames := 0, cells := 0, slots := 0, locals := 0 } 0 0 S [.ref a0] (pI f) nox := by
  refine entry (by decide +kernel) rfl rfl (by first | decide | exact nl rfl) rfl ?_
  intro X h hq
  unfold w_X10_thrown at hw
  refine r_aload_n h 0 rfl rfl dX10_thrown_0 ?_
  obtain ⟨h1, hw⟩ := hw
  refine r_geti h kci11 in11 (k := 23) (by decide) rfl rfl q1195 h1 dX10_thrown_1 ?_
  exact r_iret h hq rfl ⟨_, rfl, hw⟩ (by decide) (by decide) dX10_thrown_4

def w_X10_in (S : St) (x0 : Int32) (x1 : Int32) (x2 : Int32) (f : Int32 → St → Prop) : Prop := (((x0 < x1) → f 0 S) ∧ ((¬ x0 < x1) → (((x2 < x0) → f 0 S) ∧ ((¬ x2 < x0) → f 1 S))))
set_option maxRecDepth 100000 in
set_option maxHeartbeats 4000000 in
theorem c_X10_in (l : Launch) (S : St) (x0 : Int32) (x1 : Int32) (x2 : Int32) (f : Int32 → St → Prop) (hw : w_X10_in S x0 x1 x2 f) : Ct l yX10_in (Cond.code yX10_in cX10_in 3 (some .boolean)) { frames := 0, cells := 0, slots := 0, locals := 0 } 0 0 S [.int x0, .int x1, .int x2] (pI f) nox := by
  refine entry (by decide +kernel) rfl rfl (by first | decide | exact nl rfl) rfl ?_
  intro X h hq
  unfold w_X10_in at hw
  refine r_iload_n h 0 rfl rfl dX10_in_0 ?_
  refine r_iload_n h 1 rfl rfl dX10_in_1 ?_
  refine r_icmp_lt h 14 dX10_in_2 (by decide) (fun hc => ?_) (fun hc => ?_)
  · replace hw := hw.1 hc
    refine r_iconst h (v := 0) (by decide) dX10_in_14 ?_
    exact r_zret h hq (ty := .boolean) rfl rfl ⟨_, rfl, hw⟩ (by decide) (by decide) dX10_in_15
  · replace hw := hw.2 hc
    refine r_iload_n h 0 rfl rfl dX10_in_5 ?_
    refine r_iload_n h 2 rfl rfl dX10_in_6 ?_
    refine r_icmp_gt h 14 dX10_in_7 (by decide) (fun hc => ?_) (fun hc => ?_)
    · replace hw := hw.1 hc
      refine r_iconst h (v := 0) (by decide) dX10_in_14 ?_
      exact r_zret h hq (ty := .boolean) rfl rfl ⟨_, rfl, hw⟩ (by decide) (by decide) dX10_in_15
    · replace hw := hw.2 hc
      refine r_iconst h (v := 1) (by decide) dX10_in_10 ?_
      refine r_goto h 15 dX10_in_11 (by decide) ?_
      exact r_zret h hq (ty := .boolean) rfl rfl ⟨_, rfl, hw⟩ (by decide) (by decide) dX10_in_15

def w_X10_plain (S : St) (a0 : Nat) (x1 : Int32) (f : Int32 → St → Prop) : Prop := ok S a0 11 ∧ let S2 : St := setI S a0 23 0; f x1 S2
set_option maxRecDepth 100000 in
set_option maxHeartbeats 4000000 in
theorem c_X10_plain (l : Launch) (S : St) (a0 : Nat) (x1 : Int32) (f : Int32 → St → Prop) (hw : w_X10_plain S a0 x1 f) : Ct l yX10_plain (Cond.code yX10_plain cX10_plain 2 (some .int)) { frames := 0, cells := 0, slots := 0, locals := 0 } 0 0 S [.ref a0, .int x1] (pI f) nox := by
  refine entry (by decide +kernel) rfl rfl (by first | decide | exact nl rfl) rfl ?_
  intro X h hq
  unfold w_X10_plain at hw
  refine r_aload_n h 0 rfl rfl dX10_plain_0 ?_
  refine r_iconst h (v := 0) (by decide) dX10_plain_1 ?_
  obtain ⟨h1, hw⟩ := hw
  refine r_puti h kci11 in11 tyX10_ok nmX10 (k := 23) (by decide) rfl rfl rfl rfl rfl rfl q1195 h1 dX10_plain_2 ?_
  refine r_iload_n h 1 rfl rfl dX10_plain_5 ?_
  exact r_iret h hq rfl ⟨_, rfl, hw⟩ (by decide) (by decide) dX10_plain_6

def w_X10_checked (S : St) (a0 : Nat) (x1 : Int32) (f : Int32 → St → Prop) : Prop := (((x1 = 0) → ok S a0 11 ∧ let S2 : St := setI S a0 23 1; f (sI S2 a0 23) S2) ∧ ((¬ x1 = 0) → ok S a0 11 ∧ let S4 : St := setI S a0 23 0; f (sI S4 a0 23) S4))
set_option maxRecDepth 100000 in
set_option maxHeartbeats 4000000 in
theorem c_X10_checked (l : Launch) (S : St) (a0 : Nat) (x1 : Int32) (f : Int32 → St → Prop) (hw : w_X10_checked S a0 x1 f) : Ct l yX10_checked (Cond.code yX10_checked cX10_checked 2 (some .int)) { frames := 0, cells := 0, slots := 0, locals := 0 } 0 0 S [.ref a0, .int x1] (pI f) nox := by
  refine entry (by decide +kernel) rfl rfl (by first | decide | exact nl rfl) rfl ?_
  intro X h hq
  unfold w_X10_checked at hw
  refine r_aload_n h 0 rfl rfl dX10_checked_0 ?_
  refine r_iload_n h 1 rfl rfl dX10_checked_1 ?_
  refine r_if_eq h 9 dX10_checked_2 (by decide) (fun hc => ?_) (fun hc => ?_)
  · replace hw := hw.1 hc
    refine r_iconst h (v := 1) (by decide) dX10_checked_9 ?_
    obtain ⟨h1, hw⟩ := hw
    refine r_puti h kci11 in11 tyX10_ok nmX10 (k := 23) (by decide) rfl rfl rfl rfl rfl rfl q1195 h1 dX10_checked_10 ?_
    refine r_aload_n h 0 rfl rfl dX10_checked_13 ?_
    refine r_geti h kci11 in11 (k := 23) (by decide) rfl rfl q1195 h1 dX10_checked_14 ?_
    exact r_iret h hq rfl ⟨_, rfl, hw⟩ (by decide) (by decide) dX10_checked_17
  · replace hw := hw.2 hc
    refine r_iconst h (v := 0) (by decide) dX10_checked_5 ?_
    refine r_goto h 10 dX10_checked_6 (by decide) ?_
    obtain ⟨h3, hw⟩ := hw
    refine r_puti h kci11 in11 tyX10_ok nmX10 (k := 23) (by decide) rfl rfl rfl rfl rfl rfl q1195 h3 dX10_checked_10 ?_
    refine r_aload_n h 0 rfl rfl dX10_checked_13 ?_
    refine r_geti h kci11 in11 (k := 23) (by decide) rfl rfl q1195 h3 dX10_checked_14 ?_
    exact r_iret h hq rfl ⟨_, rfl, hw⟩ (by decide) (by decide) dX10_checked_17

def w_X10_isRoom (S : St) (a0 : Nat) (x1 : Int32) (f : Int32 → St → Prop) : Prop := ok S a0 11 ∧ w_X10_in S x1 0 ((sI S a0 24) - 1) (fun (r2 : Int32) (S3 : St) => (r2 = 0 ∨ r2 = 1) ∧ f r2 S3)
set_option maxRecDepth 100000 in
set_option maxHeartbeats 4000000 in
theorem c_X10_isRoom (l : Launch) (S : St) (a0 : Nat) (x1 : Int32) (f : Int32 → St → Prop) (hw : w_X10_isRoom S a0 x1 f) : Ct l yX10_isRoom (Cond.code yX10_isRoom cX10_isRoom 2 (some .boolean)) { frames := 1, cells := 0, slots := 0, locals := 22 } 0 0 S [.ref a0, .int x1] (pI f) nox := by
  refine entry (by decide +kernel) rfl rfl (by first | decide | exact nl rfl) rfl ?_
  intro X h hq
  unfold w_X10_isRoom at hw
  refine r_iload_n h 1 rfl rfl dX10_isRoom_0 ?_
  refine r_iconst h (v := 0) (by decide) dX10_isRoom_1 ?_
  refine r_aload_n h 0 rfl rfl dX10_isRoom_2 ?_
  obtain ⟨h1, hw⟩ := hw
  refine r_geti h kci11 in11 (k := 24) (by decide) rfl rfl q1196 h1 dX10_isRoom_3 ?_
  refine r_iconst h (v := 1) (by decide) dX10_isRoom_6 ?_
  refine r_isub h dX10_isRoom_7 ?_
  refine r_callS h (fun l => c_X10_in l _ _ _ _ _ hw) q1268 q1269 q64 q1270 nd_X10_in ⟨by decide, by decide⟩ rfl rfl ⟨by decide, by decide⟩ (as := [.int x1, .int 0, .int ((sI S a0 24) - 1)]) rfl (by first | decide | exact nl rfl) rfl dX10_isRoom_8 nxk (kI fun r2 S3 hw => ?_)
  obtain ⟨h5, hw⟩ := hw
  exact r_zret h hq (ty := .boolean) rfl (lb h5) ⟨_, rfl, hw⟩ (by decide) (by decide) dX10_isRoom_11

def w_X10_isWork (S : St) (a0 : Nat) (x1 : Int32) (f : Int32 → St → Prop) : Prop := ok S a0 11 ∧ w_X10_in S x1 0 ((sI S a0 26) - 1) (fun (r2 : Int32) (S3 : St) => (r2 = 0 ∨ r2 = 1) ∧ f r2 S3)
set_option maxRecDepth 100000 in
set_option maxHeartbeats 4000000 in
theorem c_X10_isWork (l : Launch) (S : St) (a0 : Nat) (x1 : Int32) (f : Int32 → St → Prop) (hw : w_X10_isWork S a0 x1 f) : Ct l yX10_isWork (Cond.code yX10_isWork cX10_isWork 2 (some .boolean)) { frames := 1, cells := 0, slots := 0, locals := 22 } 0 0 S [.ref a0, .int x1] (pI f) nox := by
  refine entry (by decide +kernel) rfl rfl (by first | decide | exact nl rfl) rfl ?_
  intro X h hq
  unfold w_X10_isWork at hw
  refine r_iload_n h 1 rfl rfl dX10_isWork_0 ?_
  refine r_iconst h (v := 0) (by decide) dX10_isWork_1 ?_
  refine r_aload_n h 0 rfl rfl dX10_isWork_2 ?_
  obtain ⟨h1, hw⟩ := hw
  refine r_geti h kci11 in11 (k := 26) (by decide) rfl rfl q1198 h1 dX10_isWork_3 ?_
  refine r_iconst h (v := 1) (by decide) dX10_isWork_6 ?_
  refine r_isub h dX10_isWork_7 ?_
  refine r_callS h (fun l => c_X10_in l _ _ _ _ _ hw) q1268 q1269 q64 q1270 nd_X10_in ⟨by decide, by decide⟩ rfl rfl ⟨by decide, by decide⟩ (as := [.int x1, .int 0, .int ((sI S a0 26) - 1)]) rfl (by first | decide | exact nl rfl) rfl dX10_isWork_8 nxk (kI fun r2 S3 hw => ?_)
  obtain ⟨h5, hw⟩ := hw
  exact r_zret h hq (ty := .boolean) rfl (lb h5) ⟨_, rfl, hw⟩ (by decide) (by decide) dX10_isWork_11

def w_X10_isExhibition (S : St) (a0 : Nat) (x1 : Int32) (f : Int32 → St → Prop) : Prop := ok S a0 11 ∧ w_X10_in S x1 0 ((sI S a0 27) - 1) (fun (r2 : Int32) (S3 : St) => (r2 = 0 ∨ r2 = 1) ∧ f r2 S3)
set_option maxRecDepth 100000 in
set_option maxHeartbeats 4000000 in
theorem c_X10_isExhibition (l : Launch) (S : St) (a0 : Nat) (x1 : Int32) (f : Int32 → St → Prop) (hw : w_X10_isExhibition S a0 x1 f) : Ct l yX10_isExhibition (Cond.code yX10_isExhibition cX10_isExhibition 2 (some .boolean)) { frames := 1, cells := 0, slots := 0, locals := 22 } 0 0 S [.ref a0, .int x1] (pI f) nox := by
  refine entry (by decide +kernel) rfl rfl (by first | decide | exact nl rfl) rfl ?_
  intro X h hq
  unfold w_X10_isExhibition at hw
  refine r_iload_n h 1 rfl rfl dX10_isExhibition_0 ?_
  refine r_iconst h (v := 0) (by decide) dX10_isExhibition_1 ?_
  refine r_aload_n h 0 rfl rfl dX10_isExhibition_2 ?_
  obtain ⟨h1, hw⟩ := hw
  refine r_geti h kci11 in11 (k := 27) (by decide) rfl rfl q1199 h1 dX10_isExhibition_3 ?_
  refine r_iconst h (v := 1) (by decide) dX10_isExhibition_6 ?_
  refine r_isub h dX10_isExhibition_7 ?_
  refine r_callS h (fun l => c_X10_in l _ _ _ _ _ hw) q1268 q1269 q64 q1270 nd_X10_in ⟨by decide, by decide⟩ rfl rfl ⟨by decide, by decide⟩ (as := [.int x1, .int 0, .int ((sI S a0 27) - 1)]) rfl (by first | decide | exact nl rfl) rfl dX10_isExhibition_8 nxk (kI fun r2 S3 hw => ?_)
  obtain ⟨h5, hw⟩ := hw
  exact r_zret h hq (ty := .boolean) rfl (lb h5) ⟨_, rfl, hw⟩ (by decide) (by decide) dX10_isExhibition_11

def w_X10_travelOf (S : St) (a0 : Nat) (x1 : Int32) (f : Int32 → St → Prop) : Prop := ok S a0 11 ∧ ∃ b2 : Nat, sP S a0 11 = some b2 ∧ ok S b2 101 ∧ vp_in x1 (sN S b2) ∧ (((0 ≤ (sI S b2 (Int32.toNatClampNeg x1))) → ∃ b6 : Nat, sP S a0 4 = some b6 ∧ ok S b6 101 ∧ vp_in (sI S b2 (Int32.toNatClampNeg x1)) (sN S b6) ∧ f (sI S b6 (Int32.toNatClampNeg (sI S b2 (Int32.toNatClampNeg x1)))) S) ∧ ((¬ 0 ≤ (sI S b2 (Int32.toNatClampNeg x1))) → f 0 S))
set_option maxRecDepth 100000 in
set_option maxHeartbeats 4000000 in
theorem c_X10_travelOf (l : Launch) (S : St) (a0 : Nat) (x1 : Int32) (f : Int32 → St → Prop) (hw : w_X10_travelOf S a0 x1 f) : Ct l yX10_travelOf (Cond.code yX10_travelOf cX10_travelOf 2 (some .int)) { frames := 0, cells := 0, slots := 0, locals := 0 } 0 0 S [.ref a0, .int x1] (pI f) nox := by
  refine entry (by decide +kernel) rfl rfl (by first | decide | exact nl rfl) rfl ?_
  intro X h hq
  unfold w_X10_travelOf at hw
  refine r_aload_n h 0 rfl rfl dX10_travelOf_0 ?_
  obtain ⟨h1, hw⟩ := hw
  obtain ⟨b2, h3, hw⟩ := hw
  refine r_getr h kci11 in11 (k := 11) (by decide) rfl rfl q1183 h1 h3 dX10_travelOf_1 ?_
  refine r_iload_n h 1 rfl rfl dX10_travelOf_4 ?_
  obtain ⟨h4, hw⟩ := hw
  obtain ⟨h5, hw⟩ := hw
  refine r_iald h h4 h5 dX10_travelOf_5 ?_
  refine r_if_ge h 13 dX10_travelOf_6 (by decide) (fun hc => ?_) (fun hc => ?_)
  · replace hw := hw.1 hc
    refine r_aload_n h 0 rfl rfl dX10_travelOf_13 ?_
    obtain ⟨b6, h7, hw⟩ := hw
    refine r_getr h kci11 in11 (k := 4) (by decide) rfl rfl q1176 h1 h7 dX10_travelOf_14 ?_
    refine r_aload_n h 0 rfl rfl dX10_travelOf_17 ?_
    refine r_getr h kci11 in11 (k := 11) (by decide) rfl rfl q1183 h1 h3 dX10_travelOf_18 ?_
    refine r_iload_n h 1 rfl rfl dX10_travelOf_21 ?_
    refine r_iald h h4 h5 dX10_travelOf_22 ?_
    obtain ⟨h8, hw⟩ := hw
    obtain ⟨h9, hw⟩ := hw
    refine r_iald h h8 h9 dX10_travelOf_23 ?_
    exact r_iret h hq rfl ⟨_, rfl, hw⟩ (by decide) (by decide) dX10_travelOf_24
  · replace hw := hw.2 hc
    refine r_iconst h (v := 0) (by decide) dX10_travelOf_9 ?_
    refine r_goto h 24 dX10_travelOf_10 (by decide) ?_
    exact r_iret h hq rfl ⟨_, rfl, hw⟩ (by decide) (by decide) dX10_travelOf_24

def wl_X10_includes_2 (f : Int32 → St → Prop) : Nat → St → Nat → Int32 → Int32 → Int32 → Prop
  | 0, _, _, _, _, _ => False
  | n + 1, S, a0, x1, x2, x3 => ok S a0 11 ∧ ∃ b3 : Nat, sP S a0 17 = some b3 ∧ ok S b3 101 ∧ vp_in x1 (sN S b3) ∧ ((((sI S b3 (Int32.toNatClampNeg x1)) ≤ x3) → f 0 S) ∧ ((¬ (sI S b3 (Int32.toNatClampNeg x1)) ≤ x3) → ∃ b7 : Nat, sP S a0 18 = some b7 ∧ ok S b7 101 ∧ vp_in ((5 * x1) + x3) (sN S b7) ∧ (((¬ (sI S b7 (Int32.toNatClampNeg ((5 * x1) + x3))) = x2) → wl_X10_includes_2 f n S a0 x1 x2 (x3 + 1)) ∧ (((sI S b7 (Int32.toNatClampNeg ((5 * x1) + x3))) = x2) → f 1 S))))
def w_X10_includes (S : St) (a0 : Nat) (x1 : Int32) (x2 : Int32) (f : Int32 → St → Prop) : Prop := (∃ m : Nat, wl_X10_includes_2 f m S a0 x1 x2 0)
set_option maxRecDepth 100000 in
set_option maxHeartbeats 4000000 in
theorem c_X10_includes (l : Launch) (S : St) (a0 : Nat) (x1 : Int32) (x2 : Int32) (f : Int32 → St → Prop) (hw : w_X10_includes S a0 x1 x2 f) : Ct l yX10_includes (Cond.code yX10_includes cX10_includes 4 (some .boolean)) { frames := 0, cells := 0, slots := 0, locals := 0 } 0 0 S [.ref a0, .int x1, .int x2] (pI f) nox := by
  refine entry (by decide +kernel) rfl rfl (by first | decide | exact nl rfl) rfl ?_
  intro X h hq
  have L2 : ∀ (n : Nat) (S : St) (a0 : Nat) (x1 : Int32) (x2 : Int32) (x3 : Int32), wl_X10_includes_2 f n S a0 x1 x2 x3 → pw X 0 0 S 2 [(0, .ref a0), (1, .int x1), (2, .int x2), (3, .int x3)] [] := by
    intro n
    induction n with
    | zero => intro S a0 x1 x2 x3 hw; exact hw.elim
    | succ n ih =>
      intro S a0 x1 x2 x3 hw
      unfold wl_X10_includes_2 at hw
      refine r_iload_n h 3 rfl rfl dX10_includes_2 ?_
      refine r_aload_n h 0 rfl rfl dX10_includes_3 ?_
      obtain ⟨h2, hw⟩ := hw
      obtain ⟨b3, h4, hw⟩ := hw
      refine r_getr h kci11 in11 (k := 17) (by decide) rfl rfl q1189 h2 h4 dX10_includes_4 ?_
      refine r_iload_n h 1 rfl rfl dX10_includes_7 ?_
      obtain ⟨h5, hw⟩ := hw
      obtain ⟨h6, hw⟩ := hw
      refine r_iald h h5 h6 dX10_includes_8 ?_
      refine r_icmp_ge h 34 dX10_includes_9 (by decide) (fun hc => ?_) (fun hc => ?_)
      · replace hw := hw.1 hc
        refine r_iconst h (v := 0) (by decide) dX10_includes_34 ?_
        exact r_zret h hq (ty := .boolean) rfl rfl ⟨_, rfl, hw⟩ (by decide) (by decide) dX10_includes_35
      · replace hw := hw.2 hc
        refine r_aload_n h 0 rfl rfl dX10_includes_12 ?_
        obtain ⟨b7, h8, hw⟩ := hw
        refine r_getr h kci11 in11 (k := 18) (by decide) rfl rfl q1190 h2 h8 dX10_includes_13 ?_
        refine r_iconst h (v := 5) (by decide) dX10_includes_16 ?_
        refine r_iload_n h 1 rfl rfl dX10_includes_17 ?_
        refine r_imul h dX10_includes_18 ?_
        refine r_iload_n h 3 rfl rfl dX10_includes_19 ?_
        refine r_iadd h dX10_includes_20 ?_
        obtain ⟨h9, hw⟩ := hw
        obtain ⟨h10, hw⟩ := hw
        refine r_iald h h9 h10 dX10_includes_21 ?_
        refine r_iload_n h 2 rfl rfl dX10_includes_22 ?_
        refine r_icmp_ne h 28 dX10_includes_23 (by decide) (fun hc => ?_) (fun hc => ?_)
        · replace hw := hw.1 hc
          refine r_iinc h (j := 3) (v := (x3 + 1)) [1, 2, 3, 0] rfl rfl (by decide) rfl dX10_includes_28 ?_
          refine r_goto h 2 dX10_includes_31 (by decide) ?_
          exact ih _ _ _ _ _ hw
        · replace hw := hw.2 hc
          refine r_iconst h (v := 1) (by decide) dX10_includes_26 ?_
          exact r_zret h hq (ty := .boolean) rfl rfl ⟨_, rfl, hw⟩ (by decide) (by decide) dX10_includes_27
  unfold w_X10_includes at hw
  refine r_iconst h (v := 0) (by decide) dX10_includes_0 ?_
  refine r_istore_n h [1, 2, 3, 0] rfl (by decide) rfl dX10_includes_1 ?_
  obtain ⟨m, hw⟩ := hw
  exact L2 m _ _ _ _ _ hw

def wl_X10_isElsewhere_11 (f : Int32 → St → Prop) : Nat → St → Nat → Int32 → Int32 → Int32 → Int32 → Prop
  | 0, _, _, _, _, _, _ => False
  | n + 1, S, a0, x1, x2, x3, x4 => ok S a0 11 ∧ ((((sI S a0 27) ≤ x4) → f 0 S) ∧ ((¬ (sI S a0 27) ≤ x4) → (((x4 = x1) → wl_X10_isElsewhere_11 f n S a0 x1 x2 x3 (x4 + 1)) ∧ ((¬ x4 = x1) → ∃ b7 : Nat, sP S a0 16 = some b7 ∧ ok S b7 101 ∧ vp_in x4 (sN S b7) ∧ (((¬ (sI S b7 (Int32.toNatClampNeg x4)) = 112) → wl_X10_isElsewhere_11 f n S a0 x1 x2 x3 (x4 + 1)) ∧ (((sI S b7 (Int32.toNatClampNeg x4)) = 112) → w_X10_includes S a0 x4 x2 (fun (r11 : Int32) (S12 : St) => (((¬ r11 = 0) → ok S12 a0 11 ∧ ∃ b15 : Nat, sP S12 a0 13 = some b15 ∧ ok S12 b15 101 ∧ vp_in x1 (sN S12 b15) ∧ ∃ b19 : Nat, sP S12 a0 14 = some b19 ∧ ok S12 b19 101 ∧ vp_in x4 (sN S12 b19) ∧ ((((sI S12 b19 (Int32.toNatClampNeg x4)) < ((sI S12 b15 (Int32.toNatClampNeg x1)) - x3)) → wl_X10_isElsewhere_11 f n S12 a0 x1 x2 x3 (x4 + 1)) ∧ ((¬ (sI S12 b19 (Int32.toNatClampNeg x4)) < ((sI S12 b15 (Int32.toNatClampNeg x1)) - x3)) → vp_in x4 (sN S12 b15) ∧ vp_in x1 (sN S12 b19) ∧ ((((sI S12 b19 (Int32.toNatClampNeg x1)) < ((sI S12 b15 (Int32.toNatClampNeg x4)) - x3)) → wl_X10_isElsewhere_11 f n S12 a0 x1 x2 x3 (x4 + 1)) ∧ ((¬ (sI S12 b19 (Int32.toNatClampNeg x1)) < ((sI S12 b15 (Int32.toNatClampNeg x4)) - x3)) → f 1 S12))))) ∧ ((r11 = 0) → wl_X10_isElsewhere_11 f n S12 a0 x1 x2 x3 (x4 + 1))))))))))
def w_X10_isElsewhere (S : St) (a0 : Nat) (x1 : Int32) (x2 : Int32) (f : Int32 → St → Prop) : Prop := ok S a0 11 ∧ w_X10_travelOf S a0 x2 (fun (r2 : Int32) (S3 : St) => (∃ m : Nat, wl_X10_isElsewhere_11 f m S3 a0 x1 x2 (2 * r2) 0))
set_option maxRecDepth 100000 in
set_option maxHeartbeats 4000000 in
theorem c_X10_isElsewhere (l : Launch) (S : St) (a0 : Nat) (x1 : Int32) (x2 : Int32) (f : Int32 → St → Prop) (hw : w_X10_isElsewhere S a0 x1 x2 f) : Ct l yX10_isElsewhere (Cond.code yX10_isElsewhere cX10_isElsewhere 5 (some .boolean)) { frames := 1, cells := 0, slots := 0, locals := 23 } 0 0 S [.ref a0, .int x1, .int x2] (pI f) nox := by
  refine entry (by decide +kernel) rfl rfl (by first | decide | exact nl rfl) rfl ?_
  intro X h hq
  have L11 : ∀ (n : Nat) (S : St) (a0 : Nat) (x1 : Int32) (x2 : Int32) (x3 : Int32) (x4 : Int32), wl_X10_isElsewhere_11 f n S a0 x1 x2 x3 x4 → pw X 0 0 S 11 [(0, .ref a0), (1, .int x1), (2, .int x2), (3, .int x3), (4, .int x4)] [] := by
    intro n
    induction n with
    | zero => intro S a0 x1 x2 x3 x4 hw; exact hw.elim
    | succ n ih =>
      intro S a0 x1 x2 x3 x4 hw
      unfold wl_X10_isElsewhere_11 at hw
      refine r_iload h 4 rfl dX10_isElsewhere_11 ?_
      refine r_aload_n h 0 rfl rfl dX10_isElsewhere_13 ?_
      obtain ⟨h6, hw⟩ := hw
      refine r_geti h kci11 in11 (k := 27) (by decide) rfl rfl q1199 h6 dX10_isElsewhere_14 ?_
      refine r_icmp_ge h 95 dX10_isElsewhere_17 (by decide) (fun hc => ?_) (fun hc => ?_)
      · replace hw := hw.1 hc
        refine r_iconst h (v := 0) (by decide) dX10_isElsewhere_95 ?_
        exact r_zret h hq (ty := .boolean) rfl rfl ⟨_, rfl, hw⟩ (by decide) (by decide) dX10_isElsewhere_96
      · replace hw := hw.2 hc
        refine r_iload h 4 rfl dX10_isElsewhere_20 ?_
        refine r_iload_n h 1 rfl rfl dX10_isElsewhere_22 ?_
        refine r_icmp_eq h 89 dX10_isElsewhere_23 (by decide) (fun hc => ?_) (fun hc => ?_)
        · replace hw := hw.1 hc
          refine r_iinc h (j := 4) (v := (x4 + 1)) [1, 2, 3, 4, 0] rfl rfl (by decide) rfl dX10_isElsewhere_89 ?_
          refine r_goto h 11 dX10_isElsewhere_92 (by decide) ?_
          exact ih _ _ _ _ _ _ hw
        · replace hw := hw.2 hc
          refine r_aload_n h 0 rfl rfl dX10_isElsewhere_26 ?_
          obtain ⟨b7, h8, hw⟩ := hw
          refine r_getr h kci11 in11 (k := 16) (by decide) rfl rfl q1188 h6 h8 dX10_isElsewhere_27 ?_
          refine r_iload h 4 rfl dX10_isElsewhere_30 ?_
          obtain ⟨h9, hw⟩ := hw
          obtain ⟨h10, hw⟩ := hw
          refine r_iald h h9 h10 dX10_isElsewhere_32 ?_
          refine r_bipush h (v := 112) (by decide) dX10_isElsewhere_33 ?_
          refine r_icmp_ne h 89 dX10_isElsewhere_35 (by decide) (fun hc => ?_) (fun hc => ?_)
          · replace hw := hw.1 hc
            refine r_iinc h (j := 4) (v := (x4 + 1)) [1, 2, 3, 4, 0] rfl rfl (by decide) rfl dX10_isElsewhere_89 ?_
            refine r_goto h 11 dX10_isElsewhere_92 (by decide) ?_
            exact ih _ _ _ _ _ _ hw
          · replace hw := hw.2 hc
            refine r_aload_n h 0 rfl rfl dX10_isElsewhere_38 ?_
            refine r_iload h 4 rfl dX10_isElsewhere_39 ?_
            refine r_iload_n h 2 rfl rfl dX10_isElsewhere_41 ?_
            refine r_callV h (fun l => c_X10_includes l _ _ _ _ _ hw) q1295 q1297 q33 q64 q1298 nd_X10_includes ⟨by decide, by decide⟩ rfl rfl ⟨by decide, by decide⟩ kci11 rfl h6 rfl (by first | decide | exact nl rfl) rfl dX10_isElsewhere_42 nxk (kI fun r11 S12 hw => ?_)
            refine r_if_ne h 51 dX10_isElsewhere_45 (by decide) (fun hc => ?_) (fun hc => ?_)
            · replace hw := hw.1 hc
              refine r_aload_n h 0 rfl rfl dX10_isElsewhere_51 ?_
              obtain ⟨h14, hw⟩ := hw
              obtain ⟨b15, h16, hw⟩ := hw
              refine r_getr h kci11 in11 (k := 13) (by decide) rfl rfl q1185 h14 h16 dX10_isElsewhere_52 ?_
              refine r_iload_n h 1 rfl rfl dX10_isElsewhere_55 ?_
              obtain ⟨h17, hw⟩ := hw
              obtain ⟨h18, hw⟩ := hw
              refine r_iald h h17 h18 dX10_isElsewhere_56 ?_
              refine r_iload_n h 3 rfl rfl dX10_isElsewhere_57 ?_
              refine r_isub h dX10_isElsewhere_58 ?_
              refine r_aload_n h 0 rfl rfl dX10_isElsewhere_59 ?_
              obtain ⟨b19, h20, hw⟩ := hw
              refine r_getr h kci11 in11 (k := 14) (by decide) rfl rfl q1186 h14 h20 dX10_isElsewhere_60 ?_
              refine r_iload h 4 rfl dX10_isElsewhere_63 ?_
              obtain ⟨h21, hw⟩ := hw
              obtain ⟨h22, hw⟩ := hw
              refine r_iald h h21 h22 dX10_isElsewhere_65 ?_
              refine r_icmp_gt h 89 dX10_isElsewhere_66 (by decide) (fun hc => ?_) (fun hc => ?_)
              · replace hw := hw.1 hc
                refine r_iinc h (j := 4) (v := (x4 + 1)) [1, 2, 3, 4, 0] rfl rfl (by decide) rfl dX10_isElsewhere_89 ?_
                refine r_goto h 11 dX10_isElsewhere_92 (by decide) ?_
                exact ih _ _ _ _ _ _ hw
              · replace hw := hw.2 hc
                refine r_aload_n h 0 rfl rfl dX10_isElsewhere_69 ?_
                refine r_getr h kci11 in11 (k := 13) (by decide) rfl rfl q1185 h14 h16 dX10_isElsewhere_70 ?_
                refine r_iload h 4 rfl dX10_isElsewhere_73 ?_
                obtain ⟨h23, hw⟩ := hw
                refine r_iald h h17 h23 dX10_isElsewhere_75 ?_
                refine r_iload_n h 3 rfl rfl dX10_isElsewhere_76 ?_
                refine r_isub h dX10_isElsewhere_77 ?_
                refine r_aload_n h 0 rfl rfl dX10_isElsewhere_78 ?_
                refine r_getr h kci11 in11 (k := 14) (by decide) rfl rfl q1186 h14 h20 dX10_isElsewhere_79 ?_
                refine r_iload_n h 1 rfl rfl dX10_isElsewhere_82 ?_
                obtain ⟨h24, hw⟩ := hw
                refine r_iald h h21 h24 dX10_isElsewhere_83 ?_
                refine r_icmp_gt h 89 dX10_isElsewhere_84 (by decide) (fun hc => ?_) (fun hc => ?_)
                · replace hw := hw.1 hc
                  refine r_iinc h (j := 4) (v := (x4 + 1)) [1, 2, 3, 4, 0] rfl rfl (by decide) rfl dX10_isElsewhere_89 ?_
                  refine r_goto h 11 dX10_isElsewhere_92 (by decide) ?_
                  exact ih _ _ _ _ _ _ hw
                · replace hw := hw.2 hc
                  refine r_iconst h (v := 1) (by decide) dX10_isElsewhere_87 ?_
                  exact r_zret h hq (ty := .boolean) rfl rfl ⟨_, rfl, hw⟩ (by decide) (by decide) dX10_isElsewhere_88
            · replace hw := hw.2 hc
              refine r_goto h 89 dX10_isElsewhere_48 (by decide) ?_
              refine r_iinc h (j := 4) (v := (x4 + 1)) [1, 2, 3, 4, 0] rfl rfl (by decide) rfl dX10_isElsewhere_89 ?_
              refine r_goto h 11 dX10_isElsewhere_92 (by decide) ?_
              exact ih _ _ _ _ _ _ hw
  unfold w_X10_isElsewhere at hw
  refine r_iconst h (v := 2) (by decide) dX10_isElsewhere_0 ?_
  refine r_aload_n h 0 rfl rfl dX10_isElsewhere_1 ?_
  refine r_iload_n h 2 rfl rfl dX10_isElsewhere_2 ?_
  obtain ⟨h1, hw⟩ := hw
  refine r_callV h (fun l => c_X10_travelOf l _ _ _ _ hw) q1291 q1293 q32 q64 q1294 nd_X10_travelOf ⟨by decide, by decide⟩ rfl rfl ⟨by decide, by decide⟩ kci11 rfl h1 rfl (by first | decide | exact nl rfl) rfl dX10_isElsewhere_3 nxk (kI fun r2 S3 hw => ?_)
  refine r_imul h dX10_isElsewhere_6 ?_
  refine r_istore_n h [1, 2, 3, 0] rfl (by decide) rfl dX10_isElsewhere_7 ?_
  refine r_iconst h (v := 0) (by decide) dX10_isElsewhere_8 ?_
  refine r_istore h [1, 2, 3, 4, 0] (by decide) rfl dX10_isElsewhere_9 ?_
  obtain ⟨m, hw⟩ := hw
  exact L11 m _ _ _ _ _ _ hw

def w_X10_takes (S : St) (a0 : Nat) (x1 : Int32) (x2 : Int32) (f : Int32 → St → Prop) : Prop := ok S a0 11 ∧ w_X10_isElsewhere S a0 x1 x2 (fun (r2 : Int32) (S3 : St) => (((r2 = 0) → ok S3 a0 11 ∧ ∃ b6 : Nat, sP S3 a0 11 = some b6 ∧ ok S3 b6 101 ∧ vp_in x2 (sN S3 b6) ∧ ((((sI S3 b6 (Int32.toNatClampNeg x2)) < 0) → f 1 S3) ∧ ((¬ (sI S3 b6 (Int32.toNatClampNeg x2)) < 0) → ∃ b10 : Nat, sP S3 a0 10 = some b10 ∧ ok S3 b10 101 ∧ vp_in x2 (sN S3 b10) ∧ ∃ b14 : Nat, sP S3 a0 3 = some b14 ∧ ok S3 b14 101 ∧ vp_in (sI S3 b6 (Int32.toNatClampNeg x2)) (sN S3 b14) ∧ ((((sI S3 b14 (Int32.toNatClampNeg (sI S3 b6 (Int32.toNatClampNeg x2)))) < (sI S3 b10 (Int32.toNatClampNeg x2))) → f 0 S3) ∧ ((¬ (sI S3 b14 (Int32.toNatClampNeg (sI S3 b6 (Int32.toNatClampNeg x2)))) < (sI S3 b10 (Int32.toNatClampNeg x2))) → ∃ b18 : Nat, sP S3 a0 14 = some b18 ∧ ok S3 b18 101 ∧ vp_in x1 (sN S3 b18) ∧ ∃ b22 : Nat, sP S3 a0 13 = some b22 ∧ ok S3 b22 101 ∧ vp_in x1 (sN S3 b22) ∧ ∃ b26 : Nat, sP S3 a0 5 = some b26 ∧ ok S3 b26 101 ∧ vp_in (sI S3 b6 (Int32.toNatClampNeg x2)) (sN S3 b26) ∧ ((((sI S3 b26 (Int32.toNatClampNeg (sI S3 b6 (Int32.toNatClampNeg x2)))) ≤ ((sI S3 b18 (Int32.toNatClampNeg x1)) - (sI S3 b22 (Int32.toNatClampNeg x1)))) → f 0 S3) ∧ ((¬ (sI S3 b26 (Int32.toNatClampNeg (sI S3 b6 (Int32.toNatClampNeg x2)))) ≤ ((sI S3 b18 (Int32.toNatClampNeg x1)) - (sI S3 b22 (Int32.toNatClampNeg x1)))) → ∃ b30 : Nat, sP S3 a0 4 = some b30 ∧ ok S3 b30 101 ∧ vp_in (sI S3 b6 (Int32.toNatClampNeg x2)) (sN S3 b30) ∧ ((((sI S3 b22 (Int32.toNatClampNeg x1)) < (sI S3 b30 (Int32.toNatClampNeg (sI S3 b6 (Int32.toNatClampNeg x2))))) → f 0 S3) ∧ ((¬ (sI S3 b22 (Int32.toNatClampNeg x1)) < (sI S3 b30 (Int32.toNatClampNeg (sI S3 b6 (Int32.toNatClampNeg x2))))) → f 1 S3))))))))) ∧ ((¬ r2 = 0) → f 0 S3)))
set_option maxRecDepth 100000 in
set_option maxHeartbeats 4000000 in
theorem c_X10_takes (l : Launch) (S : St) (a0 : Nat) (x1 : Int32) (x2 : Int32) (f : Int32 → St → Prop) (hw : w_X10_takes S a0 x1 x2 f) : Ct l yX10_takes (Cond.code yX10_takes cX10_takes 4 (some .boolean)) { frames := 2, cells := 0, slots := 0, locals := 47 } 0 0 S [.ref a0, .int x1, .int x2] (pI f) nox := by
  refine entry (by decide +kernel) rfl rfl (by first | decide | exact nl rfl) rfl ?_
  intro X h hq
  unfold w_X10_takes at hw
  refine r_aload_n h 0 rfl rfl dX10_takes_0 ?_
  refine r_iload_n h 1 rfl rfl dX10_takes_1 ?_
  refine r_iload_n h 2 rfl rfl dX10_takes_2 ?_
  obtain ⟨h1, hw⟩ := hw
  refine r_callV h (fun l => c_X10_isElsewhere l _ _ _ _ _ hw) q1287 q1289 q31 q64 q1290 nd_X10_isElsewhere ⟨by decide, by decide⟩ rfl rfl ⟨by decide, by decide⟩ kci11 rfl h1 rfl (by first | decide | exact nl rfl) rfl dX10_takes_3 nxk (kI fun r2 S3 hw => ?_)
  refine r_if_eq h 11 dX10_takes_6 (by decide) (fun hc => ?_) (fun hc => ?_)
  · replace hw := hw.1 hc
    refine r_aload_n h 0 rfl rfl dX10_takes_11 ?_
    obtain ⟨h5, hw⟩ := hw
    obtain ⟨b6, h7, hw⟩ := hw
    refine r_getr h kci11 in11 (k := 11) (by decide) rfl rfl q1183 h5 h7 dX10_takes_12 ?_
    refine r_iload_n h 2 rfl rfl dX10_takes_15 ?_
    obtain ⟨h8, hw⟩ := hw
    obtain ⟨h9, hw⟩ := hw
    refine r_iald h h8 h9 dX10_takes_16 ?_
    refine r_istore_n h [1, 2, 3, 0] rfl (by decide) rfl dX10_takes_17 ?_
    refine r_iload_n h 3 rfl rfl dX10_takes_18 ?_
    refine r_if_lt h 74 dX10_takes_19 (by decide) (fun hc => ?_) (fun hc => ?_)
    · replace hw := hw.1 hc
      refine r_iconst h (v := 1) (by decide) dX10_takes_74 ?_
      refine r_goto h 79 dX10_takes_75 (by decide) ?_
      exact r_zret h hq (ty := .boolean) rfl rfl ⟨_, rfl, hw⟩ (by decide) (by decide) dX10_takes_79
    · replace hw := hw.2 hc
      refine r_aload_n h 0 rfl rfl dX10_takes_22 ?_
      obtain ⟨b10, h11, hw⟩ := hw
      refine r_getr h kci11 in11 (k := 10) (by decide) rfl rfl q1182 h5 h11 dX10_takes_23 ?_
      refine r_iload_n h 2 rfl rfl dX10_takes_26 ?_
      obtain ⟨h12, hw⟩ := hw
      obtain ⟨h13, hw⟩ := hw
      refine r_iald h h12 h13 dX10_takes_27 ?_
      refine r_aload_n h 0 rfl rfl dX10_takes_28 ?_
      obtain ⟨b14, h15, hw⟩ := hw
      refine r_getr h kci11 in11 (k := 3) (by decide) rfl rfl q1175 h5 h15 dX10_takes_29 ?_
      refine r_iload_n h 3 rfl rfl dX10_takes_32 ?_
      obtain ⟨h16, hw⟩ := hw
      obtain ⟨h17, hw⟩ := hw
      refine r_iald h h16 h17 dX10_takes_33 ?_
      refine r_icmp_gt h 78 dX10_takes_34 (by decide) (fun hc => ?_) (fun hc => ?_)
      · replace hw := hw.1 hc
        refine r_iconst h (v := 0) (by decide) dX10_takes_78 ?_
        exact r_zret h hq (ty := .boolean) rfl rfl ⟨_, rfl, hw⟩ (by decide) (by decide) dX10_takes_79
      · replace hw := hw.2 hc
        refine r_aload_n h 0 rfl rfl dX10_takes_37 ?_
        obtain ⟨b18, h19, hw⟩ := hw
        refine r_getr h kci11 in11 (k := 14) (by decide) rfl rfl q1186 h5 h19 dX10_takes_38 ?_
        refine r_iload_n h 1 rfl rfl dX10_takes_41 ?_
        obtain ⟨h20, hw⟩ := hw
        obtain ⟨h21, hw⟩ := hw
        refine r_iald h h20 h21 dX10_takes_42 ?_
        refine r_aload_n h 0 rfl rfl dX10_takes_43 ?_
        obtain ⟨b22, h23, hw⟩ := hw
        refine r_getr h kci11 in11 (k := 13) (by decide) rfl rfl q1185 h5 h23 dX10_takes_44 ?_
        refine r_iload_n h 1 rfl rfl dX10_takes_47 ?_
        obtain ⟨h24, hw⟩ := hw
        obtain ⟨h25, hw⟩ := hw
        refine r_iald h h24 h25 dX10_takes_48 ?_
        refine r_isub h dX10_takes_49 ?_
        refine r_aload_n h 0 rfl rfl dX10_takes_50 ?_
        obtain ⟨b26, h27, hw⟩ := hw
        refine r_getr h kci11 in11 (k := 5) (by decide) rfl rfl q1177 h5 h27 dX10_takes_51 ?_
        refine r_iload_n h 3 rfl rfl dX10_takes_54 ?_
        obtain ⟨h28, hw⟩ := hw
        obtain ⟨h29, hw⟩ := hw
        refine r_iald h h28 h29 dX10_takes_55 ?_
        refine r_icmp_ge h 78 dX10_takes_56 (by decide) (fun hc => ?_) (fun hc => ?_)
        · replace hw := hw.1 hc
          refine r_iconst h (v := 0) (by decide) dX10_takes_78 ?_
          exact r_zret h hq (ty := .boolean) rfl rfl ⟨_, rfl, hw⟩ (by decide) (by decide) dX10_takes_79
        · replace hw := hw.2 hc
          refine r_aload_n h 0 rfl rfl dX10_takes_59 ?_
          refine r_getr h kci11 in11 (k := 13) (by decide) rfl rfl q1185 h5 h23 dX10_takes_60 ?_
          refine r_iload_n h 1 rfl rfl dX10_takes_63 ?_
          refine r_iald h h24 h25 dX10_takes_64 ?_
          refine r_aload_n h 0 rfl rfl dX10_takes_65 ?_
          obtain ⟨b30, h31, hw⟩ := hw
          refine r_getr h kci11 in11 (k := 4) (by decide) rfl rfl q1176 h5 h31 dX10_takes_66 ?_
          refine r_iload_n h 3 rfl rfl dX10_takes_69 ?_
          obtain ⟨h32, hw⟩ := hw
          obtain ⟨h33, hw⟩ := hw
          refine r_iald h h32 h33 dX10_takes_70 ?_
          refine r_icmp_lt h 78 dX10_takes_71 (by decide) (fun hc => ?_) (fun hc => ?_)
          · replace hw := hw.1 hc
            refine r_iconst h (v := 0) (by decide) dX10_takes_78 ?_
            exact r_zret h hq (ty := .boolean) rfl rfl ⟨_, rfl, hw⟩ (by decide) (by decide) dX10_takes_79
          · replace hw := hw.2 hc
            refine r_iconst h (v := 1) (by decide) dX10_takes_74 ?_
            refine r_goto h 79 dX10_takes_75 (by decide) ?_
            exact r_zret h hq (ty := .boolean) rfl rfl ⟨_, rfl, hw⟩ (by decide) (by decide) dX10_takes_79
  · replace hw := hw.2 hc
    refine r_iconst h (v := 0) (by decide) dX10_takes_9 ?_
    exact r_zret h hq (ty := .boolean) rfl rfl ⟨_, rfl, hw⟩ (by decide) (by decide) dX10_takes_10

def w_X10_hangsWhere (S : St) (a0 : Nat) (x1 : Int32) (x2 : Int32) (f : Int32 → St → Prop) : Prop := ok S a0 11 ∧ ∃ b2 : Nat, sP S a0 0 = some b2 ∧ ok S b2 101 ∧ vp_in x2 (sN S b2) ∧ ∃ b6 : Nat, sP S a0 7 = some b6 ∧ ok S b6 101 ∧ vp_in x1 (sN S b6) ∧ ∃ b10 : Nat, sP S a0 8 = some b10 ∧ ok S b10 101 ∧ vp_in x1 (sN S b10) ∧ w_X10_in S (sI S b2 (Int32.toNatClampNeg x2)) (sI S b6 (Int32.toNatClampNeg x1)) (sI S b10 (Int32.toNatClampNeg x1)) (fun (r14 : Int32) (S15 : St) => (((r14 = 0) → f 0 S15) ∧ ((¬ r14 = 0) → ok S15 a0 11 ∧ ∃ b18 : Nat, sP S15 a0 1 = some b18 ∧ ok S15 b18 101 ∧ vp_in x2 (sN S15 b18) ∧ ∃ b22 : Nat, sP S15 a0 9 = some b22 ∧ ok S15 b22 101 ∧ vp_in x1 (sN S15 b22) ∧ ((((sI S15 b22 (Int32.toNatClampNeg x1)) < (sI S15 b18 (Int32.toNatClampNeg x2))) → f 0 S15) ∧ ((¬ (sI S15 b22 (Int32.toNatClampNeg x1)) < (sI S15 b18 (Int32.toNatClampNeg x2))) → f 1 S15)))))
set_option maxRecDepth 100000 in
set_option maxHeartbeats 4000000 in
theorem c_X10_hangsWhere (l : Launch) (S : St) (a0 : Nat) (x1 : Int32) (x2 : Int32) (f : Int32 → St → Prop) (hw : w_X10_hangsWhere S a0 x1 x2 f) : Ct l yX10_hangsWhere (Cond.code yX10_hangsWhere cX10_hangsWhere 3 (some .boolean)) { frames := 1, cells := 0, slots := 0, locals := 22 } 0 0 S [.ref a0, .int x1, .int x2] (pI f) nox := by
  refine entry (by decide +kernel) rfl rfl (by first | decide | exact nl rfl) rfl ?_
  intro X h hq
  unfold w_X10_hangsWhere at hw
  refine r_aload_n h 0 rfl rfl dX10_hangsWhere_0 ?_
  obtain ⟨h1, hw⟩ := hw
  obtain ⟨b2, h3, hw⟩ := hw
  refine r_getr h kci11 in11 (k := 0) (by decide) rfl rfl q1172 h1 h3 dX10_hangsWhere_1 ?_
  refine r_iload_n h 2 rfl rfl dX10_hangsWhere_4 ?_
  obtain ⟨h4, hw⟩ := hw
  obtain ⟨h5, hw⟩ := hw
  refine r_iald h h4 h5 dX10_hangsWhere_5 ?_
  refine r_aload_n h 0 rfl rfl dX10_hangsWhere_6 ?_
  obtain ⟨b6, h7, hw⟩ := hw
  refine r_getr h kci11 in11 (k := 7) (by decide) rfl rfl q1179 h1 h7 dX10_hangsWhere_7 ?_
  refine r_iload_n h 1 rfl rfl dX10_hangsWhere_10 ?_
  obtain ⟨h8, hw⟩ := hw
  obtain ⟨h9, hw⟩ := hw
  refine r_iald h h8 h9 dX10_hangsWhere_11 ?_
  refine r_aload_n h 0 rfl rfl dX10_hangsWhere_12 ?_
  obtain ⟨b10, h11, hw⟩ := hw
  refine r_getr h kci11 in11 (k := 8) (by decide) rfl rfl q1180 h1 h11 dX10_hangsWhere_13 ?_
  refine r_iload_n h 1 rfl rfl dX10_hangsWhere_16 ?_
  obtain ⟨h12, hw⟩ := hw
  obtain ⟨h13, hw⟩ := hw
  refine r_iald h h12 h13 dX10_hangsWhere_17 ?_
  refine r_callS h (fun l => c_X10_in l _ _ _ _ _ hw) q1268 q1269 q64 q1270 nd_X10_in ⟨by decide, by decide⟩ rfl rfl ⟨by decide, by decide⟩ (as := [.int (sI S b2 (Int32.toNatClampNeg x2)), .int (sI S b6 (Int32.toNatClampNeg x1)), .int (sI S b10 (Int32.toNatClampNeg x1))]) rfl (by first | decide | exact nl rfl) rfl dX10_hangsWhere_18 nxk (kI fun r14 S15 hw => ?_)
  refine r_if_eq h 43 dX10_hangsWhere_21 (by decide) (fun hc => ?_) (fun hc => ?_)
  · replace hw := hw.1 hc
    refine r_iconst h (v := 0) (by decide) dX10_hangsWhere_43 ?_
    exact r_zret h hq (ty := .boolean) rfl rfl ⟨_, rfl, hw⟩ (by decide) (by decide) dX10_hangsWhere_44
  · replace hw := hw.2 hc
    refine r_aload_n h 0 rfl rfl dX10_hangsWhere_24 ?_
    obtain ⟨h17, hw⟩ := hw
    obtain ⟨b18, h19, hw⟩ := hw
    refine r_getr h kci11 in11 (k := 1) (by decide) rfl rfl q1173 h17 h19 dX10_hangsWhere_25 ?_
    refine r_iload_n h 2 rfl rfl dX10_hangsWhere_28 ?_
    obtain ⟨h20, hw⟩ := hw
    obtain ⟨h21, hw⟩ := hw
    refine r_iald h h20 h21 dX10_hangsWhere_29 ?_
    refine r_aload_n h 0 rfl rfl dX10_hangsWhere_30 ?_
    obtain ⟨b22, h23, hw⟩ := hw
    refine r_getr h kci11 in11 (k := 9) (by decide) rfl rfl q1181 h17 h23 dX10_hangsWhere_31 ?_
    refine r_iload_n h 1 rfl rfl dX10_hangsWhere_34 ?_
    obtain ⟨h24, hw⟩ := hw
    obtain ⟨h25, hw⟩ := hw
    refine r_iald h h24 h25 dX10_hangsWhere_35 ?_
    refine r_icmp_gt h 43 dX10_hangsWhere_36 (by decide) (fun hc => ?_) (fun hc => ?_)
    · replace hw := hw.1 hc
      refine r_iconst h (v := 0) (by decide) dX10_hangsWhere_43 ?_
      exact r_zret h hq (ty := .boolean) rfl rfl ⟨_, rfl, hw⟩ (by decide) (by decide) dX10_hangsWhere_44
    · replace hw := hw.2 hc
      refine r_iconst h (v := 1) (by decide) dX10_hangsWhere_39 ?_
      refine r_goto h 44 dX10_hangsWhere_40 (by decide) ?_
      exact r_zret h hq (ty := .boolean) rfl rfl ⟨_, rfl, hw⟩ (by decide) (by decide) dX10_hangsWhere_44

def w_X10_areAtOnce (S : St) (a0 : Nat) (x1 : Int32) (x2 : Int32) (f : Int32 → St → Prop) : Prop := ok S a0 11 ∧ ∃ b2 : Nat, sP S a0 13 = some b2 ∧ ok S b2 101 ∧ vp_in x1 (sN S b2) ∧ ∃ b6 : Nat, sP S a0 14 = some b6 ∧ ok S b6 101 ∧ vp_in x2 (sN S b6) ∧ ((((sI S b6 (Int32.toNatClampNeg x2)) < (sI S b2 (Int32.toNatClampNeg x1))) → f 0 S) ∧ ((¬ (sI S b6 (Int32.toNatClampNeg x2)) < (sI S b2 (Int32.toNatClampNeg x1))) → vp_in x2 (sN S b2) ∧ vp_in x1 (sN S b6) ∧ ((((sI S b6 (Int32.toNatClampNeg x1)) < (sI S b2 (Int32.toNatClampNeg x2))) → f 0 S) ∧ ((¬ (sI S b6 (Int32.toNatClampNeg x1)) < (sI S b2 (Int32.toNatClampNeg x2))) → f 1 S))))
set_option maxRecDepth 100000 in
set_option maxHeartbeats 4000000 in
theorem c_X10_areAtOnce (l : Launch) (S : St) (a0 : Nat) (x1 : Int32) (x2 : Int32) (f : Int32 → St → Prop) (hw : w_X10_areAtOnce S a0 x1 x2 f) : Ct l yX10_areAtOnce (Cond.code yX10_areAtOnce cX10_areAtOnce 3 (some .boolean)) { frames := 0, cells := 0, slots := 0, locals := 0 } 0 0 S [.ref a0, .int x1, .int x2] (pI f) nox := by
  refine entry (by decide +kernel) rfl rfl (by first | decide | exact nl rfl) rfl ?_
  intro X h hq
  unfold w_X10_areAtOnce at hw
  refine r_aload_n h 0 rfl rfl dX10_areAtOnce_0 ?_
  obtain ⟨h1, hw⟩ := hw
  obtain ⟨b2, h3, hw⟩ := hw
  refine r_getr h kci11 in11 (k := 13) (by decide) rfl rfl q1185 h1 h3 dX10_areAtOnce_1 ?_
  refine r_iload_n h 1 rfl rfl dX10_areAtOnce_4 ?_
  obtain ⟨h4, hw⟩ := hw
  obtain ⟨h5, hw⟩ := hw
  refine r_iald h h4 h5 dX10_areAtOnce_5 ?_
  refine r_aload_n h 0 rfl rfl dX10_areAtOnce_6 ?_
  obtain ⟨b6, h7, hw⟩ := hw
  refine r_getr h kci11 in11 (k := 14) (by decide) rfl rfl q1186 h1 h7 dX10_areAtOnce_7 ?_
  refine r_iload_n h 2 rfl rfl dX10_areAtOnce_10 ?_
  obtain ⟨h8, hw⟩ := hw
  obtain ⟨h9, hw⟩ := hw
  refine r_iald h h8 h9 dX10_areAtOnce_11 ?_
  refine r_icmp_gt h 34 dX10_areAtOnce_12 (by decide) (fun hc => ?_) (fun hc => ?_)
  · replace hw := hw.1 hc
    refine r_iconst h (v := 0) (by decide) dX10_areAtOnce_34 ?_
    exact r_zret h hq (ty := .boolean) rfl rfl ⟨_, rfl, hw⟩ (by decide) (by decide) dX10_areAtOnce_35
  · replace hw := hw.2 hc
    refine r_aload_n h 0 rfl rfl dX10_areAtOnce_15 ?_
    refine r_getr h kci11 in11 (k := 13) (by decide) rfl rfl q1185 h1 h3 dX10_areAtOnce_16 ?_
    refine r_iload_n h 2 rfl rfl dX10_areAtOnce_19 ?_
    obtain ⟨h10, hw⟩ := hw
    refine r_iald h h4 h10 dX10_areAtOnce_20 ?_
    refine r_aload_n h 0 rfl rfl dX10_areAtOnce_21 ?_
    refine r_getr h kci11 in11 (k := 14) (by decide) rfl rfl q1186 h1 h7 dX10_areAtOnce_22 ?_
    refine r_iload_n h 1 rfl rfl dX10_areAtOnce_25 ?_
    obtain ⟨h11, hw⟩ := hw
    refine r_iald h h8 h11 dX10_areAtOnce_26 ?_
    refine r_icmp_gt h 34 dX10_areAtOnce_27 (by decide) (fun hc => ?_) (fun hc => ?_)
    · replace hw := hw.1 hc
      refine r_iconst h (v := 0) (by decide) dX10_areAtOnce_34 ?_
      exact r_zret h hq (ty := .boolean) rfl rfl ⟨_, rfl, hw⟩ (by decide) (by decide) dX10_areAtOnce_35
    · replace hw := hw.2 hc
      refine r_iconst h (v := 1) (by decide) dX10_areAtOnce_30 ?_
      refine r_goto h 35 dX10_areAtOnce_31 (by decide) ?_
      exact r_zret h hq (ty := .boolean) rfl rfl ⟨_, rfl, hw⟩ (by decide) (by decide) dX10_areAtOnce_35

def w_X10_isBroken (S : St) (x0 : Int32) (x1 : Int32) (x2 : Int32) (f : Int32 → St → Prop) : Prop := (((¬ x0 = 114) → (((¬ x0 = 119) → f 0 S) ∧ ((x0 = 119) → (((¬ x1 = x2) → f 0 S) ∧ ((x1 = x2) → f 1 S))))) ∧ ((x0 = 114) → ((((x1 / 2) = (x2 / 2)) → f 1 S) ∧ ((¬ (x1 / 2) = (x2 / 2)) → (((¬ x0 = 119) → f 0 S) ∧ ((x0 = 119) → (((¬ x1 = x2) → f 0 S) ∧ ((x1 = x2) → f 1 S))))))))
set_option maxRecDepth 100000 in
set_option maxHeartbeats 4000000 in
theorem c_X10_isBroken (l : Launch) (S : St) (x0 : Int32) (x1 : Int32) (x2 : Int32) (f : Int32 → St → Prop) (hw : w_X10_isBroken S x0 x1 x2 f) : Ct l yX10_isBroken (Cond.code yX10_isBroken cX10_isBroken 3 (some .boolean)) { frames := 0, cells := 0, slots := 0, locals := 0 } 0 0 S [.int x0, .int x1, .int x2] (pI f) nox := by
  refine entry (by decide +kernel) rfl rfl (by first | decide | exact nl rfl) rfl ?_
  intro X h hq
  unfold w_X10_isBroken at hw
  refine r_iload_n h 0 rfl rfl dX10_isBroken_0 ?_
  refine r_bipush h (v := 114) (by decide) dX10_isBroken_1 ?_
  refine r_icmp_ne h 15 dX10_isBroken_3 (by decide) (fun hc => ?_) (fun hc => ?_)
  · replace hw := hw.1 hc
    refine r_iload_n h 0 rfl rfl dX10_isBroken_15 ?_
    refine r_bipush h (v := 119) (by decide) dX10_isBroken_16 ?_
    refine r_icmp_ne h 30 dX10_isBroken_18 (by decide) (fun hc => ?_) (fun hc => ?_)
    · replace hw := hw.1 hc
      refine r_iconst h (v := 0) (by decide) dX10_isBroken_30 ?_
      exact r_zret h hq (ty := .boolean) rfl rfl ⟨_, rfl, hw⟩ (by decide) (by decide) dX10_isBroken_31
    · replace hw := hw.2 hc
      refine r_iload_n h 1 rfl rfl dX10_isBroken_21 ?_
      refine r_iload_n h 2 rfl rfl dX10_isBroken_22 ?_
      refine r_icmp_ne h 30 dX10_isBroken_23 (by decide) (fun hc => ?_) (fun hc => ?_)
      · replace hw := hw.1 hc
        refine r_iconst h (v := 0) (by decide) dX10_isBroken_30 ?_
        exact r_zret h hq (ty := .boolean) rfl rfl ⟨_, rfl, hw⟩ (by decide) (by decide) dX10_isBroken_31
      · replace hw := hw.2 hc
        refine r_iconst h (v := 1) (by decide) dX10_isBroken_26 ?_
        refine r_goto h 31 dX10_isBroken_27 (by decide) ?_
        exact r_zret h hq (ty := .boolean) rfl rfl ⟨_, rfl, hw⟩ (by decide) (by decide) dX10_isBroken_31
  · replace hw := hw.2 hc
    refine r_iload_n h 1 rfl rfl dX10_isBroken_6 ?_
    refine r_iconst h (v := 2) (by decide) dX10_isBroken_7 ?_
    refine r_idiv h (by decide) dX10_isBroken_8 ?_
    refine r_iload_n h 2 rfl rfl dX10_isBroken_9 ?_
    refine r_iconst h (v := 2) (by decide) dX10_isBroken_10 ?_
    refine r_idiv h (by decide) dX10_isBroken_11 ?_
    refine r_icmp_eq h 26 dX10_isBroken_12 (by decide) (fun hc => ?_) (fun hc => ?_)
    · replace hw := hw.1 hc
      refine r_iconst h (v := 1) (by decide) dX10_isBroken_26 ?_
      refine r_goto h 31 dX10_isBroken_27 (by decide) ?_
      exact r_zret h hq (ty := .boolean) rfl rfl ⟨_, rfl, hw⟩ (by decide) (by decide) dX10_isBroken_31
    · replace hw := hw.2 hc
      refine r_iload_n h 0 rfl rfl dX10_isBroken_15 ?_
      refine r_bipush h (v := 119) (by decide) dX10_isBroken_16 ?_
      refine r_icmp_ne h 30 dX10_isBroken_18 (by decide) (fun hc => ?_) (fun hc => ?_)
      · replace hw := hw.1 hc
        refine r_iconst h (v := 0) (by decide) dX10_isBroken_30 ?_
        exact r_zret h hq (ty := .boolean) rfl rfl ⟨_, rfl, hw⟩ (by decide) (by decide) dX10_isBroken_31
      · replace hw := hw.2 hc
        refine r_iload_n h 1 rfl rfl dX10_isBroken_21 ?_
        refine r_iload_n h 2 rfl rfl dX10_isBroken_22 ?_
        refine r_icmp_ne h 30 dX10_isBroken_23 (by decide) (fun hc => ?_) (fun hc => ?_)
        · replace hw := hw.1 hc
          refine r_iconst h (v := 0) (by decide) dX10_isBroken_30 ?_
          exact r_zret h hq (ty := .boolean) rfl rfl ⟨_, rfl, hw⟩ (by decide) (by decide) dX10_isBroken_31
        · replace hw := hw.2 hc
          refine r_iconst h (v := 1) (by decide) dX10_isBroken_26 ?_
          refine r_goto h 31 dX10_isBroken_27 (by decide) ?_
          exact r_zret h hq (ty := .boolean) rfl rfl ⟨_, rfl, hw⟩ (by decide) (by decide) dX10_isBroken_31

def wl_X10_breaksOthers_46 (f : Int32 → St → Prop) (k3 : St → Nat → Int32 → Int32 → Int32 → Int32 → Prop) : Nat → St → Nat → Int32 → Int32 → Int32 → Int32 → Int32 → Prop
  | 0, _, _, _, _, _, _, _ => False
  | n + 1, S, a0, x1, x2, x3, x4, x5 => ok S a0 11 ∧ ∃ b12 : Nat, sP S a0 17 = some b12 ∧ ok S b12 101 ∧ vp_in x4 (sN S b12) ∧ ((((sI S b12 (Int32.toNatClampNeg x4)) ≤ x5) → k3 S a0 x1 x2 x3 (x4 + 1)) ∧ ((¬ (sI S b12 (Int32.toNatClampNeg x4)) ≤ x5) → ∃ b16 : Nat, sP S a0 12 = some b16 ∧ ∃ b18 : Nat, sP S a0 18 = some b18 ∧ ok S b18 101 ∧ vp_in ((5 * x4) + x5) (sN S b18) ∧ ok S b16 101 ∧ vp_in ((12 * x2) + (sI S b18 (Int32.toNatClampNeg ((5 * x4) + x5)))) (sN S b16) ∧ ∃ b24 : Nat, sP S a0 19 = some b24 ∧ ok S b24 101 ∧ vp_in ((5 * x4) + x5) (sN S b24) ∧ w_X10_isBroken S (sI S b16 (Int32.toNatClampNeg ((12 * x2) + (sI S b18 (Int32.toNatClampNeg ((5 * x4) + x5)))))) x3 (sI S b24 (Int32.toNatClampNeg ((5 * x4) + x5))) (fun (r28 : Int32) (S29 : St) => (((r28 = 0) → wl_X10_breaksOthers_46 f k3 n S29 a0 x1 x2 x3 x4 (x5 + 1)) ∧ ((¬ r28 = 0) → f 1 S29)))))
def wl_X10_breaksOthers_3 (f : Int32 → St → Prop) : Nat → St → Nat → Int32 → Int32 → Int32 → Int32 → Prop
  | 0, _, _, _, _, _, _ => False
  | n + 1, S, a0, x1, x2, x3, x4 => ok S a0 11 ∧ ((((sI S a0 27) ≤ x4) → f 0 S) ∧ ((¬ (sI S a0 27) ≤ x4) → (((x4 = x1) → wl_X10_breaksOthers_3 f n S a0 x1 x2 x3 (x4 + 1)) ∧ ((¬ x4 = x1) → ∃ b3 : Nat, sP S a0 16 = some b3 ∧ ok S b3 101 ∧ vp_in x4 (sN S b3) ∧ (((¬ (sI S b3 (Int32.toNatClampNeg x4)) = 112) → wl_X10_breaksOthers_3 f n S a0 x1 x2 x3 (x4 + 1)) ∧ (((sI S b3 (Int32.toNatClampNeg x4)) = 112) → w_X10_areAtOnce S a0 x4 x1 (fun (r7 : Int32) (S8 : St) => (((¬ r7 = 0) → (∃ m : Nat, wl_X10_breaksOthers_46 f (wl_X10_breaksOthers_3 f n) m S8 a0 x1 x2 x3 x4 0)) ∧ ((r7 = 0) → wl_X10_breaksOthers_3 f n S8 a0 x1 x2 x3 (x4 + 1))))))))))
def w_X10_breaksOthers (S : St) (a0 : Nat) (x1 : Int32) (x2 : Int32) (x3 : Int32) (f : Int32 → St → Prop) : Prop := (∃ m : Nat, wl_X10_breaksOthers_3 f m S a0 x1 x2 x3 0)
set_option maxRecDepth 100000 in
set_option maxHeartbeats 4000000 in
theorem c_X10_breaksOthers (l : Launch) (S : St) (a0 : Nat) (x1 : Int32) (x2 : Int32) (x3 : Int32) (f : Int32 → St → Prop) (hw : w_X10_breaksOthers S a0 x1 x2 x3 f) : Ct l yX10_breaksOthers (Cond.code yX10_breaksOthers cX10_breaksOthers 6 (some .boolean)) { frames := 1, cells := 0, slots := 0, locals := 22 } 0 0 S [.ref a0, .int x1, .int x2, .int x3] (pI f) nox := by
  refine entry (by decide +kernel) rfl rfl (by first | decide | exact nl rfl) rfl ?_
  intro X h hq
  have L46 : ∀ (k3 : St → Nat → Int32 → Int32 → Int32 → Int32 → Prop), (∀ (S : St) (a0 : Nat) (x1 : Int32) (x2 : Int32) (x3 : Int32) (x4 : Int32), k3 S a0 x1 x2 x3 x4 → pw X 0 0 S 3 [(0, .ref a0), (1, .int x1), (2, .int x2), (3, .int x3), (4, .int x4)] []) → ∀ (n : Nat) (S : St) (a0 : Nat) (x1 : Int32) (x2 : Int32) (x3 : Int32) (x4 : Int32) (x5 : Int32), wl_X10_breaksOthers_46 f k3 n S a0 x1 x2 x3 x4 x5 → pw X 0 0 S 46 [(0, .ref a0), (1, .int x1), (2, .int x2), (3, .int x3), (4, .int x4), (5, .int x5)] [] := by
    intro k3 hk3 n
    induction n with
    | zero => intro S a0 x1 x2 x3 x4 x5 hw; exact hw.elim
    | succ n ih =>
      intro S a0 x1 x2 x3 x4 x5 hw
      unfold wl_X10_breaksOthers_46 at hw
      refine r_iload h 5 rfl dX10_breaksOthers_46 ?_
      refine r_aload_n h 0 rfl rfl dX10_breaksOthers_48 ?_
      obtain ⟨h11, hw⟩ := hw
      obtain ⟨b12, h13, hw⟩ := hw
      refine r_getr h kci11 in11 (k := 17) (by decide) rfl rfl q1189 h11 h13 dX10_breaksOthers_49 ?_
      refine r_iload h 4 rfl dX10_breaksOthers_52 ?_
      obtain ⟨h14, hw⟩ := hw
      obtain ⟨h15, hw⟩ := hw
      refine r_iald h h14 h15 dX10_breaksOthers_54 ?_
      refine r_icmp_ge h 107 dX10_breaksOthers_55 (by decide) (fun hc => ?_) (fun hc => ?_)
      · replace hw := hw.1 hc
        refine r_iinc h (j := 4) (v := (x4 + 1)) [1, 2, 3, 4, 0, 5] rfl rfl (by decide) rfl dX10_breaksOthers_107 ?_
        refine r_goto h 3 dX10_breaksOthers_110 (by decide) ?_
        refine r_vs [0, 1, 2, 3, 4] rfl ?_
        exact hk3 _ _ _ _ _ _ hw
      · replace hw := hw.2 hc
        refine r_aload_n h 0 rfl rfl dX10_breaksOthers_58 ?_
        obtain ⟨b16, h17, hw⟩ := hw
        refine r_getr h kci11 in11 (k := 12) (by decide) rfl rfl q1184 h11 h17 dX10_breaksOthers_59 ?_
        refine r_bipush h (v := 12) (by decide) dX10_breaksOthers_62 ?_
        refine r_iload_n h 2 rfl rfl dX10_breaksOthers_64 ?_
        refine r_imul h dX10_breaksOthers_65 ?_
        refine r_aload_n h 0 rfl rfl dX10_breaksOthers_66 ?_
        obtain ⟨b18, h19, hw⟩ := hw
        refine r_getr h kci11 in11 (k := 18) (by decide) rfl rfl q1190 h11 h19 dX10_breaksOthers_67 ?_
        refine r_iconst h (v := 5) (by decide) dX10_breaksOthers_70 ?_
        refine r_iload h 4 rfl dX10_breaksOthers_71 ?_
        refine r_imul h dX10_breaksOthers_73 ?_
        refine r_iload h 5 rfl dX10_breaksOthers_74 ?_
        refine r_iadd h dX10_breaksOthers_76 ?_
        obtain ⟨h20, hw⟩ := hw
        obtain ⟨h21, hw⟩ := hw
        refine r_iald h h20 h21 dX10_breaksOthers_77 ?_
        refine r_iadd h dX10_breaksOthers_78 ?_
        obtain ⟨h22, hw⟩ := hw
        obtain ⟨h23, hw⟩ := hw
        refine r_iald h h22 h23 dX10_breaksOthers_79 ?_
        refine r_iload_n h 3 rfl rfl dX10_breaksOthers_80 ?_
        refine r_aload_n h 0 rfl rfl dX10_breaksOthers_81 ?_
        obtain ⟨b24, h25, hw⟩ := hw
        refine r_getr h kci11 in11 (k := 19) (by decide) rfl rfl q1191 h11 h25 dX10_breaksOthers_82 ?_
        refine r_iconst h (v := 5) (by decide) dX10_breaksOthers_85 ?_
        refine r_iload h 4 rfl dX10_breaksOthers_86 ?_
        refine r_imul h dX10_breaksOthers_88 ?_
        refine r_iload h 5 rfl dX10_breaksOthers_89 ?_
        refine r_iadd h dX10_breaksOthers_91 ?_
        obtain ⟨h26, hw⟩ := hw
        obtain ⟨h27, hw⟩ := hw
        refine r_iald h h26 h27 dX10_breaksOthers_92 ?_
        refine r_callS h (fun l => c_X10_isBroken l _ _ _ _ _ hw) q1315 q1316 q64 q1317 nd_X10_isBroken ⟨by decide, by decide⟩ rfl rfl ⟨by decide, by decide⟩ (as := [.int (sI S b16 (Int32.toNatClampNeg ((12 * x2) + (sI S b18 (Int32.toNatClampNeg ((5 * x4) + x5)))))), .int x3, .int (sI S b24 (Int32.toNatClampNeg ((5 * x4) + x5)))]) rfl (by first | decide | exact nl rfl) rfl dX10_breaksOthers_93 nxk (kI fun r28 S29 hw => ?_)
        refine r_if_eq h 101 dX10_breaksOthers_96 (by decide) (fun hc => ?_) (fun hc => ?_)
        · replace hw := hw.1 hc
          refine r_iinc h (j := 5) (v := (x5 + 1)) [1, 2, 3, 4, 5, 0] rfl rfl (by decide) rfl dX10_breaksOthers_101 ?_
          refine r_goto h 46 dX10_breaksOthers_104 (by decide) ?_
          exact ih _ _ _ _ _ _ _ hw
        · replace hw := hw.2 hc
          refine r_iconst h (v := 1) (by decide) dX10_breaksOthers_99 ?_
          exact r_zret h hq (ty := .boolean) rfl rfl ⟨_, rfl, hw⟩ (by decide) (by decide) dX10_breaksOthers_100
  have L3 : ∀ (n : Nat) (S : St) (a0 : Nat) (x1 : Int32) (x2 : Int32) (x3 : Int32) (x4 : Int32), wl_X10_breaksOthers_3 f n S a0 x1 x2 x3 x4 → pw X 0 0 S 3 [(0, .ref a0), (1, .int x1), (2, .int x2), (3, .int x3), (4, .int x4)] [] := by
    intro n
    induction n with
    | zero => intro S a0 x1 x2 x3 x4 hw; exact hw.elim
    | succ n ih =>
      intro S a0 x1 x2 x3 x4 hw
      unfold wl_X10_breaksOthers_3 at hw
      refine r_iload h 4 rfl dX10_breaksOthers_3 ?_
      refine r_aload_n h 0 rfl rfl dX10_breaksOthers_5 ?_
      obtain ⟨h2, hw⟩ := hw
      refine r_geti h kci11 in11 (k := 27) (by decide) rfl rfl q1199 h2 dX10_breaksOthers_6 ?_
      refine r_icmp_ge h 113 dX10_breaksOthers_9 (by decide) (fun hc => ?_) (fun hc => ?_)
      · replace hw := hw.1 hc
        refine r_iconst h (v := 0) (by decide) dX10_breaksOthers_113 ?_
        exact r_zret h hq (ty := .boolean) rfl rfl ⟨_, rfl, hw⟩ (by decide) (by decide) dX10_breaksOthers_114
      · replace hw := hw.2 hc
        refine r_iload h 4 rfl dX10_breaksOthers_12 ?_
        refine r_iload_n h 1 rfl rfl dX10_breaksOthers_14 ?_
        refine r_icmp_eq h 107 dX10_breaksOthers_15 (by decide) (fun hc => ?_) (fun hc => ?_)
        · replace hw := hw.1 hc
          refine r_iinc h (j := 4) (v := (x4 + 1)) [1, 2, 3, 4, 0] rfl rfl (by decide) rfl dX10_breaksOthers_107 ?_
          refine r_goto h 3 dX10_breaksOthers_110 (by decide) ?_
          exact ih _ _ _ _ _ _ hw
        · replace hw := hw.2 hc
          refine r_aload_n h 0 rfl rfl dX10_breaksOthers_18 ?_
          obtain ⟨b3, h4, hw⟩ := hw
          refine r_getr h kci11 in11 (k := 16) (by decide) rfl rfl q1188 h2 h4 dX10_breaksOthers_19 ?_
          refine r_iload h 4 rfl dX10_breaksOthers_22 ?_
          obtain ⟨h5, hw⟩ := hw
          obtain ⟨h6, hw⟩ := hw
          refine r_iald h h5 h6 dX10_breaksOthers_24 ?_
          refine r_bipush h (v := 112) (by decide) dX10_breaksOthers_25 ?_
          refine r_icmp_ne h 107 dX10_breaksOthers_27 (by decide) (fun hc => ?_) (fun hc => ?_)
          · replace hw := hw.1 hc
            refine r_iinc h (j := 4) (v := (x4 + 1)) [1, 2, 3, 4, 0] rfl rfl (by decide) rfl dX10_breaksOthers_107 ?_
            refine r_goto h 3 dX10_breaksOthers_110 (by decide) ?_
            exact ih _ _ _ _ _ _ hw
          · replace hw := hw.2 hc
            refine r_aload_n h 0 rfl rfl dX10_breaksOthers_30 ?_
            refine r_iload h 4 rfl dX10_breaksOthers_31 ?_
            refine r_iload_n h 1 rfl rfl dX10_breaksOthers_33 ?_
            refine r_callV h (fun l => c_X10_areAtOnce l _ _ _ _ _ hw) q1311 q1313 q37 q64 q1314 nd_X10_areAtOnce ⟨by decide, by decide⟩ rfl rfl ⟨by decide, by decide⟩ kci11 rfl h2 rfl (by first | decide | exact nl rfl) rfl dX10_breaksOthers_34 nxk (kI fun r7 S8 hw => ?_)
            refine r_if_ne h 43 dX10_breaksOthers_37 (by decide) (fun hc => ?_) (fun hc => ?_)
            · replace hw := hw.1 hc
              refine r_iconst h (v := 0) (by decide) dX10_breaksOthers_43 ?_
              refine r_istore h [1, 2, 3, 4, 5, 0] (by decide) rfl dX10_breaksOthers_44 ?_
              obtain ⟨m, hw⟩ := hw
              exact L46 _ ih m _ _ _ _ _ _ _ hw
            · replace hw := hw.2 hc
              refine r_goto h 107 dX10_breaksOthers_40 (by decide) ?_
              refine r_iinc h (j := 4) (v := (x4 + 1)) [1, 2, 3, 4, 0] rfl rfl (by decide) rfl dX10_breaksOthers_107 ?_
              refine r_goto h 3 dX10_breaksOthers_110 (by decide) ?_
              exact ih _ _ _ _ _ _ hw
  unfold w_X10_breaksOthers at hw
  refine r_iconst h (v := 0) (by decide) dX10_breaksOthers_0 ?_
  refine r_istore h [1, 2, 3, 4, 0] (by decide) rfl dX10_breaksOthers_1 ?_
  obtain ⟨m, hw⟩ := hw
  exact L3 m _ _ _ _ _ _ hw

def wl_X10_takenOn_60 (f : Int32 → St → Prop) (k6 : St → Nat → Int32 → Int32 → Int32 → Int32 → Int32 → Prop) : Nat → St → Nat → Int32 → Int32 → Int32 → Int32 → Int32 → Int32 → Prop
  | 0, _, _, _, _, _, _, _, _ => False
  | n + 1, S, a0, x1, x2, x3, x4, x5, x6 => ok S a0 11 ∧ ∃ b20 : Nat, sP S a0 17 = some b20 ∧ ok S b20 101 ∧ vp_in x5 (sN S b20) ∧ ((((sI S b20 (Int32.toNatClampNeg x5)) ≤ x6) → k6 S a0 x1 x2 x3 x4 (x5 + 1)) ∧ ((¬ (sI S b20 (Int32.toNatClampNeg x5)) ≤ x6) → ∃ b24 : Nat, sP S a0 19 = some b24 ∧ ok S b24 101 ∧ vp_in ((5 * x5) + x6) (sN S b24) ∧ (((¬ (sI S b24 (Int32.toNatClampNeg ((5 * x5) + x6))) = x1) → wl_X10_takenOn_60 f k6 n S a0 x1 x2 x3 (x4 + 0) x5 (x6 + 1)) ∧ (((sI S b24 (Int32.toNatClampNeg ((5 * x5) + x6))) = x1) → ∃ b28 : Nat, sP S a0 6 = some b28 ∧ ∃ b30 : Nat, sP S a0 18 = some b30 ∧ ok S b30 101 ∧ vp_in ((5 * x5) + x6) (sN S b30) ∧ ok S b28 101 ∧ vp_in (sI S b30 (Int32.toNatClampNeg ((5 * x5) + x6))) (sN S b28) ∧ ∃ b36 : Nat, sP S a0 15 = some b36 ∧ ok S b36 101 ∧ vp_in x5 (sN S b36) ∧ wl_X10_takenOn_60 f k6 n S a0 x1 x2 x3 (x4 + ((sI S b28 (Int32.toNatClampNeg (sI S b30 (Int32.toNatClampNeg ((5 * x5) + x6))))) + (sI S b36 (Int32.toNatClampNeg x5)))) x5 (x6 + 1)))))
def wl_X10_takenOn_6 (f : Int32 → St → Prop) : Nat → St → Nat → Int32 → Int32 → Int32 → Int32 → Int32 → Prop
  | 0, _, _, _, _, _, _, _ => False
  | n + 1, S, a0, x1, x2, x3, x4, x5 => ok S a0 11 ∧ ((((sI S a0 27) ≤ x5) → f x4 S) ∧ ((¬ (sI S a0 27) ≤ x5) → (((x5 = x3) → wl_X10_takenOn_6 f n S a0 x1 x2 x3 x4 (x5 + 1)) ∧ ((¬ x5 = x3) → ∃ b3 : Nat, sP S a0 16 = some b3 ∧ ok S b3 101 ∧ vp_in x5 (sN S b3) ∧ (((¬ (sI S b3 (Int32.toNatClampNeg x5)) = 112) → wl_X10_takenOn_6 f n S a0 x1 x2 x3 x4 (x5 + 1)) ∧ (((sI S b3 (Int32.toNatClampNeg x5)) = 112) → ∃ b7 : Nat, sP S a0 13 = some b7 ∧ ok S b7 101 ∧ vp_in x5 (sN S b7) ∧ ∃ b11 : Nat, sP S a0 14 = some b11 ∧ ok S b11 101 ∧ vp_in x5 (sN S b11) ∧ w_X10_in S x2 (sI S b7 (Int32.toNatClampNeg x5)) (sI S b11 (Int32.toNatClampNeg x5)) (fun (r15 : Int32) (S16 : St) => (((¬ r15 = 0) → (∃ m : Nat, wl_X10_takenOn_60 f (wl_X10_takenOn_6 f n) m S16 a0 x1 x2 x3 x4 x5 0)) ∧ ((r15 = 0) → wl_X10_takenOn_6 f n S16 a0 x1 x2 x3 x4 (x5 + 1))))))))))
def w_X10_takenOn (S : St) (a0 : Nat) (x1 : Int32) (x2 : Int32) (x3 : Int32) (f : Int32 → St → Prop) : Prop := (∃ m : Nat, wl_X10_takenOn_6 f m S a0 x1 x2 x3 0 0)
set_option maxRecDepth 100000 in
set_option maxHeartbeats 4000000 in
theorem c_X10_takenOn (l : Launch) (S : St) (a0 : Nat) (x1 : Int32) (x2 : Int32) (x3 : Int32) (f : Int32 → St → Prop) (hw : w_X10_takenOn S a0 x1 x2 x3 f) : Ct l yX10_takenOn (Cond.code yX10_takenOn cX10_takenOn 7 (some .int)) { frames := 1, cells := 0, slots := 0, locals := 22 } 0 0 S [.ref a0, .int x1, .int x2, .int x3] (pI f) nox := by
  refine entry (by decide +kernel) rfl rfl (by first | decide | exact nl rfl) rfl ?_
  intro X h hq
  have L60 : ∀ (k6 : St → Nat → Int32 → Int32 → Int32 → Int32 → Int32 → Prop), (∀ (S : St) (a0 : Nat) (x1 : Int32) (x2 : Int32) (x3 : Int32) (x4 : Int32) (x5 : Int32), k6 S a0 x1 x2 x3 x4 x5 → pw X 0 0 S 6 [(0, .ref a0), (1, .int x1), (2, .int x2), (3, .int x3), (4, .int x4), (5, .int x5)] []) → ∀ (n : Nat) (S : St) (a0 : Nat) (x1 : Int32) (x2 : Int32) (x3 : Int32) (x4 : Int32) (x5 : Int32) (x6 : Int32), wl_X10_takenOn_60 f k6 n S a0 x1 x2 x3 x4 x5 x6 → pw X 0 0 S 60 [(0, .ref a0), (1, .int x1), (2, .int x2), (3, .int x3), (4, .int x4), (5, .int x5), (6, .int x6)] [] := by
    intro k6 hk6 n
    induction n with
    | zero => intro S a0 x1 x2 x3 x4 x5 x6 hw; exact hw.elim
    | succ n ih =>
      intro S a0 x1 x2 x3 x4 x5 x6 hw
      unfold wl_X10_takenOn_60 at hw
      refine r_iload h 6 rfl dX10_takenOn_60 ?_
      refine r_aload_n h 0 rfl rfl dX10_takenOn_62 ?_
      obtain ⟨h19, hw⟩ := hw
      obtain ⟨b20, h21, hw⟩ := hw
      refine r_getr h kci11 in11 (k := 17) (by decide) rfl rfl q1189 h19 h21 dX10_takenOn_63 ?_
      refine r_iload h 5 rfl dX10_takenOn_66 ?_
      obtain ⟨h22, hw⟩ := hw
      obtain ⟨h23, hw⟩ := hw
      refine r_iald h h22 h23 dX10_takenOn_68 ?_
      refine r_icmp_ge h 128 dX10_takenOn_69 (by decide) (fun hc => ?_) (fun hc => ?_)
      · replace hw := hw.1 hc
        refine r_iinc h (j := 5) (v := (x5 + 1)) [1, 2, 3, 4, 5, 0, 6] rfl rfl (by decide) rfl dX10_takenOn_128 ?_
        refine r_goto h 6 dX10_takenOn_131 (by decide) ?_
        refine r_vs [0, 1, 2, 3, 4, 5] rfl ?_
        exact hk6 _ _ _ _ _ _ _ hw
      · replace hw := hw.2 hc
        refine r_iload h 4 rfl dX10_takenOn_72 ?_
        refine r_aload_n h 0 rfl rfl dX10_takenOn_74 ?_
        obtain ⟨b24, h25, hw⟩ := hw
        refine r_getr h kci11 in11 (k := 19) (by decide) rfl rfl q1191 h19 h25 dX10_takenOn_75 ?_
        refine r_iconst h (v := 5) (by decide) dX10_takenOn_78 ?_
        refine r_iload h 5 rfl dX10_takenOn_79 ?_
        refine r_imul h dX10_takenOn_81 ?_
        refine r_iload h 6 rfl dX10_takenOn_82 ?_
        refine r_iadd h dX10_takenOn_84 ?_
        obtain ⟨h26, hw⟩ := hw
        obtain ⟨h27, hw⟩ := hw
        refine r_iald h h26 h27 dX10_takenOn_85 ?_
        refine r_iload_n h 1 rfl rfl dX10_takenOn_86 ?_
        refine r_icmp_ne h 118 dX10_takenOn_87 (by decide) (fun hc => ?_) (fun hc => ?_)
        · replace hw := hw.1 hc
          refine r_iconst h (v := 0) (by decide) dX10_takenOn_118 ?_
          refine r_iadd h dX10_takenOn_119 ?_
          refine r_istore h [1, 2, 3, 4, 0, 5, 6] (by decide) rfl dX10_takenOn_120 ?_
          refine r_iinc h (j := 6) (v := (x6 + 1)) [1, 2, 3, 4, 5, 6, 0] rfl rfl (by decide) rfl dX10_takenOn_122 ?_
          refine r_goto h 60 dX10_takenOn_125 (by decide) ?_
          exact ih _ _ _ _ _ _ _ _ hw
        · replace hw := hw.2 hc
          refine r_aload_n h 0 rfl rfl dX10_takenOn_90 ?_
          obtain ⟨b28, h29, hw⟩ := hw
          refine r_getr h kci11 in11 (k := 6) (by decide) rfl rfl q1178 h19 h29 dX10_takenOn_91 ?_
          refine r_aload_n h 0 rfl rfl dX10_takenOn_94 ?_
          obtain ⟨b30, h31, hw⟩ := hw
          refine r_getr h kci11 in11 (k := 18) (by decide) rfl rfl q1190 h19 h31 dX10_takenOn_95 ?_
          refine r_iconst h (v := 5) (by decide) dX10_takenOn_98 ?_
          refine r_iload h 5 rfl dX10_takenOn_99 ?_
          refine r_imul h dX10_takenOn_101 ?_
          refine r_iload h 6 rfl dX10_takenOn_102 ?_
          refine r_iadd h dX10_takenOn_104 ?_
          obtain ⟨h32, hw⟩ := hw
          obtain ⟨h33, hw⟩ := hw
          refine r_iald h h32 h33 dX10_takenOn_105 ?_
          obtain ⟨h34, hw⟩ := hw
          obtain ⟨h35, hw⟩ := hw
          refine r_iald h h34 h35 dX10_takenOn_106 ?_
          refine r_aload_n h 0 rfl rfl dX10_takenOn_107 ?_
          obtain ⟨b36, h37, hw⟩ := hw
          refine r_getr h kci11 in11 (k := 15) (by decide) rfl rfl q1187 h19 h37 dX10_takenOn_108 ?_
          refine r_iload h 5 rfl dX10_takenOn_111 ?_
          obtain ⟨h38, hw⟩ := hw
          obtain ⟨h39, hw⟩ := hw
          refine r_iald h h38 h39 dX10_takenOn_113 ?_
          refine r_iadd h dX10_takenOn_114 ?_
          refine r_goto h 119 dX10_takenOn_115 (by decide) ?_
          refine r_iadd h dX10_takenOn_119 ?_
          refine r_istore h [1, 2, 3, 4, 0, 5, 6] (by decide) rfl dX10_takenOn_120 ?_
          refine r_iinc h (j := 6) (v := (x6 + 1)) [1, 2, 3, 4, 5, 6, 0] rfl rfl (by decide) rfl dX10_takenOn_122 ?_
          refine r_goto h 60 dX10_takenOn_125 (by decide) ?_
          exact ih _ _ _ _ _ _ _ _ hw
  have L6 : ∀ (n : Nat) (S : St) (a0 : Nat) (x1 : Int32) (x2 : Int32) (x3 : Int32) (x4 : Int32) (x5 : Int32), wl_X10_takenOn_6 f n S a0 x1 x2 x3 x4 x5 → pw X 0 0 S 6 [(0, .ref a0), (1, .int x1), (2, .int x2), (3, .int x3), (4, .int x4), (5, .int x5)] [] := by
    intro n
    induction n with
    | zero => intro S a0 x1 x2 x3 x4 x5 hw; exact hw.elim
    | succ n ih =>
      intro S a0 x1 x2 x3 x4 x5 hw
      unfold wl_X10_takenOn_6 at hw
      refine r_iload h 5 rfl dX10_takenOn_6 ?_
      refine r_aload_n h 0 rfl rfl dX10_takenOn_8 ?_
      obtain ⟨h2, hw⟩ := hw
      refine r_geti h kci11 in11 (k := 27) (by decide) rfl rfl q1199 h2 dX10_takenOn_9 ?_
      refine r_icmp_ge h 134 dX10_takenOn_12 (by decide) (fun hc => ?_) (fun hc => ?_)
      · replace hw := hw.1 hc
        refine r_iload h 4 rfl dX10_takenOn_134 ?_
        exact r_iret h hq rfl ⟨_, rfl, hw⟩ (by decide) (by decide) dX10_takenOn_136
      · replace hw := hw.2 hc
        refine r_iload h 5 rfl dX10_takenOn_15 ?_
        refine r_iload_n h 3 rfl rfl dX10_takenOn_17 ?_
        refine r_icmp_eq h 128 dX10_takenOn_18 (by decide) (fun hc => ?_) (fun hc => ?_)
        · replace hw := hw.1 hc
          refine r_iinc h (j := 5) (v := (x5 + 1)) [1, 2, 3, 4, 5, 0] rfl rfl (by decide) rfl dX10_takenOn_128 ?_
          refine r_goto h 6 dX10_takenOn_131 (by decide) ?_
          exact ih _ _ _ _ _ _ _ hw
        · replace hw := hw.2 hc
          refine r_aload_n h 0 rfl rfl dX10_takenOn_21 ?_
          obtain ⟨b3, h4, hw⟩ := hw
          refine r_getr h kci11 in11 (k := 16) (by decide) rfl rfl q1188 h2 h4 dX10_takenOn_22 ?_
          refine r_iload h 5 rfl dX10_takenOn_25 ?_
          obtain ⟨h5, hw⟩ := hw
          obtain ⟨h6, hw⟩ := hw
          refine r_iald h h5 h6 dX10_takenOn_27 ?_
          refine r_bipush h (v := 112) (by decide) dX10_takenOn_28 ?_
          refine r_icmp_ne h 128 dX10_takenOn_30 (by decide) (fun hc => ?_) (fun hc => ?_)
          · replace hw := hw.1 hc
            refine r_iinc h (j := 5) (v := (x5 + 1)) [1, 2, 3, 4, 5, 0] rfl rfl (by decide) rfl dX10_takenOn_128 ?_
            refine r_goto h 6 dX10_takenOn_131 (by decide) ?_
            exact ih _ _ _ _ _ _ _ hw
          · replace hw := hw.2 hc
            refine r_iload_n h 2 rfl rfl dX10_takenOn_33 ?_
            refine r_aload_n h 0 rfl rfl dX10_takenOn_34 ?_
            obtain ⟨b7, h8, hw⟩ := hw
            refine r_getr h kci11 in11 (k := 13) (by decide) rfl rfl q1185 h2 h8 dX10_takenOn_35 ?_
            refine r_iload h 5 rfl dX10_takenOn_38 ?_
            obtain ⟨h9, hw⟩ := hw
            obtain ⟨h10, hw⟩ := hw
            refine r_iald h h9 h10 dX10_takenOn_40 ?_
            refine r_aload_n h 0 rfl rfl dX10_takenOn_41 ?_
            obtain ⟨b11, h12, hw⟩ := hw
            refine r_getr h kci11 in11 (k := 14) (by decide) rfl rfl q1186 h2 h12 dX10_takenOn_42 ?_
            refine r_iload h 5 rfl dX10_takenOn_45 ?_
            obtain ⟨h13, hw⟩ := hw
            obtain ⟨h14, hw⟩ := hw
            refine r_iald h h13 h14 dX10_takenOn_47 ?_
            refine r_callS h (fun l => c_X10_in l _ _ _ _ _ hw) q1268 q1269 q64 q1270 nd_X10_in ⟨by decide, by decide⟩ rfl rfl ⟨by decide, by decide⟩ (as := [.int x2, .int (sI S b7 (Int32.toNatClampNeg x5)), .int (sI S b11 (Int32.toNatClampNeg x5))]) rfl (by first | decide | exact nl rfl) rfl dX10_takenOn_48 nxk (kI fun r15 S16 hw => ?_)
            refine r_if_ne h 57 dX10_takenOn_51 (by decide) (fun hc => ?_) (fun hc => ?_)
            · replace hw := hw.1 hc
              refine r_iconst h (v := 0) (by decide) dX10_takenOn_57 ?_
              refine r_istore h [1, 2, 3, 4, 5, 6, 0] (by decide) rfl dX10_takenOn_58 ?_
              obtain ⟨m, hw⟩ := hw
              exact L60 _ ih m _ _ _ _ _ _ _ _ hw
            · replace hw := hw.2 hc
              refine r_goto h 128 dX10_takenOn_54 (by decide) ?_
              refine r_iinc h (j := 5) (v := (x5 + 1)) [1, 2, 3, 4, 5, 0] rfl rfl (by decide) rfl dX10_takenOn_128 ?_
              refine r_goto h 6 dX10_takenOn_131 (by decide) ?_
              exact ih _ _ _ _ _ _ _ hw
  unfold w_X10_takenOn at hw
  refine r_iconst h (v := 0) (by decide) dX10_takenOn_0 ?_
  refine r_istore h [1, 2, 3, 4, 0] (by decide) rfl dX10_takenOn_1 ?_
  refine r_iconst h (v := 0) (by decide) dX10_takenOn_3 ?_
  refine r_istore h [1, 2, 3, 4, 5, 0] (by decide) rfl dX10_takenOn_4 ?_
  obtain ⟨m, hw⟩ := hw
  exact L6 m _ _ _ _ _ _ _ hw

def wl_X10_isTooShort_76 (f : Int32 → St → Prop) : Nat → St → Nat → Int32 → Int32 → Int32 → Int32 → Prop
  | 0, _, _, _, _, _, _ => False
  | n + 1, S, a0, x1, x3, x4, x5 => ok S a0 11 ∧ ∃ b14 : Nat, sP S a0 14 = some b14 ∧ ok S b14 101 ∧ vp_in x1 (sN S b14) ∧ ((((sI S b14 (Int32.toNatClampNeg x1)) < x5) → f 0 S) ∧ ((¬ (sI S b14 (Int32.toNatClampNeg x1)) < x5) → w_X10_takenOn S a0 x3 x5 x1 (fun (r18 : Int32) (S19 : St) => ok S19 a0 11 ∧ ∃ b22 : Nat, sP S19 a0 2 = some b22 ∧ ok S19 b22 101 ∧ vp_in x3 (sN S19 b22) ∧ ((((r18 + x4) ≤ (sI S19 b22 (Int32.toNatClampNeg x3))) → wl_X10_isTooShort_76 f n S19 a0 x1 x3 x4 (x5 + 1)) ∧ ((¬ (r18 + x4) ≤ (sI S19 b22 (Int32.toNatClampNeg x3))) → f 1 S19)))))
def wl_X10_isTooShort_13 (f : Int32 → St → Prop) : Nat → St → Nat → Int32 → Int32 → Int32 → Int32 → Int32 → Prop
  | 0, _, _, _, _, _, _, _ => False
  | n + 1, S, a0, x1, x2, x3, x4, x5 => (((x2 < x5) → ok S a0 11 ∧ ∃ b8 : Nat, sP S a0 13 = some b8 ∧ ok S b8 101 ∧ vp_in x1 (sN S b8) ∧ (∃ m : Nat, wl_X10_isTooShort_76 f m S a0 x1 x3 x4 (sI S b8 (Int32.toNatClampNeg x1)))) ∧ ((¬ x2 < x5) → ok S a0 11 ∧ ∃ b27 : Nat, sP S a0 20 = some b27 ∧ ok S b27 101 ∧ vp_in x5 (sN S b27) ∧ (((¬ (sI S b27 (Int32.toNatClampNeg x5)) = x3) → wl_X10_isTooShort_13 f n S a0 x1 x2 x3 (x4 + 0) (x5 + 1)) ∧ (((sI S b27 (Int32.toNatClampNeg x5)) = x3) → ∃ b31 : Nat, sP S a0 6 = some b31 ∧ ∃ b33 : Nat, sP S a0 18 = some b33 ∧ ok S b33 101 ∧ vp_in ((5 * x1) + x5) (sN S b33) ∧ ok S b31 101 ∧ vp_in (sI S b33 (Int32.toNatClampNeg ((5 * x1) + x5))) (sN S b31) ∧ ∃ b39 : Nat, sP S a0 15 = some b39 ∧ ok S b39 101 ∧ vp_in x1 (sN S b39) ∧ wl_X10_isTooShort_13 f n S a0 x1 x2 x3 (x4 + ((sI S b31 (Int32.toNatClampNeg (sI S b33 (Int32.toNatClampNeg ((5 * x1) + x5))))) + (sI S b39 (Int32.toNatClampNeg x1)))) (x5 + 1)))))
def w_X10_isTooShort (S : St) (a0 : Nat) (x1 : Int32) (x2 : Int32) (f : Int32 → St → Prop) : Prop := ok S a0 11 ∧ ∃ b2 : Nat, sP S a0 20 = some b2 ∧ ok S b2 101 ∧ vp_in x2 (sN S b2) ∧ (∃ m : Nat, wl_X10_isTooShort_13 f m S a0 x1 x2 (sI S b2 (Int32.toNatClampNeg x2)) 0 0)
set_option maxRecDepth 100000 in
set_option maxHeartbeats 4000000 in
theorem c_X10_isTooShort (l : Launch) (S : St) (a0 : Nat) (x1 : Int32) (x2 : Int32) (f : Int32 → St → Prop) (hw : w_X10_isTooShort S a0 x1 x2 f) : Ct l yX10_isTooShort (Cond.code yX10_isTooShort cX10_isTooShort 6 (some .boolean)) { frames := 2, cells := 0, slots := 0, locals := 48 } 0 0 S [.ref a0, .int x1, .int x2] (pI f) nox := by
  refine entry (by decide +kernel) rfl rfl (by first | decide | exact nl rfl) rfl ?_
  intro X h hq
  have L76 : ∀ (n : Nat) (S : St) (a0 : Nat) (x1 : Int32) (x3 : Int32) (x4 : Int32) (x5 : Int32), wl_X10_isTooShort_76 f n S a0 x1 x3 x4 x5 → pw X 0 0 S 76 [(0, .ref a0), (1, .int x1), (3, .int x3), (4, .int x4), (5, .int x5)] [] := by
    intro n
    induction n with
    | zero => intro S a0 x1 x3 x4 x5 hw; exact hw.elim
    | succ n ih =>
      intro S a0 x1 x3 x4 x5 hw
      unfold wl_X10_isTooShort_76 at hw
      refine r_iload h 4 rfl dX10_isTooShort_76 ?_
      refine r_aload_n h 0 rfl rfl dX10_isTooShort_78 ?_
      obtain ⟨h13, hw⟩ := hw
      obtain ⟨b14, h15, hw⟩ := hw
      refine r_getr h kci11 in11 (k := 14) (by decide) rfl rfl q1186 h13 h15 dX10_isTooShort_79 ?_
      refine r_iload_n h 1 rfl rfl dX10_isTooShort_82 ?_
      obtain ⟨h16, hw⟩ := hw
      obtain ⟨h17, hw⟩ := hw
      refine r_iald h h16 h17 dX10_isTooShort_83 ?_
      refine r_icmp_gt h 115 dX10_isTooShort_84 (by decide) (fun hc => ?_) (fun hc => ?_)
      · replace hw := hw.1 hc
        refine r_iconst h (v := 0) (by decide) dX10_isTooShort_115 ?_
        exact r_zret h hq (ty := .boolean) rfl rfl ⟨_, rfl, hw⟩ (by decide) (by decide) dX10_isTooShort_116
      · replace hw := hw.2 hc
        refine r_aload_n h 0 rfl rfl dX10_isTooShort_87 ?_
        refine r_iload_n h 2 rfl rfl dX10_isTooShort_88 ?_
        refine r_iload h 4 rfl dX10_isTooShort_89 ?_
        refine r_iload_n h 1 rfl rfl dX10_isTooShort_91 ?_
        refine r_callV h (fun l => c_X10_takenOn l _ _ _ _ _ _ hw) q1322 q1324 q39 q64 q1325 nd_X10_takenOn ⟨by decide, by decide⟩ rfl rfl ⟨by decide, by decide⟩ kci11 rfl h13 rfl (by first | decide | exact nl rfl) rfl dX10_isTooShort_92 nxk (kI fun r18 S19 hw => ?_)
        refine r_iload h 3 rfl dX10_isTooShort_95 ?_
        refine r_iadd h dX10_isTooShort_97 ?_
        refine r_aload_n h 0 rfl rfl dX10_isTooShort_98 ?_
        obtain ⟨h21, hw⟩ := hw
        obtain ⟨b22, h23, hw⟩ := hw
        refine r_getr h kci11 in11 (k := 2) (by decide) rfl rfl q1174 h21 h23 dX10_isTooShort_99 ?_
        refine r_iload_n h 2 rfl rfl dX10_isTooShort_102 ?_
        obtain ⟨h24, hw⟩ := hw
        obtain ⟨h25, hw⟩ := hw
        refine r_iald h h24 h25 dX10_isTooShort_103 ?_
        refine r_icmp_le h 109 dX10_isTooShort_104 (by decide) (fun hc => ?_) (fun hc => ?_)
        · replace hw := hw.1 hc
          refine r_iinc h (j := 4) (v := (x5 + 1)) [1, 2, 3, 4, 0] rfl rfl (by decide) rfl dX10_isTooShort_109 ?_
          refine r_goto h 76 dX10_isTooShort_112 (by decide) ?_
          exact ih _ _ _ _ _ _ hw
        · replace hw := hw.2 hc
          refine r_iconst h (v := 1) (by decide) dX10_isTooShort_107 ?_
          exact r_zret h hq (ty := .boolean) rfl rfl ⟨_, rfl, hw⟩ (by decide) (by decide) dX10_isTooShort_108
  have L13 : ∀ (n : Nat) (S : St) (a0 : Nat) (x1 : Int32) (x2 : Int32) (x3 : Int32) (x4 : Int32) (x5 : Int32), wl_X10_isTooShort_13 f n S a0 x1 x2 x3 x4 x5 → pw X 0 0 S 13 [(0, .ref a0), (1, .int x1), (2, .int x2), (3, .int x3), (4, .int x4), (5, .int x5)] [] := by
    intro n
    induction n with
    | zero => intro S a0 x1 x2 x3 x4 x5 hw; exact hw.elim
    | succ n ih =>
      intro S a0 x1 x2 x3 x4 x5 hw
      unfold wl_X10_isTooShort_13 at hw
      refine r_iload h 5 rfl dX10_isTooShort_13 ?_
      refine r_iload_n h 2 rfl rfl dX10_isTooShort_15 ?_
      refine r_icmp_gt h 68 dX10_isTooShort_16 (by decide) (fun hc => ?_) (fun hc => ?_)
      · replace hw := hw.1 hc
        refine r_aload_n h 0 rfl rfl dX10_isTooShort_68 ?_
        obtain ⟨h7, hw⟩ := hw
        obtain ⟨b8, h9, hw⟩ := hw
        refine r_getr h kci11 in11 (k := 13) (by decide) rfl rfl q1185 h7 h9 dX10_isTooShort_69 ?_
        refine r_iload_n h 1 rfl rfl dX10_isTooShort_72 ?_
        obtain ⟨h10, hw⟩ := hw
        obtain ⟨h11, hw⟩ := hw
        refine r_iald h h10 h11 dX10_isTooShort_73 ?_
        refine r_istore h [1, 2, 4, 5, 0] (by decide) rfl dX10_isTooShort_74 ?_
        obtain ⟨m, hw⟩ := hw
        exact L76 m _ _ _ _ _ _ hw
      · replace hw := hw.2 hc
        refine r_iload h 4 rfl dX10_isTooShort_19 ?_
        refine r_aload_n h 0 rfl rfl dX10_isTooShort_21 ?_
        obtain ⟨h26, hw⟩ := hw
        obtain ⟨b27, h28, hw⟩ := hw
        refine r_getr h kci11 in11 (k := 20) (by decide) rfl rfl q1192 h26 h28 dX10_isTooShort_22 ?_
        refine r_iload h 5 rfl dX10_isTooShort_25 ?_
        obtain ⟨h29, hw⟩ := hw
        obtain ⟨h30, hw⟩ := hw
        refine r_iald h h29 h30 dX10_isTooShort_27 ?_
        refine r_iload_n h 3 rfl rfl dX10_isTooShort_28 ?_
        refine r_icmp_ne h 58 dX10_isTooShort_29 (by decide) (fun hc => ?_) (fun hc => ?_)
        · replace hw := hw.1 hc
          refine r_iconst h (v := 0) (by decide) dX10_isTooShort_58 ?_
          refine r_iadd h dX10_isTooShort_59 ?_
          refine r_istore h [1, 2, 3, 4, 0, 5] (by decide) rfl dX10_isTooShort_60 ?_
          refine r_iinc h (j := 5) (v := (x5 + 1)) [1, 2, 3, 4, 5, 0] rfl rfl (by decide) rfl dX10_isTooShort_62 ?_
          refine r_goto h 13 dX10_isTooShort_65 (by decide) ?_
          exact ih _ _ _ _ _ _ _ hw
        · replace hw := hw.2 hc
          refine r_aload_n h 0 rfl rfl dX10_isTooShort_32 ?_
          obtain ⟨b31, h32, hw⟩ := hw
          refine r_getr h kci11 in11 (k := 6) (by decide) rfl rfl q1178 h26 h32 dX10_isTooShort_33 ?_
          refine r_aload_n h 0 rfl rfl dX10_isTooShort_36 ?_
          obtain ⟨b33, h34, hw⟩ := hw
          refine r_getr h kci11 in11 (k := 18) (by decide) rfl rfl q1190 h26 h34 dX10_isTooShort_37 ?_
          refine r_iconst h (v := 5) (by decide) dX10_isTooShort_40 ?_
          refine r_iload_n h 1 rfl rfl dX10_isTooShort_41 ?_
          refine r_imul h dX10_isTooShort_42 ?_
          refine r_iload h 5 rfl dX10_isTooShort_43 ?_
          refine r_iadd h dX10_isTooShort_45 ?_
          obtain ⟨h35, hw⟩ := hw
          obtain ⟨h36, hw⟩ := hw
          refine r_iald h h35 h36 dX10_isTooShort_46 ?_
          obtain ⟨h37, hw⟩ := hw
          obtain ⟨h38, hw⟩ := hw
          refine r_iald h h37 h38 dX10_isTooShort_47 ?_
          refine r_aload_n h 0 rfl rfl dX10_isTooShort_48 ?_
          obtain ⟨b39, h40, hw⟩ := hw
          refine r_getr h kci11 in11 (k := 15) (by decide) rfl rfl q1187 h26 h40 dX10_isTooShort_49 ?_
          refine r_iload_n h 1 rfl rfl dX10_isTooShort_52 ?_
          obtain ⟨h41, hw⟩ := hw
          obtain ⟨h42, hw⟩ := hw
          refine r_iald h h41 h42 dX10_isTooShort_53 ?_
          refine r_iadd h dX10_isTooShort_54 ?_
          refine r_goto h 59 dX10_isTooShort_55 (by decide) ?_
          refine r_iadd h dX10_isTooShort_59 ?_
          refine r_istore h [1, 2, 3, 4, 0, 5] (by decide) rfl dX10_isTooShort_60 ?_
          refine r_iinc h (j := 5) (v := (x5 + 1)) [1, 2, 3, 4, 5, 0] rfl rfl (by decide) rfl dX10_isTooShort_62 ?_
          refine r_goto h 13 dX10_isTooShort_65 (by decide) ?_
          exact ih _ _ _ _ _ _ _ hw
  unfold w_X10_isTooShort at hw
  refine r_aload_n h 0 rfl rfl dX10_isTooShort_0 ?_
  obtain ⟨h1, hw⟩ := hw
  obtain ⟨b2, h3, hw⟩ := hw
  refine r_getr h kci11 in11 (k := 20) (by decide) rfl rfl q1192 h1 h3 dX10_isTooShort_1 ?_
  refine r_iload_n h 2 rfl rfl dX10_isTooShort_4 ?_
  obtain ⟨h4, hw⟩ := hw
  obtain ⟨h5, hw⟩ := hw
  refine r_iald h h4 h5 dX10_isTooShort_5 ?_
  refine r_istore_n h [1, 2, 3, 0] rfl (by decide) rfl dX10_isTooShort_6 ?_
  refine r_iconst h (v := 0) (by decide) dX10_isTooShort_7 ?_
  refine r_istore h [1, 2, 3, 4, 0] (by decide) rfl dX10_isTooShort_8 ?_
  refine r_iconst h (v := 0) (by decide) dX10_isTooShort_10 ?_
  refine r_istore h [1, 2, 3, 4, 5, 0] (by decide) rfl dX10_isTooShort_11 ?_
  obtain ⟨m, hw⟩ := hw
  exact L13 m _ _ _ _ _ _ _ hw

def wl_X10_hangs_56 (f : Int32 → St → Prop) : Nat → St → Nat → Int32 → Int32 → Int32 → Int32 → Int32 → Prop
  | 0, _, _, _, _, _, _, _ => False
  | n + 1, S, a0, x1, x2, x3, x4, x5 => (((x2 ≤ x5) → f 1 S) ∧ ((¬ x2 ≤ x5) → ok S a0 11 ∧ ∃ b23 : Nat, sP S a0 12 = some b23 ∧ ∃ b25 : Nat, sP S a0 18 = some b25 ∧ ok S b25 101 ∧ vp_in ((5 * x1) + x5) (sN S b25) ∧ ok S b23 101 ∧ vp_in ((12 * x3) + (sI S b25 (Int32.toNatClampNeg ((5 * x1) + x5)))) (sN S b23) ∧ ∃ b31 : Nat, sP S a0 20 = some b31 ∧ ok S b31 101 ∧ vp_in x5 (sN S b31) ∧ w_X10_isBroken S (sI S b23 (Int32.toNatClampNeg ((12 * x3) + (sI S b25 (Int32.toNatClampNeg ((5 * x1) + x5)))))) x4 (sI S b31 (Int32.toNatClampNeg x5)) (fun (r35 : Int32) (S36 : St) => (((r35 = 0) → wl_X10_hangs_56 f n S36 a0 x1 x2 x3 x4 (x5 + 1)) ∧ ((¬ r35 = 0) → f 0 S36)))))
def w_X10_hangs (S : St) (a0 : Nat) (x1 : Int32) (x2 : Int32) (f : Int32 → St → Prop) : Prop := ok S a0 11 ∧ ∃ b2 : Nat, sP S a0 18 = some b2 ∧ ok S b2 101 ∧ vp_in ((5 * x1) + x2) (sN S b2) ∧ ∃ b6 : Nat, sP S a0 20 = some b6 ∧ ok S b6 101 ∧ vp_in x2 (sN S b6) ∧ w_X10_hangsWhere S a0 (sI S b2 (Int32.toNatClampNeg ((5 * x1) + x2))) ((sI S b6 (Int32.toNatClampNeg x2)) / 2) (fun (r10 : Int32) (S11 : St) => (((r10 = 0) → f 0 S11) ∧ ((¬ r10 = 0) → ok S11 a0 11 ∧ w_X10_breaksOthers S11 a0 x1 (sI S b2 (Int32.toNatClampNeg ((5 * x1) + x2))) (sI S b6 (Int32.toNatClampNeg x2)) (fun (r14 : Int32) (S15 : St) => (((¬ r14 = 0) → f 0 S15) ∧ ((r14 = 0) → ok S15 a0 11 ∧ w_X10_isTooShort S15 a0 x1 x2 (fun (r18 : Int32) (S19 : St) => (((r18 = 0) → (∃ m : Nat, wl_X10_hangs_56 f m S19 a0 x1 x2 (sI S b2 (Int32.toNatClampNeg ((5 * x1) + x2))) (sI S b6 (Int32.toNatClampNeg x2)) 0)) ∧ ((¬ r18 = 0) → f 0 S19)))))))))
set_option maxRecDepth 100000 in
set_option maxHeartbeats 4000000 in
theorem c_X10_hangs (l : Launch) (S : St) (a0 : Nat) (x1 : Int32) (x2 : Int32) (f : Int32 → St → Prop) (hw : w_X10_hangs S a0 x1 x2 f) : Ct l yX10_hangs (Cond.code yX10_hangs cX10_hangs 6 (some .boolean)) { frames := 3, cells := 0, slots := 0, locals := 73 } 0 0 S [.ref a0, .int x1, .int x2] (pI f) nox := by
  refine entry (by decide +kernel) rfl rfl (by first | decide | exact nl rfl) rfl ?_
  intro X h hq
  have L56 : ∀ (n : Nat) (S : St) (a0 : Nat) (x1 : Int32) (x2 : Int32) (x3 : Int32) (x4 : Int32) (x5 : Int32), wl_X10_hangs_56 f n S a0 x1 x2 x3 x4 x5 → pw X 0 0 S 56 [(0, .ref a0), (1, .int x1), (2, .int x2), (3, .int x3), (4, .int x4), (5, .int x5)] [] := by
    intro n
    induction n with
    | zero => intro S a0 x1 x2 x3 x4 x5 hw; exact hw.elim
    | succ n ih =>
      intro S a0 x1 x2 x3 x4 x5 hw
      unfold wl_X10_hangs_56 at hw
      refine r_iload h 5 rfl dX10_hangs_56 ?_
      refine r_iload_n h 2 rfl rfl dX10_hangs_58 ?_
      refine r_icmp_ge h 106 dX10_hangs_59 (by decide) (fun hc => ?_) (fun hc => ?_)
      · replace hw := hw.1 hc
        refine r_iconst h (v := 1) (by decide) dX10_hangs_106 ?_
        exact r_zret h hq (ty := .boolean) rfl rfl ⟨_, rfl, hw⟩ (by decide) (by decide) dX10_hangs_107
      · replace hw := hw.2 hc
        refine r_aload_n h 0 rfl rfl dX10_hangs_62 ?_
        obtain ⟨h22, hw⟩ := hw
        obtain ⟨b23, h24, hw⟩ := hw
        refine r_getr h kci11 in11 (k := 12) (by decide) rfl rfl q1184 h22 h24 dX10_hangs_63 ?_
        refine r_bipush h (v := 12) (by decide) dX10_hangs_66 ?_
        refine r_iload_n h 3 rfl rfl dX10_hangs_68 ?_
        refine r_imul h dX10_hangs_69 ?_
        refine r_aload_n h 0 rfl rfl dX10_hangs_70 ?_
        obtain ⟨b25, h26, hw⟩ := hw
        refine r_getr h kci11 in11 (k := 18) (by decide) rfl rfl q1190 h22 h26 dX10_hangs_71 ?_
        refine r_iconst h (v := 5) (by decide) dX10_hangs_74 ?_
        refine r_iload_n h 1 rfl rfl dX10_hangs_75 ?_
        refine r_imul h dX10_hangs_76 ?_
        refine r_iload h 5 rfl dX10_hangs_77 ?_
        refine r_iadd h dX10_hangs_79 ?_
        obtain ⟨h27, hw⟩ := hw
        obtain ⟨h28, hw⟩ := hw
        refine r_iald h h27 h28 dX10_hangs_80 ?_
        refine r_iadd h dX10_hangs_81 ?_
        obtain ⟨h29, hw⟩ := hw
        obtain ⟨h30, hw⟩ := hw
        refine r_iald h h29 h30 dX10_hangs_82 ?_
        refine r_iload h 4 rfl dX10_hangs_83 ?_
        refine r_aload_n h 0 rfl rfl dX10_hangs_85 ?_
        obtain ⟨b31, h32, hw⟩ := hw
        refine r_getr h kci11 in11 (k := 20) (by decide) rfl rfl q1192 h22 h32 dX10_hangs_86 ?_
        refine r_iload h 5 rfl dX10_hangs_89 ?_
        obtain ⟨h33, hw⟩ := hw
        obtain ⟨h34, hw⟩ := hw
        refine r_iald h h33 h34 dX10_hangs_91 ?_
        refine r_callS h (fun l => c_X10_isBroken l _ _ _ _ _ hw) q1315 q1316 q64 q1317 nd_X10_isBroken ⟨by decide, by decide⟩ rfl rfl ⟨by decide, by decide⟩ (as := [.int (sI S b23 (Int32.toNatClampNeg ((12 * x3) + (sI S b25 (Int32.toNatClampNeg ((5 * x1) + x5)))))), .int x4, .int (sI S b31 (Int32.toNatClampNeg x5))]) rfl (by first | decide | exact nl rfl) rfl dX10_hangs_92 nxk (kI fun r35 S36 hw => ?_)
        refine r_if_eq h 100 dX10_hangs_95 (by decide) (fun hc => ?_) (fun hc => ?_)
        · replace hw := hw.1 hc
          refine r_iinc h (j := 5) (v := (x5 + 1)) [1, 2, 3, 4, 5, 0] rfl rfl (by decide) rfl dX10_hangs_100 ?_
          refine r_goto h 56 dX10_hangs_103 (by decide) ?_
          exact ih _ _ _ _ _ _ _ hw
        · replace hw := hw.2 hc
          refine r_iconst h (v := 0) (by decide) dX10_hangs_98 ?_
          exact r_zret h hq (ty := .boolean) rfl rfl ⟨_, rfl, hw⟩ (by decide) (by decide) dX10_hangs_99
  unfold w_X10_hangs at hw
  refine r_aload_n h 0 rfl rfl dX10_hangs_0 ?_
  obtain ⟨h1, hw⟩ := hw
  obtain ⟨b2, h3, hw⟩ := hw
  refine r_getr h kci11 in11 (k := 18) (by decide) rfl rfl q1190 h1 h3 dX10_hangs_1 ?_
  refine r_iconst h (v := 5) (by decide) dX10_hangs_4 ?_
  refine r_iload_n h 1 rfl rfl dX10_hangs_5 ?_
  refine r_imul h dX10_hangs_6 ?_
  refine r_iload_n h 2 rfl rfl dX10_hangs_7 ?_
  refine r_iadd h dX10_hangs_8 ?_
  obtain ⟨h4, hw⟩ := hw
  obtain ⟨h5, hw⟩ := hw
  refine r_iald h h4 h5 dX10_hangs_9 ?_
  refine r_istore_n h [1, 2, 3, 0] rfl (by decide) rfl dX10_hangs_10 ?_
  refine r_aload_n h 0 rfl rfl dX10_hangs_11 ?_
  obtain ⟨b6, h7, hw⟩ := hw
  refine r_getr h kci11 in11 (k := 20) (by decide) rfl rfl q1192 h1 h7 dX10_hangs_12 ?_
  refine r_iload_n h 2 rfl rfl dX10_hangs_15 ?_
  obtain ⟨h8, hw⟩ := hw
  obtain ⟨h9, hw⟩ := hw
  refine r_iald h h8 h9 dX10_hangs_16 ?_
  refine r_istore h [1, 2, 3, 4, 0] (by decide) rfl dX10_hangs_17 ?_
  refine r_aload_n h 0 rfl rfl dX10_hangs_19 ?_
  refine r_iload_n h 3 rfl rfl dX10_hangs_20 ?_
  refine r_iload h 4 rfl dX10_hangs_21 ?_
  refine r_iconst h (v := 2) (by decide) dX10_hangs_23 ?_
  refine r_idiv h (by decide) dX10_hangs_24 ?_
  refine r_callV h (fun l => c_X10_hangsWhere l _ _ _ _ _ hw) q1303 q1305 q35 q64 q1306 nd_X10_hangsWhere ⟨by decide, by decide⟩ rfl rfl ⟨by decide, by decide⟩ kci11 rfl h1 rfl (by first | decide | exact nl rfl) rfl dX10_hangs_25 nxk (kI fun r10 S11 hw => ?_)
  refine r_if_eq h 51 dX10_hangs_28 (by decide) (fun hc => ?_) (fun hc => ?_)
  · replace hw := hw.1 hc
    refine r_iconst h (v := 0) (by decide) dX10_hangs_51 ?_
    exact r_zret h hq (ty := .boolean) rfl rfl ⟨_, rfl, hw⟩ (by decide) (by decide) dX10_hangs_52
  · replace hw := hw.2 hc
    refine r_aload_n h 0 rfl rfl dX10_hangs_31 ?_
    refine r_iload_n h 1 rfl rfl dX10_hangs_32 ?_
    refine r_iload_n h 3 rfl rfl dX10_hangs_33 ?_
    refine r_iload h 4 rfl dX10_hangs_34 ?_
    obtain ⟨h13, hw⟩ := hw
    refine r_callV h (fun l => c_X10_breaksOthers l _ _ _ _ _ _ hw) q1307 q1309 q36 q64 q1310 nd_X10_breaksOthers ⟨by decide, by decide⟩ rfl rfl ⟨by decide, by decide⟩ kci11 rfl h13 rfl (by first | decide | exact nl rfl) rfl dX10_hangs_36 nxk (kI fun r14 S15 hw => ?_)
    refine r_if_ne h 51 dX10_hangs_39 (by decide) (fun hc => ?_) (fun hc => ?_)
    · replace hw := hw.1 hc
      refine r_iconst h (v := 0) (by decide) dX10_hangs_51 ?_
      exact r_zret h hq (ty := .boolean) rfl rfl ⟨_, rfl, hw⟩ (by decide) (by decide) dX10_hangs_52
    · replace hw := hw.2 hc
      refine r_aload_n h 0 rfl rfl dX10_hangs_42 ?_
      refine r_iload_n h 1 rfl rfl dX10_hangs_43 ?_
      refine r_iload_n h 2 rfl rfl dX10_hangs_44 ?_
      obtain ⟨h17, hw⟩ := hw
      refine r_callV h (fun l => c_X10_isTooShort l _ _ _ _ _ hw) q1318 q1320 q38 q64 q1321 nd_X10_isTooShort ⟨by decide, by decide⟩ rfl rfl ⟨by decide, by decide⟩ kci11 rfl h17 rfl (by first | decide | exact nl rfl) rfl dX10_hangs_45 nxk (kI fun r18 S19 hw => ?_)
      refine r_if_eq h 53 dX10_hangs_48 (by decide) (fun hc => ?_) (fun hc => ?_)
      · replace hw := hw.1 hc
        refine r_iconst h (v := 0) (by decide) dX10_hangs_53 ?_
        refine r_istore h [1, 2, 3, 4, 5, 0] (by decide) rfl dX10_hangs_54 ?_
        obtain ⟨m, hw⟩ := hw
        exact L56 m _ _ _ _ _ _ _ hw
      · replace hw := hw.2 hc
        refine r_iconst h (v := 0) (by decide) dX10_hangs_51 ?_
        exact r_zret h hq (ty := .boolean) rfl rfl ⟨_, rfl, hw⟩ (by decide) (by decide) dX10_hangs_52

def wl_X10_plans_47 (f : Int32 → St → Prop) : Nat → St → Nat → Int32 → Int32 → Prop
  | 0, _, _, _, _ => False
  | n + 1, S, a0, x1, x2 => (((x2 < 0) → (((0 < x2) → f 1 S) ∧ ((¬ 0 < x2) → ok S a0 11 ∧ ∃ b14 : Nat, sP S a0 17 = some b14 ∧ ok S b14 101 ∧ vp_in x1 (sN S b14) ∧ (((¬ (sI S b14 (Int32.toNatClampNeg x1)) = 0) → f 0 S) ∧ (((sI S b14 (Int32.toNatClampNeg x1)) = 0) → f 1 S))))) ∧ ((¬ x2 < 0) → ok S a0 11 ∧ ∃ b19 : Nat, sP S a0 17 = some b19 ∧ ok S b19 101 ∧ vp_in x1 (sN S b19) ∧ ((((sI S b19 (Int32.toNatClampNeg x1)) ≤ x2) → (((0 < x2) → f 1 S) ∧ ((¬ 0 < x2) → (((¬ (sI S b19 (Int32.toNatClampNeg x1)) = 0) → f 0 S) ∧ (((sI S b19 (Int32.toNatClampNeg x1)) = 0) → f 1 S))))) ∧ ((¬ (sI S b19 (Int32.toNatClampNeg x1)) ≤ x2) → ∃ b23 : Nat, sP S a0 20 = some b23 ∧ ok S b23 101 ∧ vp_in x2 (sN S b23) ∧ let S27 : St := setI S b23 (Int32.toNatClampNeg x2) ((sI S b23 (Int32.toNatClampNeg x2)) + 1); (((¬ (sI S27 b23 (Int32.toNatClampNeg x2)) = (2 * (sI S27 a0 24))) → w_X10_hangs S27 a0 x1 x2 (fun (r28 : Int32) (S29 : St) => (((r28 = 0) → wl_X10_plans_47 f n S29 a0 x1 x2) ∧ ((¬ r28 = 0) → ok S29 a0 11 ∧ ∃ b32 : Nat, sP S29 a0 17 = some b32 ∧ ok S29 b32 101 ∧ vp_in x1 (sN S29 b32) ∧ ((((sI S29 b32 (Int32.toNatClampNeg x1)) ≤ (x2 + 1)) → wl_X10_plans_47 f n S29 a0 x1 (x2 + 1)) ∧ ((¬ (sI S29 b32 (Int32.toNatClampNeg x1)) ≤ (x2 + 1)) → ∃ b36 : Nat, sP S29 a0 20 = some b36 ∧ ok S29 b36 101 ∧ vp_in (x2 + 1) (sN S29 b36) ∧ let S40 : St := setI S29 b36 (Int32.toNatClampNeg (x2 + 1)) (-1); wl_X10_plans_47 f n S40 a0 x1 (x2 + 1))))))) ∧ (((sI S27 b23 (Int32.toNatClampNeg x2)) = (2 * (sI S27 a0 24))) → wl_X10_plans_47 f n S27 a0 x1 (x2 + (-1))))))))
def wl_X10_plans_2 (f : Int32 → St → Prop) : Nat → St → Nat → Int32 → Int32 → Prop
  | 0, _, _, _, _ => False
  | n + 1, S, a0, x1, x2 => ok S a0 11 ∧ ∃ b3 : Nat, sP S a0 17 = some b3 ∧ ok S b3 101 ∧ vp_in x1 (sN S b3) ∧ ((((sI S b3 (Int32.toNatClampNeg x1)) ≤ x2) → ∃ b7 : Nat, sP S a0 20 = some b7 ∧ ok S b7 101 ∧ vp_in 0 (sN S b7) ∧ let S11 : St := setI S b7 (Int32.toNatClampNeg 0) (-1); (∃ m : Nat, wl_X10_plans_47 f m S11 a0 x1 0)) ∧ ((¬ (sI S b3 (Int32.toNatClampNeg x1)) ≤ x2) → ∃ b41 : Nat, sP S a0 18 = some b41 ∧ ok S b41 101 ∧ vp_in ((5 * x1) + x2) (sN S b41) ∧ w_X10_takes S a0 x1 (sI S b41 (Int32.toNatClampNeg ((5 * x1) + x2))) (fun (r45 : Int32) (S46 : St) => (((¬ r45 = 0) → wl_X10_plans_2 f n S46 a0 x1 (x2 + 1)) ∧ ((r45 = 0) → f 0 S46)))))
def w_X10_plans (S : St) (a0 : Nat) (x1 : Int32) (f : Int32 → St → Prop) : Prop := (∃ m : Nat, wl_X10_plans_2 f m S a0 x1 0)
set_option maxRecDepth 100000 in
set_option maxHeartbeats 4000000 in
theorem c_X10_plans (l : Launch) (S : St) (a0 : Nat) (x1 : Int32) (f : Int32 → St → Prop) (hw : w_X10_plans S a0 x1 f) : Ct l yX10_plans (Cond.code yX10_plans cX10_plans 3 (some .boolean)) { frames := 4, cells := 0, slots := 0, locals := 98 } 0 0 S [.ref a0, .int x1] (pI f) nox := by
  refine entry (by decide +kernel) rfl rfl (by first | decide | exact nl rfl) rfl ?_
  intro X h hq
  have L47 : ∀ (n : Nat) (S : St) (a0 : Nat) (x1 : Int32) (x2 : Int32), wl_X10_plans_47 f n S a0 x1 x2 → pw X 0 0 S 47 [(0, .ref a0), (1, .int x1), (2, .int x2)] [] := by
    intro n
    induction n with
    | zero => intro S a0 x1 x2 hw; exact hw.elim
    | succ n ih =>
      intro S a0 x1 x2 hw
      unfold wl_X10_plans_47 at hw
      refine r_iload_n h 2 rfl rfl dX10_plans_47 ?_
      refine r_if_lt h 124 dX10_plans_48 (by decide) (fun hc => ?_) (fun hc => ?_)
      · replace hw := hw.1 hc
        refine r_iload_n h 2 rfl rfl dX10_plans_124 ?_
        refine r_if_gt h 137 dX10_plans_125 (by decide) (fun hc => ?_) (fun hc => ?_)
        · replace hw := hw.1 hc
          refine r_iconst h (v := 1) (by decide) dX10_plans_137 ?_
          refine r_goto h 142 dX10_plans_138 (by decide) ?_
          exact r_zret h hq (ty := .boolean) rfl rfl ⟨_, rfl, hw⟩ (by decide) (by decide) dX10_plans_142
        · replace hw := hw.2 hc
          refine r_aload_n h 0 rfl rfl dX10_plans_128 ?_
          obtain ⟨h13, hw⟩ := hw
          obtain ⟨b14, h15, hw⟩ := hw
          refine r_getr h kci11 in11 (k := 17) (by decide) rfl rfl q1189 h13 h15 dX10_plans_129 ?_
          refine r_iload_n h 1 rfl rfl dX10_plans_132 ?_
          obtain ⟨h16, hw⟩ := hw
          obtain ⟨h17, hw⟩ := hw
          refine r_iald h h16 h17 dX10_plans_133 ?_
          refine r_if_ne h 141 dX10_plans_134 (by decide) (fun hc => ?_) (fun hc => ?_)
          · replace hw := hw.1 hc
            refine r_iconst h (v := 0) (by decide) dX10_plans_141 ?_
            exact r_zret h hq (ty := .boolean) rfl rfl ⟨_, rfl, hw⟩ (by decide) (by decide) dX10_plans_142
          · replace hw := hw.2 hc
            refine r_iconst h (v := 1) (by decide) dX10_plans_137 ?_
            refine r_goto h 142 dX10_plans_138 (by decide) ?_
            exact r_zret h hq (ty := .boolean) rfl rfl ⟨_, rfl, hw⟩ (by decide) (by decide) dX10_plans_142
      · replace hw := hw.2 hc
        refine r_iload_n h 2 rfl rfl dX10_plans_51 ?_
        refine r_aload_n h 0 rfl rfl dX10_plans_52 ?_
        obtain ⟨h18, hw⟩ := hw
        obtain ⟨b19, h20, hw⟩ := hw
        refine r_getr h kci11 in11 (k := 17) (by decide) rfl rfl q1189 h18 h20 dX10_plans_53 ?_
        refine r_iload_n h 1 rfl rfl dX10_plans_56 ?_
        obtain ⟨h21, hw⟩ := hw
        obtain ⟨h22, hw⟩ := hw
        refine r_iald h h21 h22 dX10_plans_57 ?_
        refine r_icmp_ge h 124 dX10_plans_58 (by decide) (fun hc => ?_) (fun hc => ?_)
        · replace hw := hw.1 hc
          refine r_iload_n h 2 rfl rfl dX10_plans_124 ?_
          refine r_if_gt h 137 dX10_plans_125 (by decide) (fun hc => ?_) (fun hc => ?_)
          · replace hw := hw.1 hc
            refine r_iconst h (v := 1) (by decide) dX10_plans_137 ?_
            refine r_goto h 142 dX10_plans_138 (by decide) ?_
            exact r_zret h hq (ty := .boolean) rfl rfl ⟨_, rfl, hw⟩ (by decide) (by decide) dX10_plans_142
          · replace hw := hw.2 hc
            refine r_aload_n h 0 rfl rfl dX10_plans_128 ?_
            refine r_getr h kci11 in11 (k := 17) (by decide) rfl rfl q1189 h18 h20 dX10_plans_129 ?_
            refine r_iload_n h 1 rfl rfl dX10_plans_132 ?_
            refine r_iald h h21 h22 dX10_plans_133 ?_
            refine r_if_ne h 141 dX10_plans_134 (by decide) (fun hc => ?_) (fun hc => ?_)
            · replace hw := hw.1 hc
              refine r_iconst h (v := 0) (by decide) dX10_plans_141 ?_
              exact r_zret h hq (ty := .boolean) rfl rfl ⟨_, rfl, hw⟩ (by decide) (by decide) dX10_plans_142
            · replace hw := hw.2 hc
              refine r_iconst h (v := 1) (by decide) dX10_plans_137 ?_
              refine r_goto h 142 dX10_plans_138 (by decide) ?_
              exact r_zret h hq (ty := .boolean) rfl rfl ⟨_, rfl, hw⟩ (by decide) (by decide) dX10_plans_142
        · replace hw := hw.2 hc
          refine r_aload_n h 0 rfl rfl dX10_plans_61 ?_
          obtain ⟨b23, h24, hw⟩ := hw
          refine r_getr h kci11 in11 (k := 20) (by decide) rfl rfl q1192 h18 h24 dX10_plans_62 ?_
          refine r_iload_n h 2 rfl rfl dX10_plans_65 ?_
          refine r_dup2 h rfl rfl dX10_plans_66 ?_
          obtain ⟨h25, hw⟩ := hw
          obtain ⟨h26, hw⟩ := hw
          refine r_iald h h25 h26 dX10_plans_67 ?_
          refine r_iconst h (v := 1) (by decide) dX10_plans_68 ?_
          refine r_iadd h dX10_plans_69 ?_
          refine r_iast h h25 h26 dX10_plans_70 ?_
          refine r_aload_n h 0 rfl rfl dX10_plans_71 ?_
          refine r_getr h kci11 in11 (k := 20) (by decide) rfl rfl q1192 h18 h24 dX10_plans_72 ?_
          refine r_iload_n h 2 rfl rfl dX10_plans_75 ?_
          refine r_iald h h25 h26 dX10_plans_76 ?_
          refine r_iconst h (v := 2) (by decide) dX10_plans_77 ?_
          refine r_aload_n h 0 rfl rfl dX10_plans_78 ?_
          refine r_geti h kci11 in11 (k := 24) (by decide) rfl rfl q1196 h18 dX10_plans_79 ?_
          refine r_imul h dX10_plans_82 ?_
          refine r_icmp_ne h 92 dX10_plans_83 (by decide) (fun hc => ?_) (fun hc => ?_)
          · replace hw := hw.1 hc
            refine r_aload_n h 0 rfl rfl dX10_plans_92 ?_
            refine r_iload_n h 1 rfl rfl dX10_plans_93 ?_
            refine r_iload_n h 2 rfl rfl dX10_plans_94 ?_
            refine r_callV h (fun l => c_X10_hangs l _ _ _ _ _ hw) q1299 q1301 q34 q64 q1302 nd_X10_hangs ⟨by decide, by decide⟩ rfl rfl ⟨by decide, by decide⟩ kci11 rfl h18 rfl (by first | decide | exact nl rfl) rfl dX10_plans_95 nxk (kI fun r28 S29 hw => ?_)
            refine r_if_eq h 47 dX10_plans_98 (by decide) (fun hc => ?_) (fun hc => ?_)
            · replace hw := hw.1 hc
              exact ih _ _ _ _ hw
            · replace hw := hw.2 hc
              refine r_iinc h (j := 2) (v := (x2 + 1)) [1, 2, 0] rfl rfl (by decide) rfl dX10_plans_101 ?_
              refine r_iload_n h 2 rfl rfl dX10_plans_104 ?_
              refine r_aload_n h 0 rfl rfl dX10_plans_105 ?_
              obtain ⟨h31, hw⟩ := hw
              obtain ⟨b32, h33, hw⟩ := hw
              refine r_getr h kci11 in11 (k := 17) (by decide) rfl rfl q1189 h31 h33 dX10_plans_106 ?_
              refine r_iload_n h 1 rfl rfl dX10_plans_109 ?_
              obtain ⟨h34, hw⟩ := hw
              obtain ⟨h35, hw⟩ := hw
              refine r_iald h h34 h35 dX10_plans_110 ?_
              refine r_icmp_ge h 47 dX10_plans_111 (by decide) (fun hc => ?_) (fun hc => ?_)
              · replace hw := hw.1 hc
                exact ih _ _ _ _ hw
              · replace hw := hw.2 hc
                refine r_aload_n h 0 rfl rfl dX10_plans_114 ?_
                obtain ⟨b36, h37, hw⟩ := hw
                refine r_getr h kci11 in11 (k := 20) (by decide) rfl rfl q1192 h31 h37 dX10_plans_115 ?_
                refine r_iload_n h 2 rfl rfl dX10_plans_118 ?_
                refine r_iconst h (v := (-1)) (by decide) dX10_plans_119 ?_
                obtain ⟨h38, hw⟩ := hw
                obtain ⟨h39, hw⟩ := hw
                refine r_iast h h38 h39 dX10_plans_120 ?_
                refine r_goto h 47 dX10_plans_121 (by decide) ?_
                exact ih _ _ _ _ hw
          · replace hw := hw.2 hc
            refine r_iinc h (j := 2) (v := (x2 + (-1))) [1, 2, 0] rfl (congrArg (fun q => x2 + q) (show Int32.ofInt (-1) = (-1) from by decide)) (by decide) rfl dX10_plans_86 ?_
            refine r_goto h 47 dX10_plans_89 (by decide) ?_
            exact ih _ _ _ _ hw
  have L2 : ∀ (n : Nat) (S : St) (a0 : Nat) (x1 : Int32) (x2 : Int32), wl_X10_plans_2 f n S a0 x1 x2 → pw X 0 0 S 2 [(0, .ref a0), (1, .int x1), (2, .int x2)] [] := by
    intro n
    induction n with
    | zero => intro S a0 x1 x2 hw; exact hw.elim
    | succ n ih =>
      intro S a0 x1 x2 hw
      unfold wl_X10_plans_2 at hw
      refine r_iload_n h 2 rfl rfl dX10_plans_2 ?_
      refine r_aload_n h 0 rfl rfl dX10_plans_3 ?_
      obtain ⟨h2, hw⟩ := hw
      obtain ⟨b3, h4, hw⟩ := hw
      refine r_getr h kci11 in11 (k := 17) (by decide) rfl rfl q1189 h2 h4 dX10_plans_4 ?_
      refine r_iload_n h 1 rfl rfl dX10_plans_7 ?_
      obtain ⟨h5, hw⟩ := hw
      obtain ⟨h6, hw⟩ := hw
      refine r_iald h h5 h6 dX10_plans_8 ?_
      refine r_icmp_ge h 38 dX10_plans_9 (by decide) (fun hc => ?_) (fun hc => ?_)
      · replace hw := hw.1 hc
        refine r_iconst h (v := 0) (by decide) dX10_plans_38 ?_
        refine r_istore_n h [1, 2, 0] rfl (by decide) rfl dX10_plans_39 ?_
        refine r_aload_n h 0 rfl rfl dX10_plans_40 ?_
        obtain ⟨b7, h8, hw⟩ := hw
        refine r_getr h kci11 in11 (k := 20) (by decide) rfl rfl q1192 h2 h8 dX10_plans_41 ?_
        refine r_iconst h (v := 0) (by decide) dX10_plans_44 ?_
        refine r_iconst h (v := (-1)) (by decide) dX10_plans_45 ?_
        obtain ⟨h9, hw⟩ := hw
        obtain ⟨h10, hw⟩ := hw
        refine r_iast h h9 h10 dX10_plans_46 ?_
        obtain ⟨m, hw⟩ := hw
        exact L47 m _ _ _ _ hw
      · replace hw := hw.2 hc
        refine r_aload_n h 0 rfl rfl dX10_plans_12 ?_
        refine r_iload_n h 1 rfl rfl dX10_plans_13 ?_
        refine r_aload_n h 0 rfl rfl dX10_plans_14 ?_
        obtain ⟨b41, h42, hw⟩ := hw
        refine r_getr h kci11 in11 (k := 18) (by decide) rfl rfl q1190 h2 h42 dX10_plans_15 ?_
        refine r_iconst h (v := 5) (by decide) dX10_plans_18 ?_
        refine r_iload_n h 1 rfl rfl dX10_plans_19 ?_
        refine r_imul h dX10_plans_20 ?_
        refine r_iload_n h 2 rfl rfl dX10_plans_21 ?_
        refine r_iadd h dX10_plans_22 ?_
        obtain ⟨h43, hw⟩ := hw
        obtain ⟨h44, hw⟩ := hw
        refine r_iald h h43 h44 dX10_plans_23 ?_
        refine r_callV h (fun l => c_X10_takes l _ _ _ _ _ hw) q1283 q1285 q30 q64 q1286 nd_X10_takes ⟨by decide, by decide⟩ rfl rfl ⟨by decide, by decide⟩ kci11 rfl h2 rfl (by first | decide | exact nl rfl) rfl dX10_plans_24 nxk (kI fun r45 S46 hw => ?_)
        refine r_if_ne h 32 dX10_plans_27 (by decide) (fun hc => ?_) (fun hc => ?_)
        · replace hw := hw.1 hc
          refine r_iinc h (j := 2) (v := (x2 + 1)) [1, 2, 0] rfl rfl (by decide) rfl dX10_plans_32 ?_
          refine r_goto h 2 dX10_plans_35 (by decide) ?_
          exact ih _ _ _ _ hw
        · replace hw := hw.2 hc
          refine r_iconst h (v := 0) (by decide) dX10_plans_30 ?_
          exact r_zret h hq (ty := .boolean) rfl rfl ⟨_, rfl, hw⟩ (by decide) (by decide) dX10_plans_31
  unfold w_X10_plans at hw
  refine r_iconst h (v := 0) (by decide) dX10_plans_0 ?_
  refine r_istore_n h [1, 2, 0] rfl (by decide) rfl dX10_plans_1 ?_
  obtain ⟨m, hw⟩ := hw
  exact L2 m _ _ _ _ hw

def wl_X10_settles_12 (f : Int32 → St → Prop) : Nat → St → Nat → Int32 → Int32 → Prop
  | 0, _, _, _, _ => False
  | n + 1, S, a0, x1, x2 => ok S a0 11 ∧ ∃ b7 : Nat, sP S a0 17 = some b7 ∧ ok S b7 101 ∧ vp_in x1 (sN S b7) ∧ ((((sI S b7 (Int32.toNatClampNeg x1)) ≤ x2) → ∃ b11 : Nat, sP S a0 16 = some b11 ∧ ok S b11 101 ∧ vp_in x1 (sN S b11) ∧ let S15 : St := setI S b11 (Int32.toNatClampNeg x1) 112; let S16 : St := setI S15 a0 28 ((sI S15 a0 28) + 1); f 1 S16) ∧ ((¬ (sI S b7 (Int32.toNatClampNeg x1)) ≤ x2) → ∃ b17 : Nat, sP S a0 19 = some b17 ∧ ∃ b19 : Nat, sP S a0 20 = some b19 ∧ ok S b19 101 ∧ vp_in x2 (sN S b19) ∧ ok S b17 101 ∧ vp_in ((5 * x1) + x2) (sN S b17) ∧ let S25 : St := setI S b17 (Int32.toNatClampNeg ((5 * x1) + x2)) (sI S b19 (Int32.toNatClampNeg x2)); wl_X10_settles_12 f n S25 a0 x1 (x2 + 1)))
def w_X10_settles (S : St) (a0 : Nat) (x1 : Int32) (f : Int32 → St → Prop) : Prop := ok S a0 11 ∧ w_X10_plans S a0 x1 (fun (r2 : Int32) (S3 : St) => (((¬ r2 = 0) → (∃ m : Nat, wl_X10_settles_12 f m S3 a0 x1 0)) ∧ ((r2 = 0) → f 0 S3)))
set_option maxRecDepth 100000 in
set_option maxHeartbeats 4000000 in
theorem c_X10_settles (l : Launch) (S : St) (a0 : Nat) (x1 : Int32) (f : Int32 → St → Prop) (hw : w_X10_settles S a0 x1 f) : Ct l yX10_settles (Cond.code yX10_settles cX10_settles 3 (some .boolean)) { frames := 5, cells := 0, slots := 0, locals := 120 } 0 0 S [.ref a0, .int x1] (pI f) nox := by
  refine entry (by decide +kernel) rfl rfl (by first | decide | exact nl rfl) rfl ?_
  intro X h hq
  have L12 : ∀ (n : Nat) (S : St) (a0 : Nat) (x1 : Int32) (x2 : Int32), wl_X10_settles_12 f n S a0 x1 x2 → pw X 0 0 S 12 [(0, .ref a0), (1, .int x1), (2, .int x2)] [] := by
    intro n
    induction n with
    | zero => intro S a0 x1 x2 hw; exact hw.elim
    | succ n ih =>
      intro S a0 x1 x2 hw
      unfold wl_X10_settles_12 at hw
      refine r_iload_n h 2 rfl rfl dX10_settles_12 ?_
      refine r_aload_n h 0 rfl rfl dX10_settles_13 ?_
      obtain ⟨h6, hw⟩ := hw
      obtain ⟨b7, h8, hw⟩ := hw
      refine r_getr h kci11 in11 (k := 17) (by decide) rfl rfl q1189 h6 h8 dX10_settles_14 ?_
      refine r_iload_n h 1 rfl rfl dX10_settles_17 ?_
      obtain ⟨h9, hw⟩ := hw
      obtain ⟨h10, hw⟩ := hw
      refine r_iald h h9 h10 dX10_settles_18 ?_
      refine r_icmp_ge h 44 dX10_settles_19 (by decide) (fun hc => ?_) (fun hc => ?_)
      · replace hw := hw.1 hc
        refine r_aload_n h 0 rfl rfl dX10_settles_44 ?_
        obtain ⟨b11, h12, hw⟩ := hw
        refine r_getr h kci11 in11 (k := 16) (by decide) rfl rfl q1188 h6 h12 dX10_settles_45 ?_
        refine r_iload_n h 1 rfl rfl dX10_settles_48 ?_
        refine r_bipush h (v := 112) (by decide) dX10_settles_49 ?_
        obtain ⟨h13, hw⟩ := hw
        obtain ⟨h14, hw⟩ := hw
        refine r_iast h h13 h14 dX10_settles_51 ?_
        refine r_aload_n h 0 rfl rfl dX10_settles_52 ?_
        refine r_dup h rfl dX10_settles_53 ?_
        refine r_geti h kci11 in11 (k := 28) (by decide) rfl rfl q1200 h6 dX10_settles_54 ?_
        refine r_iconst h (v := 1) (by decide) dX10_settles_57 ?_
        refine r_iadd h dX10_settles_58 ?_
        refine r_puti h kci11 in11 tyX10_ok nmX10 (k := 28) (by decide) rfl rfl rfl rfl rfl rfl q1200 h6 dX10_settles_59 ?_
        refine r_iconst h (v := 1) (by decide) dX10_settles_62 ?_
        exact r_zret h hq (ty := .boolean) rfl rfl ⟨_, rfl, hw⟩ (by decide) (by decide) dX10_settles_63
      · replace hw := hw.2 hc
        refine r_aload_n h 0 rfl rfl dX10_settles_22 ?_
        obtain ⟨b17, h18, hw⟩ := hw
        refine r_getr h kci11 in11 (k := 19) (by decide) rfl rfl q1191 h6 h18 dX10_settles_23 ?_
        refine r_iconst h (v := 5) (by decide) dX10_settles_26 ?_
        refine r_iload_n h 1 rfl rfl dX10_settles_27 ?_
        refine r_imul h dX10_settles_28 ?_
        refine r_iload_n h 2 rfl rfl dX10_settles_29 ?_
        refine r_iadd h dX10_settles_30 ?_
        refine r_aload_n h 0 rfl rfl dX10_settles_31 ?_
        obtain ⟨b19, h20, hw⟩ := hw
        refine r_getr h kci11 in11 (k := 20) (by decide) rfl rfl q1192 h6 h20 dX10_settles_32 ?_
        refine r_iload_n h 2 rfl rfl dX10_settles_35 ?_
        obtain ⟨h21, hw⟩ := hw
        obtain ⟨h22, hw⟩ := hw
        refine r_iald h h21 h22 dX10_settles_36 ?_
        obtain ⟨h23, hw⟩ := hw
        obtain ⟨h24, hw⟩ := hw
        refine r_iast h h23 h24 dX10_settles_37 ?_
        refine r_iinc h (j := 2) (v := (x2 + 1)) [1, 2, 0] rfl rfl (by decide) rfl dX10_settles_38 ?_
        refine r_goto h 12 dX10_settles_41 (by decide) ?_
        exact ih _ _ _ _ hw
  unfold w_X10_settles at hw
  refine r_aload_n h 0 rfl rfl dX10_settles_0 ?_
  refine r_iload_n h 1 rfl rfl dX10_settles_1 ?_
  obtain ⟨h1, hw⟩ := hw
  refine r_callV h (fun l => c_X10_plans l _ _ _ _ hw) q1279 q1281 q29 q64 q1282 nd_X10_plans ⟨by decide, by decide⟩ rfl rfl ⟨by decide, by decide⟩ kci11 rfl h1 rfl (by first | decide | exact nl rfl) rfl dX10_settles_2 nxk (kI fun r2 S3 hw => ?_)
  refine r_if_ne h 10 dX10_settles_5 (by decide) (fun hc => ?_) (fun hc => ?_)
  · replace hw := hw.1 hc
    refine r_iconst h (v := 0) (by decide) dX10_settles_10 ?_
    refine r_istore_n h [1, 2, 0] rfl (by decide) rfl dX10_settles_11 ?_
    obtain ⟨m, hw⟩ := hw
    exact L12 m _ _ _ _ hw
  · replace hw := hw.2 hc
    refine r_iconst h (v := 0) (by decide) dX10_settles_8 ?_
    exact r_zret h hq (ty := .boolean) rfl rfl ⟨_, rfl, hw⟩ (by decide) (by decide) dX10_settles_9

def wl_X10_looks_4 (f : Int32 → St → Prop) : Nat → St → Nat → Int32 → Int32 → Prop
  | 0, _, _, _, _ => False
  | n + 1, S, a0, x1, x2 => ok S a0 11 ∧ ((((sI S a0 27) ≤ x2) → f x1 S) ∧ ((¬ (sI S a0 27) ≤ x2) → ∃ b3 : Nat, sP S a0 16 = some b3 ∧ ok S b3 101 ∧ vp_in x2 (sN S b3) ∧ (((¬ (sI S b3 (Int32.toNatClampNeg x2)) = 119) → wl_X10_looks_4 f n S a0 (x1 + 0) (x2 + 1)) ∧ (((sI S b3 (Int32.toNatClampNeg x2)) = 119) → w_X10_settles S a0 x2 (fun (r7 : Int32) (S8 : St) => (((r7 = 0) → wl_X10_looks_4 f n S8 a0 (x1 + 0) (x2 + 1)) ∧ ((¬ r7 = 0) → wl_X10_looks_4 f n S8 a0 (x1 + 1) (x2 + 1))))))))
def w_X10_looks (S : St) (a0 : Nat) (f : Int32 → St → Prop) : Prop := (∃ m : Nat, wl_X10_looks_4 f m S a0 0 0)
set_option maxRecDepth 100000 in
set_option maxHeartbeats 4000000 in
theorem c_X10_looks (l : Launch) (S : St) (a0 : Nat) (f : Int32 → St → Prop) (hw : w_X10_looks S a0 f) : Ct l yX10_looks (Cond.code yX10_looks cX10_looks 3 (some .int)) { frames := 6, cells := 0, slots := 0, locals := 142 } 0 0 S [.ref a0] (pI f) nox := by
  refine entry (by decide +kernel) rfl rfl (by first | decide | exact nl rfl) rfl ?_
  intro X h hq
  have L4 : ∀ (n : Nat) (S : St) (a0 : Nat) (x1 : Int32) (x2 : Int32), wl_X10_looks_4 f n S a0 x1 x2 → pw X 0 0 S 4 [(0, .ref a0), (1, .int x1), (2, .int x2)] [] := by
    intro n
    induction n with
    | zero => intro S a0 x1 x2 hw; exact hw.elim
    | succ n ih =>
      intro S a0 x1 x2 hw
      unfold wl_X10_looks_4 at hw
      refine r_iload_n h 2 rfl rfl dX10_looks_4 ?_
      refine r_aload_n h 0 rfl rfl dX10_looks_5 ?_
      obtain ⟨h2, hw⟩ := hw
      refine r_geti h kci11 in11 (k := 27) (by decide) rfl rfl q1199 h2 dX10_looks_6 ?_
      refine r_icmp_ge h 45 dX10_looks_9 (by decide) (fun hc => ?_) (fun hc => ?_)
      · replace hw := hw.1 hc
        refine r_iload_n h 1 rfl rfl dX10_looks_45 ?_
        exact r_iret h hq rfl ⟨_, rfl, hw⟩ (by decide) (by decide) dX10_looks_46
      · replace hw := hw.2 hc
        refine r_iload_n h 1 rfl rfl dX10_looks_12 ?_
        refine r_aload_n h 0 rfl rfl dX10_looks_13 ?_
        obtain ⟨b3, h4, hw⟩ := hw
        refine r_getr h kci11 in11 (k := 16) (by decide) rfl rfl q1188 h2 h4 dX10_looks_14 ?_
        refine r_iload_n h 2 rfl rfl dX10_looks_17 ?_
        obtain ⟨h5, hw⟩ := hw
        obtain ⟨h6, hw⟩ := hw
        refine r_iald h h5 h6 dX10_looks_18 ?_
        refine r_bipush h (v := 119) (by decide) dX10_looks_19 ?_
        refine r_icmp_ne h 36 dX10_looks_21 (by decide) (fun hc => ?_) (fun hc => ?_)
        · replace hw := hw.1 hc
          refine r_iconst h (v := 0) (by decide) dX10_looks_36 ?_
          refine r_iadd h dX10_looks_37 ?_
          refine r_istore_n h [1, 0, 2] rfl (by decide) rfl dX10_looks_38 ?_
          refine r_iinc h (j := 2) (v := (x2 + 1)) [1, 2, 0] rfl rfl (by decide) rfl dX10_looks_39 ?_
          refine r_goto h 4 dX10_looks_42 (by decide) ?_
          exact ih _ _ _ _ hw
        · replace hw := hw.2 hc
          refine r_aload_n h 0 rfl rfl dX10_looks_24 ?_
          refine r_iload_n h 2 rfl rfl dX10_looks_25 ?_
          refine r_callV h (fun l => c_X10_settles l _ _ _ _ hw) q1275 q1277 q28 q64 q1278 nd_X10_settles ⟨by decide, by decide⟩ rfl rfl ⟨by decide, by decide⟩ kci11 rfl h2 rfl (by first | decide | exact nl rfl) rfl dX10_looks_26 nxk (kI fun r7 S8 hw => ?_)
          refine r_if_eq h 36 dX10_looks_29 (by decide) (fun hc => ?_) (fun hc => ?_)
          · replace hw := hw.1 hc
            refine r_iconst h (v := 0) (by decide) dX10_looks_36 ?_
            refine r_iadd h dX10_looks_37 ?_
            refine r_istore_n h [1, 0, 2] rfl (by decide) rfl dX10_looks_38 ?_
            refine r_iinc h (j := 2) (v := (x2 + 1)) [1, 2, 0] rfl rfl (by decide) rfl dX10_looks_39 ?_
            refine r_goto h 4 dX10_looks_42 (by decide) ?_
            exact ih _ _ _ _ hw
          · replace hw := hw.2 hc
            refine r_iconst h (v := 1) (by decide) dX10_looks_32 ?_
            refine r_goto h 37 dX10_looks_33 (by decide) ?_
            refine r_iadd h dX10_looks_37 ?_
            refine r_istore_n h [1, 0, 2] rfl (by decide) rfl dX10_looks_38 ?_
            refine r_iinc h (j := 2) (v := (x2 + 1)) [1, 2, 0] rfl rfl (by decide) rfl dX10_looks_39 ?_
            refine r_goto h 4 dX10_looks_42 (by decide) ?_
            exact ih _ _ _ _ hw
  unfold w_X10_looks at hw
  refine r_iconst h (v := 0) (by decide) dX10_looks_0 ?_
  refine r_istore_n h [1, 0] rfl (by decide) rfl dX10_looks_1 ?_
  refine r_iconst h (v := 0) (by decide) dX10_looks_2 ?_
  refine r_istore_n h [1, 2, 0] rfl (by decide) rfl dX10_looks_3 ?_
  obtain ⟨m, hw⟩ := hw
  exact L4 m _ _ _ _ hw

def wj_X10_addRoom_61 (f : Int32 → St → Prop) (S : St) (a0 : Nat) (x1 : Int32) (x2 : Int32) (x3 : Int32) (x4 : Int32) (t0 : Int32) (t1 : Nat) : Prop := ok S t1 11 ∧ let S7 : St := setI S t1 23 t0; ok S7 a0 11 ∧ ((((sI S7 a0 23) ≤ 0) → ∃ b11 : Nat, sP S7 a0 0 = some b11 ∧ ok S7 b11 101 ∧ vp_in (sI S7 a0 24) (sN S7 b11) ∧ let S15 : St := setI S7 b11 (Int32.toNatClampNeg (sI S7 a0 24)) x1; ∃ b18 : Nat, sP S15 a0 1 = some b18 ∧ ok S15 b18 101 ∧ vp_in (sI S15 a0 24) (sN S15 b18) ∧ let S22 : St := setI S15 b18 (Int32.toNatClampNeg (sI S15 a0 24)) x2; ∃ b25 : Nat, sP S22 a0 2 = some b25 ∧ ok S22 b25 101 ∧ vp_in (2 * (sI S22 a0 24)) (sN S22 b25) ∧ let S29 : St := setI S22 b25 (Int32.toNatClampNeg (2 * (sI S22 a0 24))) x3; ∃ b32 : Nat, sP S29 a0 2 = some b32 ∧ ok S29 b32 101 ∧ vp_in ((2 * (sI S29 a0 24)) + 1) (sN S29 b32) ∧ let S36 : St := setI S29 b32 (Int32.toNatClampNeg ((2 * (sI S29 a0 24)) + 1)) x4; let S39 : St := setI S36 a0 24 ((sI S36 a0 24) + 1); w_X10_looks S39 a0 (fun (r42 : Int32) (S43 : St) => ok S43 a0 11 ∧ f ((sI S43 a0 24) - 1) S43)) ∧ ((¬ (sI S7 a0 23) ≤ 0) → f 0 S7))
def wj_X10_addRoom_44 (f : Int32 → St → Prop) (S : St) (a0 : Nat) (x1 : Int32) (x2 : Int32) (x3 : Int32) (x4 : Int32) (t0 : Nat) : Prop := wj_X10_addRoom_61 f S a0 x1 x2 x3 x4 1 t0
def w_X10_addRoom (S : St) (a0 : Nat) (x1 : Int32) (x2 : Int32) (x3 : Int32) (x4 : Int32) (f : Int32 → St → Prop) : Prop := w_X10_in S x1 0 100 (fun (r1 : Int32) (S2 : St) => (((r1 = 0) → wj_X10_addRoom_44 f S2 a0 x1 x2 x3 x4 a0) ∧ ((¬ r1 = 0) → w_X10_in S2 x2 0 100 (fun (r46 : Int32) (S47 : St) => (((r46 = 0) → wj_X10_addRoom_44 f S47 a0 x1 x2 x3 x4 a0) ∧ ((¬ r46 = 0) → w_X10_in S47 x3 1 400 (fun (r49 : Int32) (S50 : St) => (((r49 = 0) → wj_X10_addRoom_44 f S50 a0 x1 x2 x3 x4 a0) ∧ ((¬ r49 = 0) → w_X10_in S50 x4 1 400 (fun (r52 : Int32) (S53 : St) => (((¬ r52 = 0) → ok S53 a0 11 ∧ (((¬ (sI S53 a0 24) = 4) → wj_X10_addRoom_61 f S53 a0 x1 x2 x3 x4 0 a0) ∧ (((sI S53 a0 24) = 4) → wj_X10_addRoom_61 f S53 a0 x1 x2 x3 x4 2 a0))) ∧ ((r52 = 0) → wj_X10_addRoom_44 f S53 a0 x1 x2 x3 x4 a0))))))))))))
set_option maxRecDepth 100000 in
set_option maxHeartbeats 4000000 in
theorem c_X10_addRoom (l : Launch) (S : St) (a0 : Nat) (x1 : Int32) (x2 : Int32) (x3 : Int32) (x4 : Int32) (f : Int32 → St → Prop) (hw : w_X10_addRoom S a0 x1 x2 x3 x4 f) : Ct l yX10_addRoom (Cond.code yX10_addRoom cX10_addRoom 6 (some .int)) { frames := 7, cells := 0, slots := 0, locals := 164 } 0 0 S [.ref a0, .int x1, .int x2, .int x3, .int x4] (pI f) nox := by
  refine entry (by decide +kernel) rfl rfl (by first | decide | exact nl rfl) rfl ?_
  intro X h hq
  have L61 : ∀ (S : St) (a0 : Nat) (x1 : Int32) (x2 : Int32) (x3 : Int32) (x4 : Int32) (t0 : Int32) (t1 : Nat), wj_X10_addRoom_61 f S a0 x1 x2 x3 x4 t0 t1 → pw X 0 0 S 61 [(0, .ref a0), (1, .int x1), (2, .int x2), (3, .int x3), (4, .int x4)] [.int t0, .ref t1] := by
    intro S a0 x1 x2 x3 x4 t0 t1 hw
    unfold wj_X10_addRoom_61 at hw
    obtain ⟨h6, hw⟩ := hw
    refine r_puti h kci11 in11 tyX10_ok nmX10 (k := 23) (by decide) rfl rfl rfl rfl rfl rfl q1195 h6 dX10_addRoom_61 ?_
    refine r_aload_n h 0 rfl rfl dX10_addRoom_64 ?_
    obtain ⟨h10, hw⟩ := hw
    refine r_geti h kci11 in11 (k := 23) (by decide) rfl rfl q1195 h10 dX10_addRoom_65 ?_
    refine r_if_le h 73 dX10_addRoom_68 (by decide) (fun hc => ?_) (fun hc => ?_)
    · replace hw := hw.1 hc
      refine r_aload_n h 0 rfl rfl dX10_addRoom_73 ?_
      obtain ⟨b11, h12, hw⟩ := hw
      refine r_getr h kci11 in11 (k := 0) (by decide) rfl rfl q1172 h10 h12 dX10_addRoom_74 ?_
      refine r_aload_n h 0 rfl rfl dX10_addRoom_77 ?_
      refine r_geti h kci11 in11 (k := 24) (by decide) rfl rfl q1196 h10 dX10_addRoom_78 ?_
      refine r_iload_n h 1 rfl rfl dX10_addRoom_81 ?_
      obtain ⟨h13, hw⟩ := hw
      obtain ⟨h14, hw⟩ := hw
      refine r_iast h h13 h14 dX10_addRoom_82 ?_
      refine r_aload_n h 0 rfl rfl dX10_addRoom_83 ?_
      obtain ⟨b18, h19, hw⟩ := hw
      refine r_getr h kci11 in11 (k := 1) (by decide) rfl rfl q1173 (ok_setI h10) h19 dX10_addRoom_84 ?_
      refine r_aload_n h 0 rfl rfl dX10_addRoom_87 ?_
      refine r_geti h kci11 in11 (k := 24) (by decide) rfl rfl q1196 (ok_setI h10) dX10_addRoom_88 ?_
      refine r_iload_n h 2 rfl rfl dX10_addRoom_91 ?_
      obtain ⟨h20, hw⟩ := hw
      obtain ⟨h21, hw⟩ := hw
      refine r_iast h h20 h21 dX10_addRoom_92 ?_
      refine r_aload_n h 0 rfl rfl dX10_addRoom_93 ?_
      obtain ⟨b25, h26, hw⟩ := hw
      refine r_getr h kci11 in11 (k := 2) (by decide) rfl rfl q1174 (ok_setI (ok_setI h10)) h26 dX10_addRoom_94 ?_
      refine r_iconst h (v := 2) (by decide) dX10_addRoom_97 ?_
      refine r_aload_n h 0 rfl rfl dX10_addRoom_98 ?_
      refine r_geti h kci11 in11 (k := 24) (by decide) rfl rfl q1196 (ok_setI (ok_setI h10)) dX10_addRoom_99 ?_
      refine r_imul h dX10_addRoom_102 ?_
      refine r_iload_n h 3 rfl rfl dX10_addRoom_103 ?_
      obtain ⟨h27, hw⟩ := hw
      obtain ⟨h28, hw⟩ := hw
      refine r_iast h h27 h28 dX10_addRoom_104 ?_
      refine r_aload_n h 0 rfl rfl dX10_addRoom_105 ?_
      obtain ⟨b32, h33, hw⟩ := hw
      refine r_getr h kci11 in11 (k := 2) (by decide) rfl rfl q1174 (ok_setI (ok_setI (ok_setI h10))) h33 dX10_addRoom_106 ?_
      refine r_iconst h (v := 2) (by decide) dX10_addRoom_109 ?_
      refine r_aload_n h 0 rfl rfl dX10_addRoom_110 ?_
      refine r_geti h kci11 in11 (k := 24) (by decide) rfl rfl q1196 (ok_setI (ok_setI (ok_setI h10))) dX10_addRoom_111 ?_
      refine r_imul h dX10_addRoom_114 ?_
      refine r_iconst h (v := 1) (by decide) dX10_addRoom_115 ?_
      refine r_iadd h dX10_addRoom_116 ?_
      refine r_iload h 4 rfl dX10_addRoom_117 ?_
      obtain ⟨h34, hw⟩ := hw
      obtain ⟨h35, hw⟩ := hw
      refine r_iast h h34 h35 dX10_addRoom_119 ?_
      refine r_aload_n h 0 rfl rfl dX10_addRoom_120 ?_
      refine r_dup h rfl dX10_addRoom_121 ?_
      refine r_geti h kci11 in11 (k := 24) (by decide) rfl rfl q1196 (ok_setI (ok_setI (ok_setI (ok_setI h10)))) dX10_addRoom_122 ?_
      refine r_iconst h (v := 1) (by decide) dX10_addRoom_125 ?_
      refine r_iadd h dX10_addRoom_126 ?_
      refine r_puti h kci11 in11 tyX10_ok nmX10 (k := 24) (by decide) rfl rfl rfl rfl rfl rfl q1196 (ok_setI (ok_setI (ok_setI (ok_setI h10)))) dX10_addRoom_127 ?_
      refine r_aload_n h 0 rfl rfl dX10_addRoom_130 ?_
      refine r_callV h (fun l => c_X10_looks l _ _ _ hw) q1271 q1273 q27 q64 q1274 nd_X10_looks ⟨by decide, by decide⟩ rfl rfl ⟨by decide, by decide⟩ kci11 rfl (ok_setI (ok_setI (ok_setI (ok_setI (ok_setI h10))))) rfl (by first | decide | exact nl rfl) rfl dX10_addRoom_131 nxk (kI fun r42 S43 hw => ?_)
      refine r_istore h [1] (by decide) rfl dX10_addRoom_134 ?_
      refine r_aload_n h 0 rfl rfl dX10_addRoom_136 ?_
      obtain ⟨h45, hw⟩ := hw
      refine r_geti h kci11 in11 (k := 24) (by decide) rfl rfl q1196 h45 dX10_addRoom_137 ?_
      refine r_iconst h (v := 1) (by decide) dX10_addRoom_140 ?_
      refine r_isub h dX10_addRoom_141 ?_
      exact r_iret h hq rfl ⟨_, rfl, hw⟩ (by decide) (by decide) dX10_addRoom_142
    · replace hw := hw.2 hc
      refine r_iconst h (v := 0) (by decide) dX10_addRoom_71 ?_
      exact r_iret h hq rfl ⟨_, rfl, hw⟩ (by decide) (by decide) dX10_addRoom_72
  have L44 : ∀ (S : St) (a0 : Nat) (x1 : Int32) (x2 : Int32) (x3 : Int32) (x4 : Int32) (t0 : Nat), wj_X10_addRoom_44 f S a0 x1 x2 x3 x4 t0 → pw X 0 0 S 44 [(0, .ref a0), (1, .int x1), (2, .int x2), (3, .int x3), (4, .int x4)] [.ref t0] := by
    intro S a0 x1 x2 x3 x4 t0 hw
    unfold wj_X10_addRoom_44 at hw
    refine r_iconst h (v := 1) (by decide) dX10_addRoom_44 ?_
    refine r_goto h 61 dX10_addRoom_45 (by decide) ?_
    exact L61 _ _ _ _ _ _ _ _ hw
  unfold w_X10_addRoom at hw
  refine r_aload_n h 0 rfl rfl dX10_addRoom_0 ?_
  refine r_iload_n h 1 rfl rfl dX10_addRoom_1 ?_
  refine r_iconst h (v := 0) (by decide) dX10_addRoom_2 ?_
  refine r_bipush h (v := 100) (by decide) dX10_addRoom_3 ?_
  refine r_callS h (fun l => c_X10_in l _ _ _ _ _ hw) q1268 q1269 q64 q1270 nd_X10_in ⟨by decide, by decide⟩ rfl rfl ⟨by decide, by decide⟩ (as := [.int x1, .int 0, .int 100]) rfl (by first | decide | exact nl rfl) rfl dX10_addRoom_5 nxk (kI fun r1 S2 hw => ?_)
  refine r_if_eq h 44 dX10_addRoom_8 (by decide) (fun hc => ?_) (fun hc => ?_)
  · replace hw := hw.1 hc
    exact L44 _ _ _ _ _ _ _ hw
  · replace hw := hw.2 hc
    refine r_iload_n h 2 rfl rfl dX10_addRoom_11 ?_
    refine r_iconst h (v := 0) (by decide) dX10_addRoom_12 ?_
    refine r_bipush h (v := 100) (by decide) dX10_addRoom_13 ?_
    refine r_callS h (fun l => c_X10_in l _ _ _ _ _ hw) q1268 q1269 q64 q1270 nd_X10_in ⟨by decide, by decide⟩ rfl rfl ⟨by decide, by decide⟩ (as := [.int x2, .int 0, .int 100]) rfl (by first | decide | exact nl rfl) rfl dX10_addRoom_15 nxk (kI fun r46 S47 hw => ?_)
    refine r_if_eq h 44 dX10_addRoom_18 (by decide) (fun hc => ?_) (fun hc => ?_)
    · replace hw := hw.1 hc
      exact L44 _ _ _ _ _ _ _ hw
    · replace hw := hw.2 hc
      refine r_iload_n h 3 rfl rfl dX10_addRoom_21 ?_
      refine r_iconst h (v := 1) (by decide) dX10_addRoom_22 ?_
      refine r_sipush h (v := 400) (by decide) dX10_addRoom_23 ?_
      refine r_callS h (fun l => c_X10_in l _ _ _ _ _ hw) q1268 q1269 q64 q1270 nd_X10_in ⟨by decide, by decide⟩ rfl rfl ⟨by decide, by decide⟩ (as := [.int x3, .int 1, .int 400]) rfl (by first | decide | exact nl rfl) rfl dX10_addRoom_26 nxk (kI fun r49 S50 hw => ?_)
      refine r_if_eq h 44 dX10_addRoom_29 (by decide) (fun hc => ?_) (fun hc => ?_)
      · replace hw := hw.1 hc
        exact L44 _ _ _ _ _ _ _ hw
      · replace hw := hw.2 hc
        refine r_iload h 4 rfl dX10_addRoom_32 ?_
        refine r_iconst h (v := 1) (by decide) dX10_addRoom_34 ?_
        refine r_sipush h (v := 400) (by decide) dX10_addRoom_35 ?_
        refine r_callS h (fun l => c_X10_in l _ _ _ _ _ hw) q1268 q1269 q64 q1270 nd_X10_in ⟨by decide, by decide⟩ rfl rfl ⟨by decide, by decide⟩ (as := [.int x4, .int 1, .int 400]) rfl (by first | decide | exact nl rfl) rfl dX10_addRoom_38 nxk (kI fun r52 S53 hw => ?_)
        refine r_if_ne h 48 dX10_addRoom_41 (by decide) (fun hc => ?_) (fun hc => ?_)
        · replace hw := hw.1 hc
          refine r_aload_n h 0 rfl rfl dX10_addRoom_48 ?_
          obtain ⟨h55, hw⟩ := hw
          refine r_geti h kci11 in11 (k := 24) (by decide) rfl rfl q1196 h55 dX10_addRoom_49 ?_
          refine r_iconst h (v := 4) (by decide) dX10_addRoom_52 ?_
          refine r_icmp_ne h 60 dX10_addRoom_53 (by decide) (fun hc => ?_) (fun hc => ?_)
          · replace hw := hw.1 hc
            refine r_iconst h (v := 0) (by decide) dX10_addRoom_60 ?_
            exact L61 _ _ _ _ _ _ _ _ hw
          · replace hw := hw.2 hc
            refine r_iconst h (v := 2) (by decide) dX10_addRoom_56 ?_
            refine r_goto h 61 dX10_addRoom_57 (by decide) ?_
            exact L61 _ _ _ _ _ _ _ _ hw
        · replace hw := hw.2 hc
          exact L44 _ _ _ _ _ _ _ hw

def wl_X10_isSpoiled_2 (f : Int32 → St → Prop) : Nat → St → Nat → Int32 → Int32 → Prop
  | 0, _, _, _, _ => False
  | n + 1, S, a0, x1, x2 => ok S a0 11 ∧ ∃ b3 : Nat, sP S a0 17 = some b3 ∧ ok S b3 101 ∧ vp_in x1 (sN S b3) ∧ ((((sI S b3 (Int32.toNatClampNeg x1)) ≤ x2) → f 0 S) ∧ ((¬ (sI S b3 (Int32.toNatClampNeg x1)) ≤ x2) → ∃ b7 : Nat, sP S a0 18 = some b7 ∧ ok S b7 101 ∧ vp_in ((5 * x1) + x2) (sN S b7) ∧ ∃ b11 : Nat, sP S a0 19 = some b11 ∧ ok S b11 101 ∧ vp_in ((5 * x1) + x2) (sN S b11) ∧ w_X10_hangsWhere S a0 (sI S b7 (Int32.toNatClampNeg ((5 * x1) + x2))) ((sI S b11 (Int32.toNatClampNeg ((5 * x1) + x2))) / 2) (fun (r15 : Int32) (S16 : St) => (((¬ r15 = 0) → wl_X10_isSpoiled_2 f n S16 a0 x1 (x2 + 1)) ∧ ((r15 = 0) → f 1 S16)))))
def w_X10_isSpoiled (S : St) (a0 : Nat) (x1 : Int32) (f : Int32 → St → Prop) : Prop := (∃ m : Nat, wl_X10_isSpoiled_2 f m S a0 x1 0)
set_option maxRecDepth 100000 in
set_option maxHeartbeats 4000000 in
theorem c_X10_isSpoiled (l : Launch) (S : St) (a0 : Nat) (x1 : Int32) (f : Int32 → St → Prop) (hw : w_X10_isSpoiled S a0 x1 f) : Ct l yX10_isSpoiled (Cond.code yX10_isSpoiled cX10_isSpoiled 3 (some .boolean)) { frames := 2, cells := 0, slots := 0, locals := 44 } 0 0 S [.ref a0, .int x1] (pI f) nox := by
  refine entry (by decide +kernel) rfl rfl (by first | decide | exact nl rfl) rfl ?_
  intro X h hq
  have L2 : ∀ (n : Nat) (S : St) (a0 : Nat) (x1 : Int32) (x2 : Int32), wl_X10_isSpoiled_2 f n S a0 x1 x2 → pw X 0 0 S 2 [(0, .ref a0), (1, .int x1), (2, .int x2)] [] := by
    intro n
    induction n with
    | zero => intro S a0 x1 x2 hw; exact hw.elim
    | succ n ih =>
      intro S a0 x1 x2 hw
      unfold wl_X10_isSpoiled_2 at hw
      refine r_iload_n h 2 rfl rfl dX10_isSpoiled_2 ?_
      refine r_aload_n h 0 rfl rfl dX10_isSpoiled_3 ?_
      obtain ⟨h2, hw⟩ := hw
      obtain ⟨b3, h4, hw⟩ := hw
      refine r_getr h kci11 in11 (k := 17) (by decide) rfl rfl q1189 h2 h4 dX10_isSpoiled_4 ?_
      refine r_iload_n h 1 rfl rfl dX10_isSpoiled_7 ?_
      obtain ⟨h5, hw⟩ := hw
      obtain ⟨h6, hw⟩ := hw
      refine r_iald h h5 h6 dX10_isSpoiled_8 ?_
      refine r_icmp_ge h 49 dX10_isSpoiled_9 (by decide) (fun hc => ?_) (fun hc => ?_)
      · replace hw := hw.1 hc
        refine r_iconst h (v := 0) (by decide) dX10_isSpoiled_49 ?_
        exact r_zret h hq (ty := .boolean) rfl rfl ⟨_, rfl, hw⟩ (by decide) (by decide) dX10_isSpoiled_50
      · replace hw := hw.2 hc
        refine r_aload_n h 0 rfl rfl dX10_isSpoiled_12 ?_
        refine r_aload_n h 0 rfl rfl dX10_isSpoiled_13 ?_
        obtain ⟨b7, h8, hw⟩ := hw
        refine r_getr h kci11 in11 (k := 18) (by decide) rfl rfl q1190 h2 h8 dX10_isSpoiled_14 ?_
        refine r_iconst h (v := 5) (by decide) dX10_isSpoiled_17 ?_
        refine r_iload_n h 1 rfl rfl dX10_isSpoiled_18 ?_
        refine r_imul h dX10_isSpoiled_19 ?_
        refine r_iload_n h 2 rfl rfl dX10_isSpoiled_20 ?_
        refine r_iadd h dX10_isSpoiled_21 ?_
        obtain ⟨h9, hw⟩ := hw
        obtain ⟨h10, hw⟩ := hw
        refine r_iald h h9 h10 dX10_isSpoiled_22 ?_
        refine r_aload_n h 0 rfl rfl dX10_isSpoiled_23 ?_
        obtain ⟨b11, h12, hw⟩ := hw
        refine r_getr h kci11 in11 (k := 19) (by decide) rfl rfl q1191 h2 h12 dX10_isSpoiled_24 ?_
        refine r_iconst h (v := 5) (by decide) dX10_isSpoiled_27 ?_
        refine r_iload_n h 1 rfl rfl dX10_isSpoiled_28 ?_
        refine r_imul h dX10_isSpoiled_29 ?_
        refine r_iload_n h 2 rfl rfl dX10_isSpoiled_30 ?_
        refine r_iadd h dX10_isSpoiled_31 ?_
        obtain ⟨h13, hw⟩ := hw
        obtain ⟨h14, hw⟩ := hw
        refine r_iald h h13 h14 dX10_isSpoiled_32 ?_
        refine r_iconst h (v := 2) (by decide) dX10_isSpoiled_33 ?_
        refine r_idiv h (by decide) dX10_isSpoiled_34 ?_
        refine r_callV h (fun l => c_X10_hangsWhere l _ _ _ _ _ hw) q1303 q1305 q35 q64 q1306 nd_X10_hangsWhere ⟨by decide, by decide⟩ rfl rfl ⟨by decide, by decide⟩ kci11 rfl h2 rfl (by first | decide | exact nl rfl) rfl dX10_isSpoiled_35 nxk (kI fun r15 S16 hw => ?_)
        refine r_if_ne h 43 dX10_isSpoiled_38 (by decide) (fun hc => ?_) (fun hc => ?_)
        · replace hw := hw.1 hc
          refine r_iinc h (j := 2) (v := (x2 + 1)) [1, 2, 0] rfl rfl (by decide) rfl dX10_isSpoiled_43 ?_
          refine r_goto h 2 dX10_isSpoiled_46 (by decide) ?_
          exact ih _ _ _ _ hw
        · replace hw := hw.2 hc
          refine r_iconst h (v := 1) (by decide) dX10_isSpoiled_41 ?_
          exact r_zret h hq (ty := .boolean) rfl rfl ⟨_, rfl, hw⟩ (by decide) (by decide) dX10_isSpoiled_42
  unfold w_X10_isSpoiled at hw
  refine r_iconst h (v := 0) (by decide) dX10_isSpoiled_0 ?_
  refine r_istore_n h [1, 2, 0] rfl (by decide) rfl dX10_isSpoiled_1 ?_
  obtain ⟨m, hw⟩ := hw
  exact L2 m _ _ _ _ hw

def wl_X10_setClimate_70 (f : Int32 → St → Prop) : Nat → St → Nat → Int32 → Int32 → Prop
  | 0, _, _, _, _ => False
  | n + 1, S, a0, x4, x5 => ok S a0 11 ∧ ((((sI S a0 27) ≤ x5) → w_X10_looks S a0 (fun (r25 : Int32) (S26 : St) => f x4 S26)) ∧ ((¬ (sI S a0 27) ≤ x5) → ∃ b28 : Nat, sP S a0 16 = some b28 ∧ ok S b28 101 ∧ vp_in x5 (sN S b28) ∧ (((¬ (sI S b28 (Int32.toNatClampNeg x5)) = 112) → wl_X10_setClimate_70 f n S a0 x4 (x5 + 1)) ∧ (((sI S b28 (Int32.toNatClampNeg x5)) = 112) → w_X10_isSpoiled S a0 x5 (fun (r32 : Int32) (S33 : St) => (((¬ r32 = 0) → ok S33 a0 11 ∧ ∃ b36 : Nat, sP S33 a0 16 = some b36 ∧ ok S33 b36 101 ∧ vp_in x5 (sN S33 b36) ∧ let S40 : St := setI S33 b36 (Int32.toNatClampNeg x5) 119; wl_X10_setClimate_70 f n S40 a0 (x4 + 1) (x5 + 1)) ∧ ((r32 = 0) → wl_X10_setClimate_70 f n S33 a0 x4 (x5 + 1))))))))
def wj_X10_setClimate_38 (f : Int32 → St → Prop) (S : St) (a0 : Nat) (x1 : Int32) (x2 : Int32) (x3 : Int32) (t0 : Int32) (t1 : Nat) : Prop := ok S t1 11 ∧ let S11 : St := setI S t1 23 t0; ok S11 a0 11 ∧ ((((sI S11 a0 23) ≤ 0) → ∃ b13 : Nat, sP S11 a0 0 = some b13 ∧ ok S11 b13 101 ∧ vp_in x1 (sN S11 b13) ∧ let S17 : St := setI S11 b13 (Int32.toNatClampNeg x1) x2; ∃ b18 : Nat, sP S17 a0 1 = some b18 ∧ ok S17 b18 101 ∧ vp_in x1 (sN S17 b18) ∧ let S22 : St := setI S17 b18 (Int32.toNatClampNeg x1) x3; (∃ m : Nat, wl_X10_setClimate_70 f m S22 a0 0 0)) ∧ ((¬ (sI S11 a0 23) ≤ 0) → f 0 S11))
def wj_X10_setClimate_33 (f : Int32 → St → Prop) (S : St) (a0 : Nat) (x1 : Int32) (x2 : Int32) (x3 : Int32) (t0 : Nat) : Prop := wj_X10_setClimate_38 f S a0 x1 x2 x3 2 t0
def w_X10_setClimate (S : St) (a0 : Nat) (x1 : Int32) (x2 : Int32) (x3 : Int32) (f : Int32 → St → Prop) : Prop := ok S a0 11 ∧ w_X10_isRoom S a0 x1 (fun (r2 : Int32) (S3 : St) => (((¬ r2 = 0) → w_X10_in S3 x2 0 100 (fun (r5 : Int32) (S6 : St) => (((r5 = 0) → wj_X10_setClimate_33 f S6 a0 x1 x2 x3 a0) ∧ ((¬ r5 = 0) → w_X10_in S6 x3 0 100 (fun (r41 : Int32) (S42 : St) => (((¬ r41 = 0) → wj_X10_setClimate_38 f S42 a0 x1 x2 x3 0 a0) ∧ ((r41 = 0) → wj_X10_setClimate_33 f S42 a0 x1 x2 x3 a0))))))) ∧ ((r2 = 0) → wj_X10_setClimate_38 f S3 a0 x1 x2 x3 1 a0)))
set_option maxRecDepth 100000 in
set_option maxHeartbeats 4000000 in
theorem c_X10_setClimate (l : Launch) (S : St) (a0 : Nat) (x1 : Int32) (x2 : Int32) (x3 : Int32) (f : Int32 → St → Prop) (hw : w_X10_setClimate S a0 x1 x2 x3 f) : Ct l yX10_setClimate (Cond.code yX10_setClimate cX10_setClimate 6 (some .int)) { frames := 7, cells := 0, slots := 0, locals := 164 } 0 0 S [.ref a0, .int x1, .int x2, .int x3] (pI f) nox := by
  refine entry (by decide +kernel) rfl rfl (by first | decide | exact nl rfl) rfl ?_
  intro X h hq
  have L70 : ∀ (n : Nat) (S : St) (a0 : Nat) (x4 : Int32) (x5 : Int32), wl_X10_setClimate_70 f n S a0 x4 x5 → pw X 0 0 S 70 [(0, .ref a0), (4, .int x4), (5, .int x5)] [] := by
    intro n
    induction n with
    | zero => intro S a0 x4 x5 hw; exact hw.elim
    | succ n ih =>
      intro S a0 x4 x5 hw
      unfold wl_X10_setClimate_70 at hw
      refine r_iload h 2 rfl dX10_setClimate_70 ?_
      refine r_aload_n h 0 rfl rfl dX10_setClimate_72 ?_
      obtain ⟨h24, hw⟩ := hw
      refine r_geti h kci11 in11 (k := 27) (by decide) rfl rfl q1199 h24 dX10_setClimate_73 ?_
      refine r_icmp_ge h 121 dX10_setClimate_76 (by decide) (fun hc => ?_) (fun hc => ?_)
      · replace hw := hw.1 hc
        refine r_aload_n h 0 rfl rfl dX10_setClimate_121 ?_
        refine r_callV h (fun l => c_X10_looks l _ _ _ hw) q1271 q1273 q27 q64 q1274 nd_X10_looks ⟨by decide, by decide⟩ rfl rfl ⟨by decide, by decide⟩ kci11 rfl h24 rfl (by first | decide | exact nl rfl) rfl dX10_setClimate_122 nxk (kI fun r25 S26 hw => ?_)
        refine r_istore h [2] (by decide) rfl dX10_setClimate_125 ?_
        refine r_iload h 0 rfl dX10_setClimate_127 ?_
        exact r_iret h hq rfl ⟨_, rfl, hw⟩ (by decide) (by decide) dX10_setClimate_129
      · replace hw := hw.2 hc
        refine r_aload_n h 0 rfl rfl dX10_setClimate_79 ?_
        obtain ⟨b28, h29, hw⟩ := hw
        refine r_getr h kci11 in11 (k := 16) (by decide) rfl rfl q1188 h24 h29 dX10_setClimate_80 ?_
        refine r_iload h 2 rfl dX10_setClimate_83 ?_
        obtain ⟨h30, hw⟩ := hw
        obtain ⟨h31, hw⟩ := hw
        refine r_iald h h30 h31 dX10_setClimate_85 ?_
        refine r_bipush h (v := 112) (by decide) dX10_setClimate_86 ?_
        refine r_icmp_ne h 115 dX10_setClimate_88 (by decide) (fun hc => ?_) (fun hc => ?_)
        · replace hw := hw.1 hc
          refine r_iinc h (j := 2) (v := (x5 + 1)) [1, 2, 0] rfl rfl (by decide) rfl dX10_setClimate_115 ?_
          refine r_goto h 70 dX10_setClimate_118 (by decide) ?_
          exact ih _ _ _ _ hw
        · replace hw := hw.2 hc
          refine r_aload_n h 0 rfl rfl dX10_setClimate_91 ?_
          refine r_iload h 2 rfl dX10_setClimate_92 ?_
          refine r_callV h (fun l => c_X10_isSpoiled l _ _ _ _ hw) q1334 q1336 q41 q64 q1337 nd_X10_isSpoiled ⟨by decide, by decide⟩ rfl rfl ⟨by decide, by decide⟩ kci11 rfl h24 rfl (by first | decide | exact nl rfl) rfl dX10_setClimate_94 nxk (kI fun r32 S33 hw => ?_)
          refine r_if_ne h 103 dX10_setClimate_97 (by decide) (fun hc => ?_) (fun hc => ?_)
          · replace hw := hw.1 hc
            refine r_aload_n h 0 rfl rfl dX10_setClimate_103 ?_
            obtain ⟨h35, hw⟩ := hw
            obtain ⟨b36, h37, hw⟩ := hw
            refine r_getr h kci11 in11 (k := 16) (by decide) rfl rfl q1188 h35 h37 dX10_setClimate_104 ?_
            refine r_iload h 2 rfl dX10_setClimate_107 ?_
            refine r_bipush h (v := 119) (by decide) dX10_setClimate_109 ?_
            obtain ⟨h38, hw⟩ := hw
            obtain ⟨h39, hw⟩ := hw
            refine r_iast h h38 h39 dX10_setClimate_111 ?_
            refine r_iinc h (j := 1) (v := (x4 + 1)) [1, 0, 2] rfl rfl (by decide) rfl dX10_setClimate_112 ?_
            refine r_iinc h (j := 2) (v := (x5 + 1)) [1, 2, 0] rfl rfl (by decide) rfl dX10_setClimate_115 ?_
            refine r_goto h 70 dX10_setClimate_118 (by decide) ?_
            exact ih _ _ _ _ hw
          · replace hw := hw.2 hc
            refine r_goto h 115 dX10_setClimate_100 (by decide) ?_
            refine r_iinc h (j := 2) (v := (x5 + 1)) [1, 2, 0] rfl rfl (by decide) rfl dX10_setClimate_115 ?_
            refine r_goto h 70 dX10_setClimate_118 (by decide) ?_
            exact ih _ _ _ _ hw
  have L38 : ∀ (S : St) (a0 : Nat) (x1 : Int32) (x2 : Int32) (x3 : Int32) (t0 : Int32) (t1 : Nat), wj_X10_setClimate_38 f S a0 x1 x2 x3 t0 t1 → pw X 0 0 S 38 [(0, .ref a0), (1, .int x1), (2, .int x2), (3, .int x3)] [.int t0, .ref t1] := by
    intro S a0 x1 x2 x3 t0 t1 hw
    unfold wj_X10_setClimate_38 at hw
    obtain ⟨h10, hw⟩ := hw
    refine r_puti h kci11 in11 tyX10_ok nmX10 (k := 23) (by decide) rfl rfl rfl rfl rfl rfl q1195 h10 dX10_setClimate_38 ?_
    refine r_aload_n h 0 rfl rfl dX10_setClimate_41 ?_
    obtain ⟨h12, hw⟩ := hw
    refine r_geti h kci11 in11 (k := 23) (by decide) rfl rfl q1195 h12 dX10_setClimate_42 ?_
    refine r_if_le h 50 dX10_setClimate_45 (by decide) (fun hc => ?_) (fun hc => ?_)
    · replace hw := hw.1 hc
      refine r_aload_n h 0 rfl rfl dX10_setClimate_50 ?_
      obtain ⟨b13, h14, hw⟩ := hw
      refine r_getr h kci11 in11 (k := 0) (by decide) rfl rfl q1172 h12 h14 dX10_setClimate_51 ?_
      refine r_iload_n h 1 rfl rfl dX10_setClimate_54 ?_
      refine r_iload_n h 2 rfl rfl dX10_setClimate_55 ?_
      obtain ⟨h15, hw⟩ := hw
      obtain ⟨h16, hw⟩ := hw
      refine r_iast h h15 h16 dX10_setClimate_56 ?_
      refine r_aload_n h 0 rfl rfl dX10_setClimate_57 ?_
      obtain ⟨b18, h19, hw⟩ := hw
      refine r_getr h kci11 in11 (k := 1) (by decide) rfl rfl q1173 h12 h19 dX10_setClimate_58 ?_
      refine r_iload_n h 1 rfl rfl dX10_setClimate_61 ?_
      refine r_iload_n h 3 rfl rfl dX10_setClimate_62 ?_
      obtain ⟨h20, hw⟩ := hw
      obtain ⟨h21, hw⟩ := hw
      refine r_iast h h20 h21 dX10_setClimate_63 ?_
      refine r_iconst h (v := 0) (by decide) dX10_setClimate_64 ?_
      refine r_istore h [1, 0] (by decide) rfl dX10_setClimate_65 ?_
      refine r_iconst h (v := 0) (by decide) dX10_setClimate_67 ?_
      refine r_istore h [1, 2, 0] (by decide) rfl dX10_setClimate_68 ?_
      obtain ⟨m, hw⟩ := hw
      exact L70 m _ _ _ _ hw
    · replace hw := hw.2 hc
      refine r_iconst h (v := 0) (by decide) dX10_setClimate_48 ?_
      exact r_iret h hq rfl ⟨_, rfl, hw⟩ (by decide) (by decide) dX10_setClimate_49
  have L33 : ∀ (S : St) (a0 : Nat) (x1 : Int32) (x2 : Int32) (x3 : Int32) (t0 : Nat), wj_X10_setClimate_33 f S a0 x1 x2 x3 t0 → pw X 0 0 S 33 [(0, .ref a0), (1, .int x1), (2, .int x2), (3, .int x3)] [.ref t0] := by
    intro S a0 x1 x2 x3 t0 hw
    unfold wj_X10_setClimate_33 at hw
    refine r_iconst h (v := 2) (by decide) dX10_setClimate_33 ?_
    refine r_goto h 38 dX10_setClimate_34 (by decide) ?_
    exact L38 _ _ _ _ _ _ _ hw
  unfold w_X10_setClimate at hw
  refine r_aload_n h 0 rfl rfl dX10_setClimate_0 ?_
  refine r_aload_n h 0 rfl rfl dX10_setClimate_1 ?_
  refine r_iload_n h 1 rfl rfl dX10_setClimate_2 ?_
  obtain ⟨h1, hw⟩ := hw
  refine r_callV h (fun l => c_X10_isRoom l _ _ _ _ hw) q1330 q1332 q40 q64 q1333 nd_X10_isRoom ⟨by decide, by decide⟩ rfl rfl ⟨by decide, by decide⟩ kci11 rfl h1 rfl (by first | decide | exact nl rfl) rfl dX10_setClimate_3 nxk (kI fun r2 S3 hw => ?_)
  refine r_if_ne h 13 dX10_setClimate_6 (by decide) (fun hc => ?_) (fun hc => ?_)
  · replace hw := hw.1 hc
    refine r_iload_n h 2 rfl rfl dX10_setClimate_13 ?_
    refine r_iconst h (v := 0) (by decide) dX10_setClimate_14 ?_
    refine r_bipush h (v := 100) (by decide) dX10_setClimate_15 ?_
    refine r_callS h (fun l => c_X10_in l _ _ _ _ _ hw) q1268 q1269 q64 q1270 nd_X10_in ⟨by decide, by decide⟩ rfl rfl ⟨by decide, by decide⟩ (as := [.int x2, .int 0, .int 100]) rfl (by first | decide | exact nl rfl) rfl dX10_setClimate_17 nxk (kI fun r5 S6 hw => ?_)
    refine r_if_eq h 33 dX10_setClimate_20 (by decide) (fun hc => ?_) (fun hc => ?_)
    · replace hw := hw.1 hc
      exact L33 _ _ _ _ _ _ hw
    · replace hw := hw.2 hc
      refine r_iload_n h 3 rfl rfl dX10_setClimate_23 ?_
      refine r_iconst h (v := 0) (by decide) dX10_setClimate_24 ?_
      refine r_bipush h (v := 100) (by decide) dX10_setClimate_25 ?_
      refine r_callS h (fun l => c_X10_in l _ _ _ _ _ hw) q1268 q1269 q64 q1270 nd_X10_in ⟨by decide, by decide⟩ rfl rfl ⟨by decide, by decide⟩ (as := [.int x3, .int 0, .int 100]) rfl (by first | decide | exact nl rfl) rfl dX10_setClimate_27 nxk (kI fun r41 S42 hw => ?_)
      refine r_if_ne h 37 dX10_setClimate_30 (by decide) (fun hc => ?_) (fun hc => ?_)
      · replace hw := hw.1 hc
        refine r_iconst h (v := 0) (by decide) dX10_setClimate_37 ?_
        exact L38 _ _ _ _ _ _ _ hw
      · replace hw := hw.2 hc
        exact L33 _ _ _ _ _ _ hw
  · replace hw := hw.2 hc
    refine r_iconst h (v := 1) (by decide) dX10_setClimate_9 ?_
    refine r_goto h 38 dX10_setClimate_10 (by decide) ?_
    exact L38 _ _ _ _ _ _ _ hw

def wj_X10_addLender_49 (f : Int32 → St → Prop) (S : St) (a0 : Nat) (x1 : Int32) (x2 : Int32) (x3 : Int32) (t0 : Int32) (t1 : Nat) : Prop := ok S t1 11 ∧ let S7 : St := setI S t1 23 t0; ok S7 a0 11 ∧ ((((sI S7 a0 23) ≤ 0) → ∃ b9 : Nat, sP S7 a0 3 = some b9 ∧ ok S7 b9 101 ∧ vp_in (sI S7 a0 25) (sN S7 b9) ∧ let S13 : St := setI S7 b9 (Int32.toNatClampNeg (sI S7 a0 25)) x1; ∃ b14 : Nat, sP S13 a0 4 = some b14 ∧ ok S13 b14 101 ∧ vp_in (sI S13 a0 25) (sN S13 b14) ∧ let S18 : St := setI S13 b14 (Int32.toNatClampNeg (sI S13 a0 25)) x2; ∃ b19 : Nat, sP S18 a0 5 = some b19 ∧ ok S18 b19 101 ∧ vp_in (sI S18 a0 25) (sN S18 b19) ∧ let S23 : St := setI S18 b19 (Int32.toNatClampNeg (sI S18 a0 25)) x3; let S24 : St := setI S23 a0 25 ((sI S23 a0 25) + 1); f ((sI S24 a0 25) - 1) S24) ∧ ((¬ (sI S7 a0 23) ≤ 0) → f 0 S7))
def wj_X10_addLender_32 (f : Int32 → St → Prop) (S : St) (a0 : Nat) (x1 : Int32) (x2 : Int32) (x3 : Int32) (t0 : Nat) : Prop := wj_X10_addLender_49 f S a0 x1 x2 x3 1 t0
def w_X10_addLender (S : St) (a0 : Nat) (x1 : Int32) (x2 : Int32) (x3 : Int32) (f : Int32 → St → Prop) : Prop := w_X10_in S x1 1 9999 (fun (r1 : Int32) (S2 : St) => (((r1 = 0) → wj_X10_addLender_32 f S2 a0 x1 x2 x3 a0) ∧ ((¬ r1 = 0) → w_X10_in S2 x2 0 9 (fun (r25 : Int32) (S26 : St) => (((r25 = 0) → wj_X10_addLender_32 f S26 a0 x1 x2 x3 a0) ∧ ((¬ r25 = 0) → w_X10_in S26 x3 1 100 (fun (r28 : Int32) (S29 : St) => (((¬ r28 = 0) → ok S29 a0 11 ∧ (((¬ (sI S29 a0 25) = 4) → wj_X10_addLender_49 f S29 a0 x1 x2 x3 0 a0) ∧ (((sI S29 a0 25) = 4) → wj_X10_addLender_49 f S29 a0 x1 x2 x3 2 a0))) ∧ ((r28 = 0) → wj_X10_addLender_32 f S29 a0 x1 x2 x3 a0)))))))))
set_option maxRecDepth 100000 in
set_option maxHeartbeats 4000000 in
theorem c_X10_addLender (l : Launch) (S : St) (a0 : Nat) (x1 : Int32) (x2 : Int32) (x3 : Int32) (f : Int32 → St → Prop) (hw : w_X10_addLender S a0 x1 x2 x3 f) : Ct l yX10_addLender (Cond.code yX10_addLender cX10_addLender 4 (some .int)) { frames := 1, cells := 0, slots := 0, locals := 22 } 0 0 S [.ref a0, .int x1, .int x2, .int x3] (pI f) nox := by
  refine entry (by decide +kernel) rfl rfl (by first | decide | exact nl rfl) rfl ?_
  intro X h hq
  have L49 : ∀ (S : St) (a0 : Nat) (x1 : Int32) (x2 : Int32) (x3 : Int32) (t0 : Int32) (t1 : Nat), wj_X10_addLender_49 f S a0 x1 x2 x3 t0 t1 → pw X 0 0 S 49 [(0, .ref a0), (1, .int x1), (2, .int x2), (3, .int x3)] [.int t0, .ref t1] := by
    intro S a0 x1 x2 x3 t0 t1 hw
    unfold wj_X10_addLender_49 at hw
    obtain ⟨h6, hw⟩ := hw
    refine r_puti h kci11 in11 tyX10_ok nmX10 (k := 23) (by decide) rfl rfl rfl rfl rfl rfl q1195 h6 dX10_addLender_49 ?_
    refine r_aload_n h 0 rfl rfl dX10_addLender_52 ?_
    obtain ⟨h8, hw⟩ := hw
    refine r_geti h kci11 in11 (k := 23) (by decide) rfl rfl q1195 h8 dX10_addLender_53 ?_
    refine r_if_le h 61 dX10_addLender_56 (by decide) (fun hc => ?_) (fun hc => ?_)
    · replace hw := hw.1 hc
      refine r_aload_n h 0 rfl rfl dX10_addLender_61 ?_
      obtain ⟨b9, h10, hw⟩ := hw
      refine r_getr h kci11 in11 (k := 3) (by decide) rfl rfl q1175 h8 h10 dX10_addLender_62 ?_
      refine r_aload_n h 0 rfl rfl dX10_addLender_65 ?_
      refine r_geti h kci11 in11 (k := 25) (by decide) rfl rfl q1197 h8 dX10_addLender_66 ?_
      refine r_iload_n h 1 rfl rfl dX10_addLender_69 ?_
      obtain ⟨h11, hw⟩ := hw
      obtain ⟨h12, hw⟩ := hw
      refine r_iast h h11 h12 dX10_addLender_70 ?_
      refine r_aload_n h 0 rfl rfl dX10_addLender_71 ?_
      obtain ⟨b14, h15, hw⟩ := hw
      refine r_getr h kci11 in11 (k := 4) (by decide) rfl rfl q1176 h8 h15 dX10_addLender_72 ?_
      refine r_aload_n h 0 rfl rfl dX10_addLender_75 ?_
      refine r_geti h kci11 in11 (k := 25) (by decide) rfl rfl q1197 h8 dX10_addLender_76 ?_
      refine r_iload_n h 2 rfl rfl dX10_addLender_79 ?_
      obtain ⟨h16, hw⟩ := hw
      obtain ⟨h17, hw⟩ := hw
      refine r_iast h h16 h17 dX10_addLender_80 ?_
      refine r_aload_n h 0 rfl rfl dX10_addLender_81 ?_
      obtain ⟨b19, h20, hw⟩ := hw
      refine r_getr h kci11 in11 (k := 5) (by decide) rfl rfl q1177 h8 h20 dX10_addLender_82 ?_
      refine r_aload_n h 0 rfl rfl dX10_addLender_85 ?_
      refine r_geti h kci11 in11 (k := 25) (by decide) rfl rfl q1197 h8 dX10_addLender_86 ?_
      refine r_iload_n h 3 rfl rfl dX10_addLender_89 ?_
      obtain ⟨h21, hw⟩ := hw
      obtain ⟨h22, hw⟩ := hw
      refine r_iast h h21 h22 dX10_addLender_90 ?_
      refine r_aload_n h 0 rfl rfl dX10_addLender_91 ?_
      refine r_dup h rfl dX10_addLender_92 ?_
      refine r_geti h kci11 in11 (k := 25) (by decide) rfl rfl q1197 h8 dX10_addLender_93 ?_
      refine r_iconst h (v := 1) (by decide) dX10_addLender_96 ?_
      refine r_iadd h dX10_addLender_97 ?_
      refine r_puti h kci11 in11 tyX10_ok nmX10 (k := 25) (by decide) rfl rfl rfl rfl rfl rfl q1197 h8 dX10_addLender_98 ?_
      refine r_aload_n h 0 rfl rfl dX10_addLender_101 ?_
      refine r_geti h kci11 in11 (k := 25) (by decide) rfl rfl q1197 h8 dX10_addLender_102 ?_
      refine r_iconst h (v := 1) (by decide) dX10_addLender_105 ?_
      refine r_isub h dX10_addLender_106 ?_
      exact r_iret h hq rfl ⟨_, rfl, hw⟩ (by decide) (by decide) dX10_addLender_107
    · replace hw := hw.2 hc
      refine r_iconst h (v := 0) (by decide) dX10_addLender_59 ?_
      exact r_iret h hq rfl ⟨_, rfl, hw⟩ (by decide) (by decide) dX10_addLender_60
  have L32 : ∀ (S : St) (a0 : Nat) (x1 : Int32) (x2 : Int32) (x3 : Int32) (t0 : Nat), wj_X10_addLender_32 f S a0 x1 x2 x3 t0 → pw X 0 0 S 32 [(0, .ref a0), (1, .int x1), (2, .int x2), (3, .int x3)] [.ref t0] := by
    intro S a0 x1 x2 x3 t0 hw
    unfold wj_X10_addLender_32 at hw
    refine r_iconst h (v := 1) (by decide) dX10_addLender_32 ?_
    refine r_goto h 49 dX10_addLender_33 (by decide) ?_
    exact L49 _ _ _ _ _ _ _ hw
  unfold w_X10_addLender at hw
  refine r_aload_n h 0 rfl rfl dX10_addLender_0 ?_
  refine r_iload_n h 1 rfl rfl dX10_addLender_1 ?_
  refine r_iconst h (v := 1) (by decide) dX10_addLender_2 ?_
  refine r_sipush h (v := 9999) (by decide) dX10_addLender_3 ?_
  refine r_callS h (fun l => c_X10_in l _ _ _ _ _ hw) q1268 q1269 q64 q1270 nd_X10_in ⟨by decide, by decide⟩ rfl rfl ⟨by decide, by decide⟩ (as := [.int x1, .int 1, .int 9999]) rfl (by first | decide | exact nl rfl) rfl dX10_addLender_6 nxk (kI fun r1 S2 hw => ?_)
  refine r_if_eq h 32 dX10_addLender_9 (by decide) (fun hc => ?_) (fun hc => ?_)
  · replace hw := hw.1 hc
    exact L32 _ _ _ _ _ _ hw
  · replace hw := hw.2 hc
    refine r_iload_n h 2 rfl rfl dX10_addLender_12 ?_
    refine r_iconst h (v := 0) (by decide) dX10_addLender_13 ?_
    refine r_bipush h (v := 9) (by decide) dX10_addLender_14 ?_
    refine r_callS h (fun l => c_X10_in l _ _ _ _ _ hw) q1268 q1269 q64 q1270 nd_X10_in ⟨by decide, by decide⟩ rfl rfl ⟨by decide, by decide⟩ (as := [.int x2, .int 0, .int 9]) rfl (by first | decide | exact nl rfl) rfl dX10_addLender_16 nxk (kI fun r25 S26 hw => ?_)
    refine r_if_eq h 32 dX10_addLender_19 (by decide) (fun hc => ?_) (fun hc => ?_)
    · replace hw := hw.1 hc
      exact L32 _ _ _ _ _ _ hw
    · replace hw := hw.2 hc
      refine r_iload_n h 3 rfl rfl dX10_addLender_22 ?_
      refine r_iconst h (v := 1) (by decide) dX10_addLender_23 ?_
      refine r_bipush h (v := 100) (by decide) dX10_addLender_24 ?_
      refine r_callS h (fun l => c_X10_in l _ _ _ _ _ hw) q1268 q1269 q64 q1270 nd_X10_in ⟨by decide, by decide⟩ rfl rfl ⟨by decide, by decide⟩ (as := [.int x3, .int 1, .int 100]) rfl (by first | decide | exact nl rfl) rfl dX10_addLender_26 nxk (kI fun r28 S29 hw => ?_)
      refine r_if_ne h 36 dX10_addLender_29 (by decide) (fun hc => ?_) (fun hc => ?_)
      · replace hw := hw.1 hc
        refine r_aload_n h 0 rfl rfl dX10_addLender_36 ?_
        obtain ⟨h31, hw⟩ := hw
        refine r_geti h kci11 in11 (k := 25) (by decide) rfl rfl q1197 h31 dX10_addLender_37 ?_
        refine r_iconst h (v := 4) (by decide) dX10_addLender_40 ?_
        refine r_icmp_ne h 48 dX10_addLender_41 (by decide) (fun hc => ?_) (fun hc => ?_)
        · replace hw := hw.1 hc
          refine r_iconst h (v := 0) (by decide) dX10_addLender_48 ?_
          exact L49 _ _ _ _ _ _ _ hw
        · replace hw := hw.2 hc
          refine r_iconst h (v := 2) (by decide) dX10_addLender_44 ?_
          refine r_goto h 49 dX10_addLender_45 (by decide) ?_
          exact L49 _ _ _ _ _ _ _ hw
      · replace hw := hw.2 hc
        exact L32 _ _ _ _ _ _ hw

def wj_X10_addWork_100 (f : Int32 → St → Prop) (S : St) (a0 : Nat) (x1 : Int32) (x2 : Int32) (x3 : Int32) (x4 : Int32) (x5 : Int32) (x6 : Int32) (t0 : Int32) (t1 : Nat) : Prop := ok S t1 11 ∧ let S9 : St := setI S t1 23 t0; ok S9 a0 11 ∧ ((((sI S9 a0 23) ≤ 0) → ∃ b11 : Nat, sP S9 a0 6 = some b11 ∧ ok S9 b11 101 ∧ vp_in (sI S9 a0 26) (sN S9 b11) ∧ let S15 : St := setI S9 b11 (Int32.toNatClampNeg (sI S9 a0 26)) x1; ∃ b16 : Nat, sP S15 a0 7 = some b16 ∧ ok S15 b16 101 ∧ vp_in (sI S15 a0 26) (sN S15 b16) ∧ let S20 : St := setI S15 b16 (Int32.toNatClampNeg (sI S15 a0 26)) x2; ∃ b21 : Nat, sP S20 a0 8 = some b21 ∧ ok S20 b21 101 ∧ vp_in (sI S20 a0 26) (sN S20 b21) ∧ let S25 : St := setI S20 b21 (Int32.toNatClampNeg (sI S20 a0 26)) x3; ∃ b26 : Nat, sP S25 a0 9 = some b26 ∧ ok S25 b26 101 ∧ vp_in (sI S25 a0 26) (sN S25 b26) ∧ let S30 : St := setI S25 b26 (Int32.toNatClampNeg (sI S25 a0 26)) x4; ∃ b31 : Nat, sP S30 a0 10 = some b31 ∧ ok S30 b31 101 ∧ vp_in (sI S30 a0 26) (sN S30 b31) ∧ let S35 : St := setI S30 b31 (Int32.toNatClampNeg (sI S30 a0 26)) x5; ∃ b36 : Nat, sP S35 a0 11 = some b36 ∧ ok S35 b36 101 ∧ vp_in (sI S35 a0 26) (sN S35 b36) ∧ let S40 : St := setI S35 b36 (Int32.toNatClampNeg (sI S35 a0 26)) x6; let S41 : St := setI S40 a0 26 ((sI S40 a0 26) + 1); f ((sI S41 a0 26) - 1) S41) ∧ ((¬ (sI S9 a0 23) ≤ 0) → f 0 S9))
def wj_X10_addWork_74 (f : Int32 → St → Prop) (S : St) (a0 : Nat) (x1 : Int32) (x2 : Int32) (x3 : Int32) (x4 : Int32) (x5 : Int32) (x6 : Int32) (t0 : Int32) : Prop := (((¬ t0 = 0) → ok S a0 11 ∧ (((¬ (sI S a0 26) = 12) → wj_X10_addWork_100 f S a0 x1 x2 x3 x4 x5 x6 0 a0) ∧ (((sI S a0 26) = 12) → wj_X10_addWork_100 f S a0 x1 x2 x3 x4 x5 x6 2 a0))) ∧ ((t0 = 0) → wj_X10_addWork_100 f S a0 x1 x2 x3 x4 x5 x6 1 a0))
def wj_X10_addWork_73 (f : Int32 → St → Prop) (S : St) (a0 : Nat) (x1 : Int32) (x2 : Int32) (x3 : Int32) (x4 : Int32) (x5 : Int32) (x6 : Int32) : Prop := wj_X10_addWork_74 f S a0 x1 x2 x3 x4 x5 x6 0
def w_X10_addWork (S : St) (a0 : Nat) (x1 : Int32) (x2 : Int32) (x3 : Int32) (x4 : Int32) (x5 : Int32) (x6 : Int32) (f : Int32 → St → Prop) : Prop := w_X10_in S x1 1 200 (fun (r1 : Int32) (S2 : St) => (((r1 = 0) → wj_X10_addWork_73 f S2 a0 x1 x2 x3 x4 x5 x6) ∧ ((¬ r1 = 0) → w_X10_in S2 x2 0 100 (fun (r42 : Int32) (S43 : St) => (((r42 = 0) → wj_X10_addWork_73 f S43 a0 x1 x2 x3 x4 x5 x6) ∧ ((¬ r42 = 0) → w_X10_in S43 x3 x2 100 (fun (r45 : Int32) (S46 : St) => (((r45 = 0) → wj_X10_addWork_73 f S46 a0 x1 x2 x3 x4 x5 x6) ∧ ((¬ r45 = 0) → w_X10_in S46 x4 0 100 (fun (r48 : Int32) (S49 : St) => (((r48 = 0) → wj_X10_addWork_73 f S49 a0 x1 x2 x3 x4 x5 x6) ∧ ((¬ r48 = 0) → w_X10_in S49 x5 1 999 (fun (r51 : Int32) (S52 : St) => (((r51 = 0) → wj_X10_addWork_73 f S52 a0 x1 x2 x3 x4 x5 x6) ∧ ((¬ r51 = 0) → ok S52 a0 11 ∧ w_X10_in S52 x6 (-1) ((sI S52 a0 25) - 1) (fun (r55 : Int32) (S56 : St) => (((r55 = 0) → wj_X10_addWork_73 f S56 a0 x1 x2 x3 x4 x5 x6) ∧ ((¬ r55 = 0) → wj_X10_addWork_74 f S56 a0 x1 x2 x3 x4 x5 x6 1))))))))))))))))))
set_option maxRecDepth 100000 in
set_option maxHeartbeats 4000000 in
theorem c_X10_addWork (l : Launch) (S : St) (a0 : Nat) (x1 : Int32) (x2 : Int32) (x3 : Int32) (x4 : Int32) (x5 : Int32) (x6 : Int32) (f : Int32 → St → Prop) (hw : w_X10_addWork S a0 x1 x2 x3 x4 x5 x6 f) : Ct l yX10_addWork (Cond.code yX10_addWork cX10_addWork 8 (some .int)) { frames := 1, cells := 0, slots := 0, locals := 22 } 0 0 S [.ref a0, .int x1, .int x2, .int x3, .int x4, .int x5, .int x6] (pI f) nox := by
  refine entry (by decide +kernel) rfl rfl (by first | decide | exact nl rfl) rfl ?_
  intro X h hq
  have L100 : ∀ (S : St) (a0 : Nat) (x1 : Int32) (x2 : Int32) (x3 : Int32) (x4 : Int32) (x5 : Int32) (x6 : Int32) (t0 : Int32) (t1 : Nat), wj_X10_addWork_100 f S a0 x1 x2 x3 x4 x5 x6 t0 t1 → pw X 0 0 S 100 [(0, .ref a0), (1, .int x1), (2, .int x2), (3, .int x3), (4, .int x4), (5, .int x5), (6, .int x6)] [.int t0, .ref t1] := by
    intro S a0 x1 x2 x3 x4 x5 x6 t0 t1 hw
    unfold wj_X10_addWork_100 at hw
    obtain ⟨h8, hw⟩ := hw
    refine r_puti h kci11 in11 tyX10_ok nmX10 (k := 23) (by decide) rfl rfl rfl rfl rfl rfl q1195 h8 dX10_addWork_100 ?_
    refine r_aload_n h 0 rfl rfl dX10_addWork_103 ?_
    obtain ⟨h10, hw⟩ := hw
    refine r_geti h kci11 in11 (k := 23) (by decide) rfl rfl q1195 h10 dX10_addWork_104 ?_
    refine r_if_le h 112 dX10_addWork_107 (by decide) (fun hc => ?_) (fun hc => ?_)
    · replace hw := hw.1 hc
      refine r_aload_n h 0 rfl rfl dX10_addWork_112 ?_
      obtain ⟨b11, h12, hw⟩ := hw
      refine r_getr h kci11 in11 (k := 6) (by decide) rfl rfl q1178 h10 h12 dX10_addWork_113 ?_
      refine r_aload_n h 0 rfl rfl dX10_addWork_116 ?_
      refine r_geti h kci11 in11 (k := 26) (by decide) rfl rfl q1198 h10 dX10_addWork_117 ?_
      refine r_iload_n h 1 rfl rfl dX10_addWork_120 ?_
      obtain ⟨h13, hw⟩ := hw
      obtain ⟨h14, hw⟩ := hw
      refine r_iast h h13 h14 dX10_addWork_121 ?_
      refine r_aload_n h 0 rfl rfl dX10_addWork_122 ?_
      obtain ⟨b16, h17, hw⟩ := hw
      refine r_getr h kci11 in11 (k := 7) (by decide) rfl rfl q1179 h10 h17 dX10_addWork_123 ?_
      refine r_aload_n h 0 rfl rfl dX10_addWork_126 ?_
      refine r_geti h kci11 in11 (k := 26) (by decide) rfl rfl q1198 h10 dX10_addWork_127 ?_
      refine r_iload_n h 2 rfl rfl dX10_addWork_130 ?_
      obtain ⟨h18, hw⟩ := hw
      obtain ⟨h19, hw⟩ := hw
      refine r_iast h h18 h19 dX10_addWork_131 ?_
      refine r_aload_n h 0 rfl rfl dX10_addWork_132 ?_
      obtain ⟨b21, h22, hw⟩ := hw
      refine r_getr h kci11 in11 (k := 8) (by decide) rfl rfl q1180 h10 h22 dX10_addWork_133 ?_
      refine r_aload_n h 0 rfl rfl dX10_addWork_136 ?_
      refine r_geti h kci11 in11 (k := 26) (by decide) rfl rfl q1198 h10 dX10_addWork_137 ?_
      refine r_iload_n h 3 rfl rfl dX10_addWork_140 ?_
      obtain ⟨h23, hw⟩ := hw
      obtain ⟨h24, hw⟩ := hw
      refine r_iast h h23 h24 dX10_addWork_141 ?_
      refine r_aload_n h 0 rfl rfl dX10_addWork_142 ?_
      obtain ⟨b26, h27, hw⟩ := hw
      refine r_getr h kci11 in11 (k := 9) (by decide) rfl rfl q1181 h10 h27 dX10_addWork_143 ?_
      refine r_aload_n h 0 rfl rfl dX10_addWork_146 ?_
      refine r_geti h kci11 in11 (k := 26) (by decide) rfl rfl q1198 h10 dX10_addWork_147 ?_
      refine r_iload h 4 rfl dX10_addWork_150 ?_
      obtain ⟨h28, hw⟩ := hw
      obtain ⟨h29, hw⟩ := hw
      refine r_iast h h28 h29 dX10_addWork_152 ?_
      refine r_aload_n h 0 rfl rfl dX10_addWork_153 ?_
      obtain ⟨b31, h32, hw⟩ := hw
      refine r_getr h kci11 in11 (k := 10) (by decide) rfl rfl q1182 h10 h32 dX10_addWork_154 ?_
      refine r_aload_n h 0 rfl rfl dX10_addWork_157 ?_
      refine r_geti h kci11 in11 (k := 26) (by decide) rfl rfl q1198 h10 dX10_addWork_158 ?_
      refine r_iload h 5 rfl dX10_addWork_161 ?_
      obtain ⟨h33, hw⟩ := hw
      obtain ⟨h34, hw⟩ := hw
      refine r_iast h h33 h34 dX10_addWork_163 ?_
      refine r_aload_n h 0 rfl rfl dX10_addWork_164 ?_
      obtain ⟨b36, h37, hw⟩ := hw
      refine r_getr h kci11 in11 (k := 11) (by decide) rfl rfl q1183 h10 h37 dX10_addWork_165 ?_
      refine r_aload_n h 0 rfl rfl dX10_addWork_168 ?_
      refine r_geti h kci11 in11 (k := 26) (by decide) rfl rfl q1198 h10 dX10_addWork_169 ?_
      refine r_iload h 6 rfl dX10_addWork_172 ?_
      obtain ⟨h38, hw⟩ := hw
      obtain ⟨h39, hw⟩ := hw
      refine r_iast h h38 h39 dX10_addWork_174 ?_
      refine r_aload_n h 0 rfl rfl dX10_addWork_175 ?_
      refine r_dup h rfl dX10_addWork_176 ?_
      refine r_geti h kci11 in11 (k := 26) (by decide) rfl rfl q1198 h10 dX10_addWork_177 ?_
      refine r_iconst h (v := 1) (by decide) dX10_addWork_180 ?_
      refine r_iadd h dX10_addWork_181 ?_
      refine r_puti h kci11 in11 tyX10_ok nmX10 (k := 26) (by decide) rfl rfl rfl rfl rfl rfl q1198 h10 dX10_addWork_182 ?_
      refine r_aload_n h 0 rfl rfl dX10_addWork_185 ?_
      refine r_geti h kci11 in11 (k := 26) (by decide) rfl rfl q1198 h10 dX10_addWork_186 ?_
      refine r_iconst h (v := 1) (by decide) dX10_addWork_189 ?_
      refine r_isub h dX10_addWork_190 ?_
      exact r_iret h hq rfl ⟨_, rfl, hw⟩ (by decide) (by decide) dX10_addWork_191
    · replace hw := hw.2 hc
      refine r_iconst h (v := 0) (by decide) dX10_addWork_110 ?_
      exact r_iret h hq rfl ⟨_, rfl, hw⟩ (by decide) (by decide) dX10_addWork_111
  have L74 : ∀ (S : St) (a0 : Nat) (x1 : Int32) (x2 : Int32) (x3 : Int32) (x4 : Int32) (x5 : Int32) (x6 : Int32) (t0 : Int32), wj_X10_addWork_74 f S a0 x1 x2 x3 x4 x5 x6 t0 → pw X 0 0 S 74 [(0, .ref a0), (1, .int x1), (2, .int x2), (3, .int x3), (4, .int x4), (5, .int x5), (6, .int x6)] [.int t0] := by
    intro S a0 x1 x2 x3 x4 x5 x6 t0 hw
    unfold wj_X10_addWork_74 at hw
    refine r_istore h [1, 2, 3, 4, 5, 6, 7, 0] (by decide) rfl dX10_addWork_74 ?_
    refine r_aload_n h 0 rfl rfl dX10_addWork_76 ?_
    refine r_iload h 7 rfl dX10_addWork_77 ?_
    refine r_if_ne h 86 dX10_addWork_79 (by decide) (fun hc => ?_) (fun hc => ?_)
    · replace hw := hw.1 hc
      refine r_aload_n h 0 rfl rfl dX10_addWork_86 ?_
      obtain ⟨h6, hw⟩ := hw
      refine r_geti h kci11 in11 (k := 26) (by decide) rfl rfl q1198 h6 dX10_addWork_87 ?_
      refine r_bipush h (v := 12) (by decide) dX10_addWork_90 ?_
      refine r_icmp_ne h 99 dX10_addWork_92 (by decide) (fun hc => ?_) (fun hc => ?_)
      · replace hw := hw.1 hc
        refine r_iconst h (v := 0) (by decide) dX10_addWork_99 ?_
        refine r_vs [0, 1, 2, 3, 4, 5, 6] rfl ?_
        exact L100 _ _ _ _ _ _ _ _ _ _ hw
      · replace hw := hw.2 hc
        refine r_iconst h (v := 2) (by decide) dX10_addWork_95 ?_
        refine r_goto h 100 dX10_addWork_96 (by decide) ?_
        refine r_vs [0, 1, 2, 3, 4, 5, 6] rfl ?_
        exact L100 _ _ _ _ _ _ _ _ _ _ hw
    · replace hw := hw.2 hc
      refine r_iconst h (v := 1) (by decide) dX10_addWork_82 ?_
      refine r_goto h 100 dX10_addWork_83 (by decide) ?_
      refine r_vs [0, 1, 2, 3, 4, 5, 6] rfl ?_
      exact L100 _ _ _ _ _ _ _ _ _ _ hw
  have L73 : ∀ (S : St) (a0 : Nat) (x1 : Int32) (x2 : Int32) (x3 : Int32) (x4 : Int32) (x5 : Int32) (x6 : Int32), wj_X10_addWork_73 f S a0 x1 x2 x3 x4 x5 x6 → pw X 0 0 S 73 [(0, .ref a0), (1, .int x1), (2, .int x2), (3, .int x3), (4, .int x4), (5, .int x5), (6, .int x6)] [] := by
    intro S a0 x1 x2 x3 x4 x5 x6 hw
    unfold wj_X10_addWork_73 at hw
    refine r_iconst h (v := 0) (by decide) dX10_addWork_73 ?_
    exact L74 _ _ _ _ _ _ _ _ _ hw
  unfold w_X10_addWork at hw
  refine r_iload_n h 1 rfl rfl dX10_addWork_0 ?_
  refine r_iconst h (v := 1) (by decide) dX10_addWork_1 ?_
  refine r_sipush h (v := 200) (by decide) dX10_addWork_2 ?_
  refine r_callS h (fun l => c_X10_in l _ _ _ _ _ hw) q1268 q1269 q64 q1270 nd_X10_in ⟨by decide, by decide⟩ rfl rfl ⟨by decide, by decide⟩ (as := [.int x1, .int 1, .int 200]) rfl (by first | decide | exact nl rfl) rfl dX10_addWork_5 nxk (kI fun r1 S2 hw => ?_)
  refine r_if_eq h 73 dX10_addWork_8 (by decide) (fun hc => ?_) (fun hc => ?_)
  · replace hw := hw.1 hc
    exact L73 _ _ _ _ _ _ _ _ hw
  · replace hw := hw.2 hc
    refine r_iload_n h 2 rfl rfl dX10_addWork_11 ?_
    refine r_iconst h (v := 0) (by decide) dX10_addWork_12 ?_
    refine r_bipush h (v := 100) (by decide) dX10_addWork_13 ?_
    refine r_callS h (fun l => c_X10_in l _ _ _ _ _ hw) q1268 q1269 q64 q1270 nd_X10_in ⟨by decide, by decide⟩ rfl rfl ⟨by decide, by decide⟩ (as := [.int x2, .int 0, .int 100]) rfl (by first | decide | exact nl rfl) rfl dX10_addWork_15 nxk (kI fun r42 S43 hw => ?_)
    refine r_if_eq h 73 dX10_addWork_18 (by decide) (fun hc => ?_) (fun hc => ?_)
    · replace hw := hw.1 hc
      exact L73 _ _ _ _ _ _ _ _ hw
    · replace hw := hw.2 hc
      refine r_iload_n h 3 rfl rfl dX10_addWork_21 ?_
      refine r_iload_n h 2 rfl rfl dX10_addWork_22 ?_
      refine r_bipush h (v := 100) (by decide) dX10_addWork_23 ?_
      refine r_callS h (fun l => c_X10_in l _ _ _ _ _ hw) q1268 q1269 q64 q1270 nd_X10_in ⟨by decide, by decide⟩ rfl rfl ⟨by decide, by decide⟩ (as := [.int x3, .int x2, .int 100]) rfl (by first | decide | exact nl rfl) rfl dX10_addWork_25 nxk (kI fun r45 S46 hw => ?_)
      refine r_if_eq h 73 dX10_addWork_28 (by decide) (fun hc => ?_) (fun hc => ?_)
      · replace hw := hw.1 hc
        exact L73 _ _ _ _ _ _ _ _ hw
      · replace hw := hw.2 hc
        refine r_iload h 4 rfl dX10_addWork_31 ?_
        refine r_iconst h (v := 0) (by decide) dX10_addWork_33 ?_
        refine r_bipush h (v := 100) (by decide) dX10_addWork_34 ?_
        refine r_callS h (fun l => c_X10_in l _ _ _ _ _ hw) q1268 q1269 q64 q1270 nd_X10_in ⟨by decide, by decide⟩ rfl rfl ⟨by decide, by decide⟩ (as := [.int x4, .int 0, .int 100]) rfl (by first | decide | exact nl rfl) rfl dX10_addWork_36 nxk (kI fun r48 S49 hw => ?_)
        refine r_if_eq h 73 dX10_addWork_39 (by decide) (fun hc => ?_) (fun hc => ?_)
        · replace hw := hw.1 hc
          exact L73 _ _ _ _ _ _ _ _ hw
        · replace hw := hw.2 hc
          refine r_iload h 5 rfl dX10_addWork_42 ?_
          refine r_iconst h (v := 1) (by decide) dX10_addWork_44 ?_
          refine r_sipush h (v := 999) (by decide) dX10_addWork_45 ?_
          refine r_callS h (fun l => c_X10_in l _ _ _ _ _ hw) q1268 q1269 q64 q1270 nd_X10_in ⟨by decide, by decide⟩ rfl rfl ⟨by decide, by decide⟩ (as := [.int x5, .int 1, .int 999]) rfl (by first | decide | exact nl rfl) rfl dX10_addWork_48 nxk (kI fun r51 S52 hw => ?_)
          refine r_if_eq h 73 dX10_addWork_51 (by decide) (fun hc => ?_) (fun hc => ?_)
          · replace hw := hw.1 hc
            exact L73 _ _ _ _ _ _ _ _ hw
          · replace hw := hw.2 hc
            refine r_iload h 6 rfl dX10_addWork_54 ?_
            refine r_iconst h (v := (-1)) (by decide) dX10_addWork_56 ?_
            refine r_aload_n h 0 rfl rfl dX10_addWork_57 ?_
            obtain ⟨h54, hw⟩ := hw
            refine r_geti h kci11 in11 (k := 25) (by decide) rfl rfl q1197 h54 dX10_addWork_58 ?_
            refine r_iconst h (v := 1) (by decide) dX10_addWork_61 ?_
            refine r_isub h dX10_addWork_62 ?_
            refine r_callS h (fun l => c_X10_in l _ _ _ _ _ hw) q1268 q1269 q64 q1270 nd_X10_in ⟨by decide, by decide⟩ rfl rfl ⟨by decide, by decide⟩ (as := [.int x6, .int (-1), .int ((sI S52 a0 25) - 1)]) rfl (by first | decide | exact nl rfl) rfl dX10_addWork_63 nxk (kI fun r55 S56 hw => ?_)
            refine r_if_eq h 73 dX10_addWork_66 (by decide) (fun hc => ?_) (fun hc => ?_)
            · replace hw := hw.1 hc
              exact L73 _ _ _ _ _ _ _ _ hw
            · replace hw := hw.2 hc
              refine r_iconst h (v := 1) (by decide) dX10_addWork_69 ?_
              refine r_goto h 74 dX10_addWork_70 (by decide) ?_
              exact L74 _ _ _ _ _ _ _ _ _ hw

def w_X10_areBroken (S : St) (a0 : Nat) (x1 : Int32) (x2 : Int32) (x3 : Int32) (x4 : Int32) (x5 : Int32) (f : Int32 → St → Prop) : Prop := ok S a0 11 ∧ w_X10_areAtOnce S a0 x1 x3 (fun (r2 : Int32) (S3 : St) => (((r2 = 0) → f 0 S3) ∧ ((¬ r2 = 0) → ok S3 a0 11 ∧ ∃ b6 : Nat, sP S3 a0 19 = some b6 ∧ ok S3 b6 101 ∧ vp_in ((5 * x1) + x2) (sN S3 b6) ∧ vp_in ((5 * x3) + x4) (sN S3 b6) ∧ w_X10_isBroken S3 x5 (sI S3 b6 (Int32.toNatClampNeg ((5 * x1) + x2))) (sI S3 b6 (Int32.toNatClampNeg ((5 * x3) + x4))) (fun (r11 : Int32) (S12 : St) => (((r11 = 0) → f 0 S12) ∧ ((¬ r11 = 0) → f 1 S12))))))
set_option maxRecDepth 100000 in
set_option maxHeartbeats 4000000 in
theorem c_X10_areBroken (l : Launch) (S : St) (a0 : Nat) (x1 : Int32) (x2 : Int32) (x3 : Int32) (x4 : Int32) (x5 : Int32) (f : Int32 → St → Prop) (hw : w_X10_areBroken S a0 x1 x2 x3 x4 x5 f) : Ct l yX10_areBroken (Cond.code yX10_areBroken cX10_areBroken 6 (some .boolean)) { frames := 1, cells := 0, slots := 0, locals := 22 } 0 0 S [.ref a0, .int x1, .int x2, .int x3, .int x4, .int x5] (pI f) nox := by
  refine entry (by decide +kernel) rfl rfl (by first | decide | exact nl rfl) rfl ?_
  intro X h hq
  unfold w_X10_areBroken at hw
  refine r_aload_n h 0 rfl rfl dX10_areBroken_0 ?_
  refine r_iload_n h 1 rfl rfl dX10_areBroken_1 ?_
  refine r_iload_n h 3 rfl rfl dX10_areBroken_2 ?_
  obtain ⟨h1, hw⟩ := hw
  refine r_callV h (fun l => c_X10_areAtOnce l _ _ _ _ _ hw) q1311 q1313 q37 q64 q1314 nd_X10_areAtOnce ⟨by decide, by decide⟩ rfl rfl ⟨by decide, by decide⟩ kci11 rfl h1 rfl (by first | decide | exact nl rfl) rfl dX10_areBroken_3 nxk (kI fun r2 S3 hw => ?_)
  refine r_if_eq h 42 dX10_areBroken_6 (by decide) (fun hc => ?_) (fun hc => ?_)
  · replace hw := hw.1 hc
    refine r_iconst h (v := 0) (by decide) dX10_areBroken_42 ?_
    exact r_zret h hq (ty := .boolean) rfl rfl ⟨_, rfl, hw⟩ (by decide) (by decide) dX10_areBroken_43
  · replace hw := hw.2 hc
    refine r_iload h 5 rfl dX10_areBroken_9 ?_
    refine r_aload_n h 0 rfl rfl dX10_areBroken_11 ?_
    obtain ⟨h5, hw⟩ := hw
    obtain ⟨b6, h7, hw⟩ := hw
    refine r_getr h kci11 in11 (k := 19) (by decide) rfl rfl q1191 h5 h7 dX10_areBroken_12 ?_
    refine r_iconst h (v := 5) (by decide) dX10_areBroken_15 ?_
    refine r_iload_n h 1 rfl rfl dX10_areBroken_16 ?_
    refine r_imul h dX10_areBroken_17 ?_
    refine r_iload_n h 2 rfl rfl dX10_areBroken_18 ?_
    refine r_iadd h dX10_areBroken_19 ?_
    obtain ⟨h8, hw⟩ := hw
    obtain ⟨h9, hw⟩ := hw
    refine r_iald h h8 h9 dX10_areBroken_20 ?_
    refine r_aload_n h 0 rfl rfl dX10_areBroken_21 ?_
    refine r_getr h kci11 in11 (k := 19) (by decide) rfl rfl q1191 h5 h7 dX10_areBroken_22 ?_
    refine r_iconst h (v := 5) (by decide) dX10_areBroken_25 ?_
    refine r_iload_n h 3 rfl rfl dX10_areBroken_26 ?_
    refine r_imul h dX10_areBroken_27 ?_
    refine r_iload h 4 rfl dX10_areBroken_28 ?_
    refine r_iadd h dX10_areBroken_30 ?_
    obtain ⟨h10, hw⟩ := hw
    refine r_iald h h8 h10 dX10_areBroken_31 ?_
    refine r_callS h (fun l => c_X10_isBroken l _ _ _ _ _ hw) q1315 q1316 q64 q1317 nd_X10_isBroken ⟨by decide, by decide⟩ rfl rfl ⟨by decide, by decide⟩ (as := [.int x5, .int (sI S3 b6 (Int32.toNatClampNeg ((5 * x1) + x2))), .int (sI S3 b6 (Int32.toNatClampNeg ((5 * x3) + x4)))]) rfl (by first | decide | exact nl rfl) rfl dX10_areBroken_32 nxk (kI fun r11 S12 hw => ?_)
    refine r_if_eq h 42 dX10_areBroken_35 (by decide) (fun hc => ?_) (fun hc => ?_)
    · replace hw := hw.1 hc
      refine r_iconst h (v := 0) (by decide) dX10_areBroken_42 ?_
      exact r_zret h hq (ty := .boolean) rfl rfl ⟨_, rfl, hw⟩ (by decide) (by decide) dX10_areBroken_43
    · replace hw := hw.2 hc
      refine r_iconst h (v := 1) (by decide) dX10_areBroken_38 ?_
      refine r_goto h 43 dX10_areBroken_39 (by decide) ?_
      exact r_zret h hq (ty := .boolean) rfl rfl ⟨_, rfl, hw⟩ (by decide) (by decide) dX10_areBroken_43

def wl_X10_wouldBreak_69 (f : Int32 → St → Prop) (k3 : St → Nat → Int32 → Int32 → Int32 → Int32 → Prop) (k15 : St → Nat → Int32 → Int32 → Int32 → Int32 → Int32 → Prop) (k54 : St → Nat → Int32 → Int32 → Int32 → Int32 → Int32 → Int32 → Prop) : Nat → St → Nat → Int32 → Int32 → Int32 → Int32 → Int32 → Int32 → Int32 → Prop
  | 0, _, _, _, _, _, _, _, _, _ => False
  | n + 1, S, a0, x1, x2, x3, x4, x5, x6, x7 => ok S a0 11 ∧ ∃ b18 : Nat, sP S a0 17 = some b18 ∧ ok S b18 101 ∧ vp_in x5 (sN S b18) ∧ ((((sI S b18 (Int32.toNatClampNeg x5)) ≤ x7) → k54 S a0 x1 x2 x3 x4 x5 (x6 + 1)) ∧ ((¬ (sI S b18 (Int32.toNatClampNeg x5)) ≤ x7) → ∃ b22 : Nat, sP S a0 18 = some b22 ∧ ok S b22 101 ∧ vp_in ((5 * x4) + x6) (sN S b22) ∧ (((¬ (sI S b22 (Int32.toNatClampNeg ((5 * x4) + x6))) = x1) → wl_X10_wouldBreak_69 f k3 k15 k54 n S a0 x1 x2 x3 x4 x5 x6 (x7 + 1)) ∧ (((sI S b22 (Int32.toNatClampNeg ((5 * x4) + x6))) = x1) → vp_in ((5 * x5) + x7) (sN S b22) ∧ (((¬ (sI S b22 (Int32.toNatClampNeg ((5 * x5) + x7))) = x2) → wl_X10_wouldBreak_69 f k3 k15 k54 n S a0 x1 x2 x3 x4 x5 x6 (x7 + 1)) ∧ (((sI S b22 (Int32.toNatClampNeg ((5 * x5) + x7))) = x2) → w_X10_areBroken S a0 x4 x6 x5 x7 x3 (fun (r27 : Int32) (S28 : St) => (((r27 = 0) → wl_X10_wouldBreak_69 f k3 k15 k54 n S28 a0 x1 x2 x3 x4 x5 x6 (x7 + 1)) ∧ ((¬ r27 = 0) → f 1 S28)))))))))
def wl_X10_wouldBreak_54 (f : Int32 → St → Prop) (k3 : St → Nat → Int32 → Int32 → Int32 → Int32 → Prop) (k15 : St → Nat → Int32 → Int32 → Int32 → Int32 → Int32 → Prop) : Nat → St → Nat → Int32 → Int32 → Int32 → Int32 → Int32 → Int32 → Prop
  | 0, _, _, _, _, _, _, _, _ => False
  | n + 1, S, a0, x1, x2, x3, x4, x5, x6 => ok S a0 11 ∧ ∃ b12 : Nat, sP S a0 17 = some b12 ∧ ok S b12 101 ∧ vp_in x4 (sN S b12) ∧ ((((sI S b12 (Int32.toNatClampNeg x4)) ≤ x6) → k15 S a0 x1 x2 x3 x4 (x5 + 1)) ∧ ((¬ (sI S b12 (Int32.toNatClampNeg x4)) ≤ x6) → (∃ m : Nat, wl_X10_wouldBreak_69 f k3 k15 (wl_X10_wouldBreak_54 f k3 k15 n) m S a0 x1 x2 x3 x4 x5 x6 0)))
def wl_X10_wouldBreak_15 (f : Int32 → St → Prop) (k3 : St → Nat → Int32 → Int32 → Int32 → Int32 → Prop) : Nat → St → Nat → Int32 → Int32 → Int32 → Int32 → Int32 → Prop
  | 0, _, _, _, _, _, _, _ => False
  | n + 1, S, a0, x1, x2, x3, x4, x5 => ok S a0 11 ∧ ((((sI S a0 27) ≤ x5) → k3 S a0 x1 x2 x3 (x4 + 1)) ∧ ((¬ (sI S a0 27) ≤ x5) → ∃ b5 : Nat, sP S a0 16 = some b5 ∧ ok S b5 101 ∧ vp_in x4 (sN S b5) ∧ (((¬ (sI S b5 (Int32.toNatClampNeg x4)) = 112) → wl_X10_wouldBreak_15 f k3 n S a0 x1 x2 x3 x4 (x5 + 1)) ∧ (((sI S b5 (Int32.toNatClampNeg x4)) = 112) → vp_in x5 (sN S b5) ∧ ((((sI S b5 (Int32.toNatClampNeg x5)) = 112) → (∃ m : Nat, wl_X10_wouldBreak_54 f k3 (wl_X10_wouldBreak_15 f k3 n) m S a0 x1 x2 x3 x4 x5 0)) ∧ ((¬ (sI S b5 (Int32.toNatClampNeg x5)) = 112) → wl_X10_wouldBreak_15 f k3 n S a0 x1 x2 x3 x4 (x5 + 1)))))))
def wl_X10_wouldBreak_3 (f : Int32 → St → Prop) : Nat → St → Nat → Int32 → Int32 → Int32 → Int32 → Prop
  | 0, _, _, _, _, _, _ => False
  | n + 1, S, a0, x1, x2, x3, x4 => ok S a0 11 ∧ ((((sI S a0 27) ≤ x4) → f 0 S) ∧ ((¬ (sI S a0 27) ≤ x4) → (∃ m : Nat, wl_X10_wouldBreak_15 f (wl_X10_wouldBreak_3 f n) m S a0 x1 x2 x3 x4 0)))
def w_X10_wouldBreak (S : St) (a0 : Nat) (x1 : Int32) (x2 : Int32) (x3 : Int32) (f : Int32 → St → Prop) : Prop := (∃ m : Nat, wl_X10_wouldBreak_3 f m S a0 x1 x2 x3 0)
set_option maxRecDepth 100000 in
set_option maxHeartbeats 4000000 in
theorem c_X10_wouldBreak (l : Launch) (S : St) (a0 : Nat) (x1 : Int32) (x2 : Int32) (x3 : Int32) (f : Int32 → St → Prop) (hw : w_X10_wouldBreak S a0 x1 x2 x3 f) : Ct l yX10_wouldBreak (Cond.code yX10_wouldBreak cX10_wouldBreak 8 (some .boolean)) { frames := 2, cells := 0, slots := 0, locals := 47 } 0 0 S [.ref a0, .int x1, .int x2, .int x3] (pI f) nox := by
  refine entry (by decide +kernel) rfl rfl (by first | decide | exact nl rfl) rfl ?_
  intro X h hq
  have L69 : ∀ (k3 : St → Nat → Int32 → Int32 → Int32 → Int32 → Prop), (∀ (S : St) (a0 : Nat) (x1 : Int32) (x2 : Int32) (x3 : Int32) (x4 : Int32), k3 S a0 x1 x2 x3 x4 → pw X 0 0 S 3 [(0, .ref a0), (1, .int x1), (2, .int x2), (3, .int x3), (4, .int x4)] []) → ∀ (k15 : St → Nat → Int32 → Int32 → Int32 → Int32 → Int32 → Prop), (∀ (S : St) (a0 : Nat) (x1 : Int32) (x2 : Int32) (x3 : Int32) (x4 : Int32) (x5 : Int32), k15 S a0 x1 x2 x3 x4 x5 → pw X 0 0 S 15 [(0, .ref a0), (1, .int x1), (2, .int x2), (3, .int x3), (4, .int x4), (5, .int x5)] []) → ∀ (k54 : St → Nat → Int32 → Int32 → Int32 → Int32 → Int32 → Int32 → Prop), (∀ (S : St) (a0 : Nat) (x1 : Int32) (x2 : Int32) (x3 : Int32) (x4 : Int32) (x5 : Int32) (x6 : Int32), k54 S a0 x1 x2 x3 x4 x5 x6 → pw X 0 0 S 54 [(0, .ref a0), (1, .int x1), (2, .int x2), (3, .int x3), (4, .int x4), (5, .int x5), (6, .int x6)] []) → ∀ (n : Nat) (S : St) (a0 : Nat) (x1 : Int32) (x2 : Int32) (x3 : Int32) (x4 : Int32) (x5 : Int32) (x6 : Int32) (x7 : Int32), wl_X10_wouldBreak_69 f k3 k15 k54 n S a0 x1 x2 x3 x4 x5 x6 x7 → pw X 0 0 S 69 [(0, .ref a0), (1, .int x1), (2, .int x2), (3, .int x3), (4, .int x4), (5, .int x5), (6, .int x6), (7, .int x7)] [] := by
    intro k3 hk3 k15 hk15 k54 hk54 n
    induction n with
    | zero => intro S a0 x1 x2 x3 x4 x5 x6 x7 hw; exact hw.elim
    | succ n ih =>
      intro S a0 x1 x2 x3 x4 x5 x6 x7 hw
      unfold wl_X10_wouldBreak_69 at hw
      refine r_iload h 7 rfl dX10_wouldBreak_69 ?_
      refine r_aload_n h 0 rfl rfl dX10_wouldBreak_71 ?_
      obtain ⟨h17, hw⟩ := hw
      obtain ⟨b18, h19, hw⟩ := hw
      refine r_getr h kci11 in11 (k := 17) (by decide) rfl rfl q1189 h17 h19 dX10_wouldBreak_72 ?_
      refine r_iload h 5 rfl dX10_wouldBreak_75 ?_
      obtain ⟨h20, hw⟩ := hw
      obtain ⟨h21, hw⟩ := hw
      refine r_iald h h20 h21 dX10_wouldBreak_77 ?_
      refine r_icmp_ge h 137 dX10_wouldBreak_78 (by decide) (fun hc => ?_) (fun hc => ?_)
      · replace hw := hw.1 hc
        refine r_iinc h (j := 6) (v := (x6 + 1)) [1, 2, 3, 4, 5, 6, 0, 7] rfl rfl (by decide) rfl dX10_wouldBreak_137 ?_
        refine r_goto h 54 dX10_wouldBreak_140 (by decide) ?_
        refine r_vs [0, 1, 2, 3, 4, 5, 6] rfl ?_
        exact hk54 _ _ _ _ _ _ _ _ hw
      · replace hw := hw.2 hc
        refine r_aload_n h 0 rfl rfl dX10_wouldBreak_81 ?_
        obtain ⟨b22, h23, hw⟩ := hw
        refine r_getr h kci11 in11 (k := 18) (by decide) rfl rfl q1190 h17 h23 dX10_wouldBreak_82 ?_
        refine r_iconst h (v := 5) (by decide) dX10_wouldBreak_85 ?_
        refine r_iload h 4 rfl dX10_wouldBreak_86 ?_
        refine r_imul h dX10_wouldBreak_88 ?_
        refine r_iload h 6 rfl dX10_wouldBreak_89 ?_
        refine r_iadd h dX10_wouldBreak_91 ?_
        obtain ⟨h24, hw⟩ := hw
        obtain ⟨h25, hw⟩ := hw
        refine r_iald h h24 h25 dX10_wouldBreak_92 ?_
        refine r_iload_n h 1 rfl rfl dX10_wouldBreak_93 ?_
        refine r_icmp_ne h 131 dX10_wouldBreak_94 (by decide) (fun hc => ?_) (fun hc => ?_)
        · replace hw := hw.1 hc
          refine r_iinc h (j := 7) (v := (x7 + 1)) [1, 2, 3, 4, 5, 6, 7, 0] rfl rfl (by decide) rfl dX10_wouldBreak_131 ?_
          refine r_goto h 69 dX10_wouldBreak_134 (by decide) ?_
          exact ih _ _ _ _ _ _ _ _ _ hw
        · replace hw := hw.2 hc
          refine r_aload_n h 0 rfl rfl dX10_wouldBreak_97 ?_
          refine r_getr h kci11 in11 (k := 18) (by decide) rfl rfl q1190 h17 h23 dX10_wouldBreak_98 ?_
          refine r_iconst h (v := 5) (by decide) dX10_wouldBreak_101 ?_
          refine r_iload h 5 rfl dX10_wouldBreak_102 ?_
          refine r_imul h dX10_wouldBreak_104 ?_
          refine r_iload h 7 rfl dX10_wouldBreak_105 ?_
          refine r_iadd h dX10_wouldBreak_107 ?_
          obtain ⟨h26, hw⟩ := hw
          refine r_iald h h24 h26 dX10_wouldBreak_108 ?_
          refine r_iload_n h 2 rfl rfl dX10_wouldBreak_109 ?_
          refine r_icmp_ne h 131 dX10_wouldBreak_110 (by decide) (fun hc => ?_) (fun hc => ?_)
          · replace hw := hw.1 hc
            refine r_iinc h (j := 7) (v := (x7 + 1)) [1, 2, 3, 4, 5, 6, 7, 0] rfl rfl (by decide) rfl dX10_wouldBreak_131 ?_
            refine r_goto h 69 dX10_wouldBreak_134 (by decide) ?_
            exact ih _ _ _ _ _ _ _ _ _ hw
          · replace hw := hw.2 hc
            refine r_aload_n h 0 rfl rfl dX10_wouldBreak_113 ?_
            refine r_iload h 4 rfl dX10_wouldBreak_114 ?_
            refine r_iload h 6 rfl dX10_wouldBreak_116 ?_
            refine r_iload h 5 rfl dX10_wouldBreak_118 ?_
            refine r_iload h 7 rfl dX10_wouldBreak_120 ?_
            refine r_iload_n h 3 rfl rfl dX10_wouldBreak_122 ?_
            refine r_callV h (fun l => c_X10_areBroken l _ _ _ _ _ _ _ _ hw) q1358 q1360 q44 q64 q1361 nd_X10_areBroken ⟨by decide, by decide⟩ rfl rfl ⟨by decide, by decide⟩ kci11 rfl h17 rfl (by first | decide | exact nl rfl) rfl dX10_wouldBreak_123 nxk (kI fun r27 S28 hw => ?_)
            refine r_if_eq h 131 dX10_wouldBreak_126 (by decide) (fun hc => ?_) (fun hc => ?_)
            · replace hw := hw.1 hc
              refine r_iinc h (j := 7) (v := (x7 + 1)) [1, 2, 3, 4, 5, 6, 7, 0] rfl rfl (by decide) rfl dX10_wouldBreak_131 ?_
              refine r_goto h 69 dX10_wouldBreak_134 (by decide) ?_
              exact ih _ _ _ _ _ _ _ _ _ hw
            · replace hw := hw.2 hc
              refine r_iconst h (v := 1) (by decide) dX10_wouldBreak_129 ?_
              exact r_zret h hq (ty := .boolean) rfl rfl ⟨_, rfl, hw⟩ (by decide) (by decide) dX10_wouldBreak_130
  have L54 : ∀ (k3 : St → Nat → Int32 → Int32 → Int32 → Int32 → Prop), (∀ (S : St) (a0 : Nat) (x1 : Int32) (x2 : Int32) (x3 : Int32) (x4 : Int32), k3 S a0 x1 x2 x3 x4 → pw X 0 0 S 3 [(0, .ref a0), (1, .int x1), (2, .int x2), (3, .int x3), (4, .int x4)] []) → ∀ (k15 : St → Nat → Int32 → Int32 → Int32 → Int32 → Int32 → Prop), (∀ (S : St) (a0 : Nat) (x1 : Int32) (x2 : Int32) (x3 : Int32) (x4 : Int32) (x5 : Int32), k15 S a0 x1 x2 x3 x4 x5 → pw X 0 0 S 15 [(0, .ref a0), (1, .int x1), (2, .int x2), (3, .int x3), (4, .int x4), (5, .int x5)] []) → ∀ (n : Nat) (S : St) (a0 : Nat) (x1 : Int32) (x2 : Int32) (x3 : Int32) (x4 : Int32) (x5 : Int32) (x6 : Int32), wl_X10_wouldBreak_54 f k3 k15 n S a0 x1 x2 x3 x4 x5 x6 → pw X 0 0 S 54 [(0, .ref a0), (1, .int x1), (2, .int x2), (3, .int x3), (4, .int x4), (5, .int x5), (6, .int x6)] [] := by
    intro k3 hk3 k15 hk15 n
    induction n with
    | zero => intro S a0 x1 x2 x3 x4 x5 x6 hw; exact hw.elim
    | succ n ih =>
      intro S a0 x1 x2 x3 x4 x5 x6 hw
      unfold wl_X10_wouldBreak_54 at hw
      refine r_iload h 6 rfl dX10_wouldBreak_54 ?_
      refine r_aload_n h 0 rfl rfl dX10_wouldBreak_56 ?_
      obtain ⟨h11, hw⟩ := hw
      obtain ⟨b12, h13, hw⟩ := hw
      refine r_getr h kci11 in11 (k := 17) (by decide) rfl rfl q1189 h11 h13 dX10_wouldBreak_57 ?_
      refine r_iload h 4 rfl dX10_wouldBreak_60 ?_
      obtain ⟨h14, hw⟩ := hw
      obtain ⟨h15, hw⟩ := hw
      refine r_iald h h14 h15 dX10_wouldBreak_62 ?_
      refine r_icmp_ge h 143 dX10_wouldBreak_63 (by decide) (fun hc => ?_) (fun hc => ?_)
      · replace hw := hw.1 hc
        refine r_iinc h (j := 5) (v := (x5 + 1)) [1, 2, 3, 4, 5, 0, 6] rfl rfl (by decide) rfl dX10_wouldBreak_143 ?_
        refine r_goto h 15 dX10_wouldBreak_146 (by decide) ?_
        refine r_vs [0, 1, 2, 3, 4, 5] rfl ?_
        exact hk15 _ _ _ _ _ _ _ hw
      · replace hw := hw.2 hc
        refine r_iconst h (v := 0) (by decide) dX10_wouldBreak_66 ?_
        refine r_istore h [1, 2, 3, 4, 5, 6, 7, 0] (by decide) rfl dX10_wouldBreak_67 ?_
        obtain ⟨m, hw⟩ := hw
        exact L69 _ hk3 _ hk15 _ ih m _ _ _ _ _ _ _ _ _ hw
  have L15 : ∀ (k3 : St → Nat → Int32 → Int32 → Int32 → Int32 → Prop), (∀ (S : St) (a0 : Nat) (x1 : Int32) (x2 : Int32) (x3 : Int32) (x4 : Int32), k3 S a0 x1 x2 x3 x4 → pw X 0 0 S 3 [(0, .ref a0), (1, .int x1), (2, .int x2), (3, .int x3), (4, .int x4)] []) → ∀ (n : Nat) (S : St) (a0 : Nat) (x1 : Int32) (x2 : Int32) (x3 : Int32) (x4 : Int32) (x5 : Int32), wl_X10_wouldBreak_15 f k3 n S a0 x1 x2 x3 x4 x5 → pw X 0 0 S 15 [(0, .ref a0), (1, .int x1), (2, .int x2), (3, .int x3), (4, .int x4), (5, .int x5)] [] := by
    intro k3 hk3 n
    induction n with
    | zero => intro S a0 x1 x2 x3 x4 x5 hw; exact hw.elim
    | succ n ih =>
      intro S a0 x1 x2 x3 x4 x5 hw
      unfold wl_X10_wouldBreak_15 at hw
      refine r_iload h 5 rfl dX10_wouldBreak_15 ?_
      refine r_aload_n h 0 rfl rfl dX10_wouldBreak_17 ?_
      obtain ⟨h4, hw⟩ := hw
      refine r_geti h kci11 in11 (k := 27) (by decide) rfl rfl q1199 h4 dX10_wouldBreak_18 ?_
      refine r_icmp_ge h 149 dX10_wouldBreak_21 (by decide) (fun hc => ?_) (fun hc => ?_)
      · replace hw := hw.1 hc
        refine r_iinc h (j := 4) (v := (x4 + 1)) [1, 2, 3, 4, 0, 5] rfl rfl (by decide) rfl dX10_wouldBreak_149 ?_
        refine r_goto h 3 dX10_wouldBreak_152 (by decide) ?_
        refine r_vs [0, 1, 2, 3, 4] rfl ?_
        exact hk3 _ _ _ _ _ _ hw
      · replace hw := hw.2 hc
        refine r_aload_n h 0 rfl rfl dX10_wouldBreak_24 ?_
        obtain ⟨b5, h6, hw⟩ := hw
        refine r_getr h kci11 in11 (k := 16) (by decide) rfl rfl q1188 h4 h6 dX10_wouldBreak_25 ?_
        refine r_iload h 4 rfl dX10_wouldBreak_28 ?_
        obtain ⟨h7, hw⟩ := hw
        obtain ⟨h8, hw⟩ := hw
        refine r_iald h h7 h8 dX10_wouldBreak_30 ?_
        refine r_bipush h (v := 112) (by decide) dX10_wouldBreak_31 ?_
        refine r_icmp_ne h 143 dX10_wouldBreak_33 (by decide) (fun hc => ?_) (fun hc => ?_)
        · replace hw := hw.1 hc
          refine r_iinc h (j := 5) (v := (x5 + 1)) [1, 2, 3, 4, 5, 0] rfl rfl (by decide) rfl dX10_wouldBreak_143 ?_
          refine r_goto h 15 dX10_wouldBreak_146 (by decide) ?_
          exact ih _ _ _ _ _ _ _ hw
        · replace hw := hw.2 hc
          refine r_aload_n h 0 rfl rfl dX10_wouldBreak_36 ?_
          refine r_getr h kci11 in11 (k := 16) (by decide) rfl rfl q1188 h4 h6 dX10_wouldBreak_37 ?_
          refine r_iload h 5 rfl dX10_wouldBreak_40 ?_
          obtain ⟨h9, hw⟩ := hw
          refine r_iald h h7 h9 dX10_wouldBreak_42 ?_
          refine r_bipush h (v := 112) (by decide) dX10_wouldBreak_43 ?_
          refine r_icmp_eq h 51 dX10_wouldBreak_45 (by decide) (fun hc => ?_) (fun hc => ?_)
          · replace hw := hw.1 hc
            refine r_iconst h (v := 0) (by decide) dX10_wouldBreak_51 ?_
            refine r_istore h [1, 2, 3, 4, 5, 6, 0] (by decide) rfl dX10_wouldBreak_52 ?_
            obtain ⟨m, hw⟩ := hw
            exact L54 _ hk3 _ ih m _ _ _ _ _ _ _ _ hw
          · replace hw := hw.2 hc
            refine r_goto h 143 dX10_wouldBreak_48 (by decide) ?_
            refine r_iinc h (j := 5) (v := (x5 + 1)) [1, 2, 3, 4, 5, 0] rfl rfl (by decide) rfl dX10_wouldBreak_143 ?_
            refine r_goto h 15 dX10_wouldBreak_146 (by decide) ?_
            exact ih _ _ _ _ _ _ _ hw
  have L3 : ∀ (n : Nat) (S : St) (a0 : Nat) (x1 : Int32) (x2 : Int32) (x3 : Int32) (x4 : Int32), wl_X10_wouldBreak_3 f n S a0 x1 x2 x3 x4 → pw X 0 0 S 3 [(0, .ref a0), (1, .int x1), (2, .int x2), (3, .int x3), (4, .int x4)] [] := by
    intro n
    induction n with
    | zero => intro S a0 x1 x2 x3 x4 hw; exact hw.elim
    | succ n ih =>
      intro S a0 x1 x2 x3 x4 hw
      unfold wl_X10_wouldBreak_3 at hw
      refine r_iload h 4 rfl dX10_wouldBreak_3 ?_
      refine r_aload_n h 0 rfl rfl dX10_wouldBreak_5 ?_
      obtain ⟨h2, hw⟩ := hw
      refine r_geti h kci11 in11 (k := 27) (by decide) rfl rfl q1199 h2 dX10_wouldBreak_6 ?_
      refine r_icmp_ge h 155 dX10_wouldBreak_9 (by decide) (fun hc => ?_) (fun hc => ?_)
      · replace hw := hw.1 hc
        refine r_iconst h (v := 0) (by decide) dX10_wouldBreak_155 ?_
        exact r_zret h hq (ty := .boolean) rfl rfl ⟨_, rfl, hw⟩ (by decide) (by decide) dX10_wouldBreak_156
      · replace hw := hw.2 hc
        refine r_iconst h (v := 0) (by decide) dX10_wouldBreak_12 ?_
        refine r_istore h [1, 2, 3, 4, 5, 0] (by decide) rfl dX10_wouldBreak_13 ?_
        obtain ⟨m, hw⟩ := hw
        exact L15 _ ih m _ _ _ _ _ _ _ hw
  unfold w_X10_wouldBreak at hw
  refine r_iconst h (v := 0) (by decide) dX10_wouldBreak_0 ?_
  refine r_istore h [1, 2, 3, 4, 0] (by decide) rfl dX10_wouldBreak_1 ?_
  obtain ⟨m, hw⟩ := hw
  exact L3 m _ _ _ _ _ _ hw

def wl_X10_separate_111 (f : Int32 → St → Prop) (k99 : St → Nat → Int32 → Int32 → Prop) : Nat → St → Nat → Int32 → Int32 → Int32 → Prop
  | 0, _, _, _, _, _ => False
  | n + 1, S, a0, x4, x5, x6 => (((x5 ≤ x6) → k99 S a0 x4 (x5 + 1)) ∧ ((¬ x5 ≤ x6) → ok S a0 11 ∧ ∃ b24 : Nat, sP S a0 12 = some b24 ∧ ok S b24 101 ∧ vp_in ((12 * x5) + x6) (sN S b24) ∧ ((((sI S b24 (Int32.toNatClampNeg ((12 * x5) + x6))) ≤ 0) → wl_X10_separate_111 f k99 n S a0 (x4 + 0) x5 (x6 + 1)) ∧ ((¬ (sI S b24 (Int32.toNatClampNeg ((12 * x5) + x6))) ≤ 0) → wl_X10_separate_111 f k99 n S a0 (x4 + 1) x5 (x6 + 1)))))
def wl_X10_separate_99 (f : Int32 → St → Prop) : Nat → St → Nat → Int32 → Int32 → Prop
  | 0, _, _, _, _ => False
  | n + 1, S, a0, x4, x5 => ok S a0 11 ∧ ((((sI S a0 26) ≤ x5) → w_X10_looks S a0 (fun (r19 : Int32) (S20 : St) => f x4 S20)) ∧ ((¬ (sI S a0 26) ≤ x5) → (∃ m : Nat, wl_X10_separate_111 f (wl_X10_separate_99 f n) m S a0 x4 x5 0)))
def wj_X10_separate_57 (f : Int32 → St → Prop) (S : St) (a0 : Nat) (x1 : Int32) (x2 : Int32) (x3 : Int32) (t0 : Int32) (t1 : Nat) : Prop := ok S t1 11 ∧ let S8 : St := setI S t1 23 t0; ok S8 a0 11 ∧ ((((sI S8 a0 23) ≤ 0) → ∃ b10 : Nat, sP S8 a0 12 = some b10 ∧ ok S8 b10 101 ∧ vp_in ((12 * x1) + x2) (sN S8 b10) ∧ let S14 : St := setI S8 b10 (Int32.toNatClampNeg ((12 * x1) + x2)) x3; vp_in ((12 * x2) + x1) (sN S14 b10) ∧ let S16 : St := setI S14 b10 (Int32.toNatClampNeg ((12 * x2) + x1)) x3; (∃ m : Nat, wl_X10_separate_99 f m S16 a0 0 0)) ∧ ((¬ (sI S8 a0 23) ≤ 0) → f 0 S8))
def wj_X10_separate_17 (f : Int32 → St → Prop) (S : St) (a0 : Nat) (x1 : Int32) (x2 : Int32) (x3 : Int32) (t0 : Nat) : Prop := wj_X10_separate_57 f S a0 x1 x2 x3 1 t0
def wj_X10_separate_38 (f : Int32 → St → Prop) (S : St) (a0 : Nat) (x1 : Int32) (x2 : Int32) (x3 : Int32) (t0 : Nat) : Prop := wj_X10_separate_57 f S a0 x1 x2 x3 2 t0
def wj_X10_separate_42 (f : Int32 → St → Prop) (S : St) (a0 : Nat) (x1 : Int32) (x2 : Int32) (x3 : Int32) (t0 : Nat) : Prop := ok S a0 11 ∧ w_X10_wouldBreak S a0 x1 x2 x3 (fun (r35 : Int32) (S36 : St) => (((r35 = 0) → wj_X10_separate_57 f S36 a0 x1 x2 x3 0 t0) ∧ ((¬ r35 = 0) → wj_X10_separate_57 f S36 a0 x1 x2 x3 3 t0)))
def w_X10_separate (S : St) (a0 : Nat) (x1 : Int32) (x2 : Int32) (x3 : Int32) (f : Int32 → St → Prop) : Prop := ok S a0 11 ∧ w_X10_isWork S a0 x1 (fun (r2 : Int32) (S3 : St) => (((r2 = 0) → wj_X10_separate_17 f S3 a0 x1 x2 x3 a0) ∧ ((¬ r2 = 0) → ok S3 a0 11 ∧ w_X10_isWork S3 a0 x2 (fun (r29 : Int32) (S30 : St) => (((¬ r29 = 0) → (((x1 = x2) → wj_X10_separate_38 f S30 a0 x1 x2 x3 a0) ∧ ((¬ x1 = x2) → (((x3 = 114) → wj_X10_separate_42 f S30 a0 x1 x2 x3 a0) ∧ ((¬ x3 = 114) → (((x3 = 119) → wj_X10_separate_42 f S30 a0 x1 x2 x3 a0) ∧ ((¬ x3 = 119) → wj_X10_separate_38 f S30 a0 x1 x2 x3 a0))))))) ∧ ((r29 = 0) → wj_X10_separate_17 f S30 a0 x1 x2 x3 a0))))))
set_option maxRecDepth 100000 in
set_option maxHeartbeats 4000000 in
theorem c_X10_separate (l : Launch) (S : St) (a0 : Nat) (x1 : Int32) (x2 : Int32) (x3 : Int32) (f : Int32 → St → Prop) (hw : w_X10_separate S a0 x1 x2 x3 f) : Ct l yX10_separate (Cond.code yX10_separate cX10_separate 7 (some .int)) { frames := 7, cells := 0, slots := 0, locals := 164 } 0 0 S [.ref a0, .int x1, .int x2, .int x3] (pI f) nox := by
  refine entry (by decide +kernel) rfl rfl (by first | decide | exact nl rfl) rfl ?_
  intro X h hq
  have L111 : ∀ (k99 : St → Nat → Int32 → Int32 → Prop), (∀ (S : St) (a0 : Nat) (x4 : Int32) (x5 : Int32), k99 S a0 x4 x5 → pw X 0 0 S 99 [(0, .ref a0), (4, .int x4), (5, .int x5)] []) → ∀ (n : Nat) (S : St) (a0 : Nat) (x4 : Int32) (x5 : Int32) (x6 : Int32), wl_X10_separate_111 f k99 n S a0 x4 x5 x6 → pw X 0 0 S 111 [(0, .ref a0), (4, .int x4), (5, .int x5), (6, .int x6)] [] := by
    intro k99 hk99 n
    induction n with
    | zero => intro S a0 x4 x5 x6 hw; exact hw.elim
    | succ n ih =>
      intro S a0 x4 x5 x6 hw
      unfold wl_X10_separate_111 at hw
      refine r_iload h 3 rfl dX10_separate_111 ?_
      refine r_iload h 2 rfl dX10_separate_113 ?_
      refine r_icmp_ge h 150 dX10_separate_115 (by decide) (fun hc => ?_) (fun hc => ?_)
      · replace hw := hw.1 hc
        refine r_iinc h (j := 2) (v := (x5 + 1)) [1, 2, 0, 3] rfl rfl (by decide) rfl dX10_separate_150 ?_
        refine r_goto h 99 dX10_separate_153 (by decide) ?_
        refine r_vs [0, 1, 2] rfl ?_
        exact hk99 _ _ _ _ hw
      · replace hw := hw.2 hc
        refine r_iload h 1 rfl dX10_separate_118 ?_
        refine r_aload_n h 0 rfl rfl dX10_separate_120 ?_
        obtain ⟨h23, hw⟩ := hw
        obtain ⟨b24, h25, hw⟩ := hw
        refine r_getr h kci11 in11 (k := 12) (by decide) rfl rfl q1184 h23 h25 dX10_separate_121 ?_
        refine r_bipush h (v := 12) (by decide) dX10_separate_124 ?_
        refine r_iload h 2 rfl dX10_separate_126 ?_
        refine r_imul h dX10_separate_128 ?_
        refine r_iload h 3 rfl dX10_separate_129 ?_
        refine r_iadd h dX10_separate_131 ?_
        obtain ⟨h26, hw⟩ := hw
        obtain ⟨h27, hw⟩ := hw
        refine r_iald h h26 h27 dX10_separate_132 ?_
        refine r_if_le h 140 dX10_separate_133 (by decide) (fun hc => ?_) (fun hc => ?_)
        · replace hw := hw.1 hc
          refine r_iconst h (v := 0) (by decide) dX10_separate_140 ?_
          refine r_iadd h dX10_separate_141 ?_
          refine r_istore h [1, 0, 2, 3] (by decide) rfl dX10_separate_142 ?_
          refine r_iinc h (j := 3) (v := (x6 + 1)) [1, 2, 3, 0] rfl rfl (by decide) rfl dX10_separate_144 ?_
          refine r_goto h 111 dX10_separate_147 (by decide) ?_
          exact ih _ _ _ _ _ hw
        · replace hw := hw.2 hc
          refine r_iconst h (v := 1) (by decide) dX10_separate_136 ?_
          refine r_goto h 141 dX10_separate_137 (by decide) ?_
          refine r_iadd h dX10_separate_141 ?_
          refine r_istore h [1, 0, 2, 3] (by decide) rfl dX10_separate_142 ?_
          refine r_iinc h (j := 3) (v := (x6 + 1)) [1, 2, 3, 0] rfl rfl (by decide) rfl dX10_separate_144 ?_
          refine r_goto h 111 dX10_separate_147 (by decide) ?_
          exact ih _ _ _ _ _ hw
  have L99 : ∀ (n : Nat) (S : St) (a0 : Nat) (x4 : Int32) (x5 : Int32), wl_X10_separate_99 f n S a0 x4 x5 → pw X 0 0 S 99 [(0, .ref a0), (4, .int x4), (5, .int x5)] [] := by
    intro n
    induction n with
    | zero => intro S a0 x4 x5 hw; exact hw.elim
    | succ n ih =>
      intro S a0 x4 x5 hw
      unfold wl_X10_separate_99 at hw
      refine r_iload h 2 rfl dX10_separate_99 ?_
      refine r_aload_n h 0 rfl rfl dX10_separate_101 ?_
      obtain ⟨h18, hw⟩ := hw
      refine r_geti h kci11 in11 (k := 26) (by decide) rfl rfl q1198 h18 dX10_separate_102 ?_
      refine r_icmp_ge h 156 dX10_separate_105 (by decide) (fun hc => ?_) (fun hc => ?_)
      · replace hw := hw.1 hc
        refine r_aload_n h 0 rfl rfl dX10_separate_156 ?_
        refine r_callV h (fun l => c_X10_looks l _ _ _ hw) q1271 q1273 q27 q64 q1274 nd_X10_looks ⟨by decide, by decide⟩ rfl rfl ⟨by decide, by decide⟩ kci11 rfl h18 rfl (by first | decide | exact nl rfl) rfl dX10_separate_157 nxk (kI fun r19 S20 hw => ?_)
        refine r_istore h [2] (by decide) rfl dX10_separate_160 ?_
        refine r_iload h 0 rfl dX10_separate_162 ?_
        exact r_iret h hq rfl ⟨_, rfl, hw⟩ (by decide) (by decide) dX10_separate_164
      · replace hw := hw.2 hc
        refine r_iconst h (v := 0) (by decide) dX10_separate_108 ?_
        refine r_istore h [1, 2, 3, 0] (by decide) rfl dX10_separate_109 ?_
        obtain ⟨m, hw⟩ := hw
        exact L111 _ ih m _ _ _ _ _ hw
  have L57 : ∀ (S : St) (a0 : Nat) (x1 : Int32) (x2 : Int32) (x3 : Int32) (t0 : Int32) (t1 : Nat), wj_X10_separate_57 f S a0 x1 x2 x3 t0 t1 → pw X 0 0 S 57 [(0, .ref a0), (1, .int x1), (2, .int x2), (3, .int x3)] [.int t0, .ref t1] := by
    intro S a0 x1 x2 x3 t0 t1 hw
    unfold wj_X10_separate_57 at hw
    obtain ⟨h7, hw⟩ := hw
    refine r_puti h kci11 in11 tyX10_ok nmX10 (k := 23) (by decide) rfl rfl rfl rfl rfl rfl q1195 h7 dX10_separate_57 ?_
    refine r_aload_n h 0 rfl rfl dX10_separate_60 ?_
    obtain ⟨h9, hw⟩ := hw
    refine r_geti h kci11 in11 (k := 23) (by decide) rfl rfl q1195 h9 dX10_separate_61 ?_
    refine r_if_le h 69 dX10_separate_64 (by decide) (fun hc => ?_) (fun hc => ?_)
    · replace hw := hw.1 hc
      refine r_aload_n h 0 rfl rfl dX10_separate_69 ?_
      obtain ⟨b10, h11, hw⟩ := hw
      refine r_getr h kci11 in11 (k := 12) (by decide) rfl rfl q1184 h9 h11 dX10_separate_70 ?_
      refine r_bipush h (v := 12) (by decide) dX10_separate_73 ?_
      refine r_iload_n h 1 rfl rfl dX10_separate_75 ?_
      refine r_imul h dX10_separate_76 ?_
      refine r_iload_n h 2 rfl rfl dX10_separate_77 ?_
      refine r_iadd h dX10_separate_78 ?_
      refine r_iload_n h 3 rfl rfl dX10_separate_79 ?_
      obtain ⟨h12, hw⟩ := hw
      obtain ⟨h13, hw⟩ := hw
      refine r_iast h h12 h13 dX10_separate_80 ?_
      refine r_aload_n h 0 rfl rfl dX10_separate_81 ?_
      refine r_getr h kci11 in11 (k := 12) (by decide) rfl rfl q1184 h9 h11 dX10_separate_82 ?_
      refine r_bipush h (v := 12) (by decide) dX10_separate_85 ?_
      refine r_iload_n h 2 rfl rfl dX10_separate_87 ?_
      refine r_imul h dX10_separate_88 ?_
      refine r_iload_n h 1 rfl rfl dX10_separate_89 ?_
      refine r_iadd h dX10_separate_90 ?_
      refine r_iload_n h 3 rfl rfl dX10_separate_91 ?_
      obtain ⟨h15, hw⟩ := hw
      refine r_iast h h12 h15 dX10_separate_92 ?_
      refine r_iconst h (v := 0) (by decide) dX10_separate_93 ?_
      refine r_istore h [1, 0] (by decide) rfl dX10_separate_94 ?_
      refine r_iconst h (v := 0) (by decide) dX10_separate_96 ?_
      refine r_istore h [1, 2, 0] (by decide) rfl dX10_separate_97 ?_
      obtain ⟨m, hw⟩ := hw
      exact L99 m _ _ _ _ hw
    · replace hw := hw.2 hc
      refine r_iconst h (v := 0) (by decide) dX10_separate_67 ?_
      exact r_iret h hq rfl ⟨_, rfl, hw⟩ (by decide) (by decide) dX10_separate_68
  have L17 : ∀ (S : St) (a0 : Nat) (x1 : Int32) (x2 : Int32) (x3 : Int32) (t0 : Nat), wj_X10_separate_17 f S a0 x1 x2 x3 t0 → pw X 0 0 S 17 [(0, .ref a0), (1, .int x1), (2, .int x2), (3, .int x3)] [.ref t0] := by
    intro S a0 x1 x2 x3 t0 hw
    unfold wj_X10_separate_17 at hw
    refine r_iconst h (v := 1) (by decide) dX10_separate_17 ?_
    refine r_goto h 57 dX10_separate_18 (by decide) ?_
    exact L57 _ _ _ _ _ _ _ hw
  have L38 : ∀ (S : St) (a0 : Nat) (x1 : Int32) (x2 : Int32) (x3 : Int32) (t0 : Nat), wj_X10_separate_38 f S a0 x1 x2 x3 t0 → pw X 0 0 S 38 [(0, .ref a0), (1, .int x1), (2, .int x2), (3, .int x3)] [.ref t0] := by
    intro S a0 x1 x2 x3 t0 hw
    unfold wj_X10_separate_38 at hw
    refine r_iconst h (v := 2) (by decide) dX10_separate_38 ?_
    refine r_goto h 57 dX10_separate_39 (by decide) ?_
    exact L57 _ _ _ _ _ _ _ hw
  have L42 : ∀ (S : St) (a0 : Nat) (x1 : Int32) (x2 : Int32) (x3 : Int32) (t0 : Nat), wj_X10_separate_42 f S a0 x1 x2 x3 t0 → pw X 0 0 S 42 [(0, .ref a0), (1, .int x1), (2, .int x2), (3, .int x3)] [.ref t0] := by
    intro S a0 x1 x2 x3 t0 hw
    unfold wj_X10_separate_42 at hw
    refine r_aload_n h 0 rfl rfl dX10_separate_42 ?_
    refine r_iload_n h 1 rfl rfl dX10_separate_43 ?_
    refine r_iload_n h 2 rfl rfl dX10_separate_44 ?_
    refine r_iload_n h 3 rfl rfl dX10_separate_45 ?_
    obtain ⟨h34, hw⟩ := hw
    refine r_callV h (fun l => c_X10_wouldBreak l _ _ _ _ _ _ hw) q1354 q1356 q43 q64 q1357 nd_X10_wouldBreak ⟨by decide, by decide⟩ rfl rfl ⟨by decide, by decide⟩ kci11 rfl h34 rfl (by first | decide | exact nl rfl) rfl dX10_separate_46 nxk (kI fun r35 S36 hw => ?_)
    refine r_if_eq h 56 dX10_separate_49 (by decide) (fun hc => ?_) (fun hc => ?_)
    · replace hw := hw.1 hc
      refine r_iconst h (v := 0) (by decide) dX10_separate_56 ?_
      exact L57 _ _ _ _ _ _ _ hw
    · replace hw := hw.2 hc
      refine r_iconst h (v := 3) (by decide) dX10_separate_52 ?_
      refine r_goto h 57 dX10_separate_53 (by decide) ?_
      exact L57 _ _ _ _ _ _ _ hw
  unfold w_X10_separate at hw
  refine r_aload_n h 0 rfl rfl dX10_separate_0 ?_
  refine r_aload_n h 0 rfl rfl dX10_separate_1 ?_
  refine r_iload_n h 1 rfl rfl dX10_separate_2 ?_
  obtain ⟨h1, hw⟩ := hw
  refine r_callV h (fun l => c_X10_isWork l _ _ _ _ hw) q1350 q1352 q42 q64 q1353 nd_X10_isWork ⟨by decide, by decide⟩ rfl rfl ⟨by decide, by decide⟩ kci11 rfl h1 rfl (by first | decide | exact nl rfl) rfl dX10_separate_3 nxk (kI fun r2 S3 hw => ?_)
  refine r_if_eq h 17 dX10_separate_6 (by decide) (fun hc => ?_) (fun hc => ?_)
  · replace hw := hw.1 hc
    exact L17 _ _ _ _ _ _ hw
  · replace hw := hw.2 hc
    refine r_aload_n h 0 rfl rfl dX10_separate_9 ?_
    refine r_iload_n h 2 rfl rfl dX10_separate_10 ?_
    obtain ⟨h28, hw⟩ := hw
    refine r_callV h (fun l => c_X10_isWork l _ _ _ _ hw) q1350 q1352 q42 q64 q1353 nd_X10_isWork ⟨by decide, by decide⟩ rfl rfl ⟨by decide, by decide⟩ kci11 rfl h28 rfl (by first | decide | exact nl rfl) rfl dX10_separate_11 nxk (kI fun r29 S30 hw => ?_)
    refine r_if_ne h 21 dX10_separate_14 (by decide) (fun hc => ?_) (fun hc => ?_)
    · replace hw := hw.1 hc
      refine r_iload_n h 1 rfl rfl dX10_separate_21 ?_
      refine r_iload_n h 2 rfl rfl dX10_separate_22 ?_
      refine r_icmp_eq h 38 dX10_separate_23 (by decide) (fun hc => ?_) (fun hc => ?_)
      · replace hw := hw.1 hc
        exact L38 _ _ _ _ _ _ hw
      · replace hw := hw.2 hc
        refine r_iload_n h 3 rfl rfl dX10_separate_26 ?_
        refine r_bipush h (v := 114) (by decide) dX10_separate_27 ?_
        refine r_icmp_eq h 42 dX10_separate_29 (by decide) (fun hc => ?_) (fun hc => ?_)
        · replace hw := hw.1 hc
          exact L42 _ _ _ _ _ _ hw
        · replace hw := hw.2 hc
          refine r_iload_n h 3 rfl rfl dX10_separate_32 ?_
          refine r_bipush h (v := 119) (by decide) dX10_separate_33 ?_
          refine r_icmp_eq h 42 dX10_separate_35 (by decide) (fun hc => ?_) (fun hc => ?_)
          · replace hw := hw.1 hc
            exact L42 _ _ _ _ _ _ hw
          · replace hw := hw.2 hc
            exact L38 _ _ _ _ _ _ hw
    · replace hw := hw.2 hc
      exact L17 _ _ _ _ _ _ hw

def w_X10_rooms (S : St) (a0 : Nat) (f : Int32 → St → Prop) : Prop := ok S a0 11 ∧ w_X10_plain S a0 (sI S a0 24) (fun (r2 : Int32) (S3 : St) => f r2 S3)
set_option maxRecDepth 100000 in
set_option maxHeartbeats 4000000 in
theorem c_X10_rooms (l : Launch) (S : St) (a0 : Nat) (f : Int32 → St → Prop) (hw : w_X10_rooms S a0 f) : Ct l yX10_rooms (Cond.code yX10_rooms cX10_rooms 1 (some .int)) { frames := 1, cells := 0, slots := 0, locals := 21 } 0 0 S [.ref a0] (pI f) nox := by
  refine entry (by decide +kernel) rfl rfl (by first | decide | exact nl rfl) rfl ?_
  intro X h hq
  unfold w_X10_rooms at hw
  refine r_aload_n h 0 rfl rfl dX10_rooms_0 ?_
  refine r_aload_n h 0 rfl rfl dX10_rooms_1 ?_
  obtain ⟨h1, hw⟩ := hw
  refine r_geti h kci11 in11 (k := 24) (by decide) rfl rfl q1196 h1 dX10_rooms_2 ?_
  refine r_callV h (fun l => c_X10_plain l _ _ _ _ hw) q1366 q1368 q45 q64 q1369 nd_X10_plain ⟨by decide, by decide⟩ rfl rfl ⟨by decide, by decide⟩ kci11 rfl h1 rfl (by first | decide | exact nl rfl) rfl dX10_rooms_5 nxk (kI fun r2 S3 hw => ?_)
  exact r_iret h hq rfl ⟨_, rfl, hw⟩ (by decide) (by decide) dX10_rooms_8

def w_X10_works (S : St) (a0 : Nat) (f : Int32 → St → Prop) : Prop := ok S a0 11 ∧ w_X10_plain S a0 (sI S a0 26) (fun (r2 : Int32) (S3 : St) => f r2 S3)
set_option maxRecDepth 100000 in
set_option maxHeartbeats 4000000 in
theorem c_X10_works (l : Launch) (S : St) (a0 : Nat) (f : Int32 → St → Prop) (hw : w_X10_works S a0 f) : Ct l yX10_works (Cond.code yX10_works cX10_works 1 (some .int)) { frames := 1, cells := 0, slots := 0, locals := 21 } 0 0 S [.ref a0] (pI f) nox := by
  refine entry (by decide +kernel) rfl rfl (by first | decide | exact nl rfl) rfl ?_
  intro X h hq
  unfold w_X10_works at hw
  refine r_aload_n h 0 rfl rfl dX10_works_0 ?_
  refine r_aload_n h 0 rfl rfl dX10_works_1 ?_
  obtain ⟨h1, hw⟩ := hw
  refine r_geti h kci11 in11 (k := 26) (by decide) rfl rfl q1198 h1 dX10_works_2 ?_
  refine r_callV h (fun l => c_X10_plain l _ _ _ _ hw) q1366 q1368 q45 q64 q1369 nd_X10_plain ⟨by decide, by decide⟩ rfl rfl ⟨by decide, by decide⟩ kci11 rfl h1 rfl (by first | decide | exact nl rfl) rfl dX10_works_5 nxk (kI fun r2 S3 hw => ?_)
  exact r_iret h hq rfl ⟨_, rfl, hw⟩ (by decide) (by decide) dX10_works_8

def wj_X10_separation_22 (f : Int32 → St → Prop) (S : St) (a0 : Nat) (x1 : Int32) (x2 : Int32) (t0 : Int32) (t1 : Nat) : Prop := ok S t1 11 ∧ w_X10_checked S t1 t0 (fun (r8 : Int32) (S9 : St) => (((r8 ≤ 0) → ok S9 a0 11 ∧ ∃ b12 : Nat, sP S9 a0 12 = some b12 ∧ ok S9 b12 101 ∧ vp_in ((12 * x1) + x2) (sN S9 b12) ∧ (((¬ (sI S9 b12 (Int32.toNatClampNeg ((12 * x1) + x2))) = 0) → narrow .char (.int (cof (sI S9 b12 (Int32.toNatClampNeg ((12 * x1) + x2))))) = .int (cof (sI S9 b12 (Int32.toNatClampNeg ((12 * x1) + x2)))) ∧ f (cof (sI S9 b12 (Int32.toNatClampNeg ((12 * x1) + x2)))) S9) ∧ (((sI S9 b12 (Int32.toNatClampNeg ((12 * x1) + x2))) = 0) → f 110 S9))) ∧ ((¬ r8 ≤ 0) → f 97 S9)))
def wj_X10_separation_21 (f : Int32 → St → Prop) (S : St) (a0 : Nat) (x1 : Int32) (x2 : Int32) (t0 : Nat) : Prop := wj_X10_separation_22 f S a0 x1 x2 0 t0
def w_X10_separation (S : St) (a0 : Nat) (x1 : Int32) (x2 : Int32) (f : Int32 → St → Prop) : Prop := ok S a0 11 ∧ w_X10_isWork S a0 x1 (fun (r2 : Int32) (S3 : St) => (((r2 = 0) → wj_X10_separation_21 f S3 a0 x1 x2 a0) ∧ ((¬ r2 = 0) → ok S3 a0 11 ∧ w_X10_isWork S3 a0 x2 (fun (r18 : Int32) (S19 : St) => (((r18 = 0) → wj_X10_separation_21 f S19 a0 x1 x2 a0) ∧ ((¬ r18 = 0) → wj_X10_separation_22 f S19 a0 x1 x2 1 a0))))))
set_option maxRecDepth 100000 in
set_option maxHeartbeats 4000000 in
theorem c_X10_separation (l : Launch) (S : St) (a0 : Nat) (x1 : Int32) (x2 : Int32) (f : Int32 → St → Prop) (hw : w_X10_separation S a0 x1 x2 f) : Ct l yX10_separation (Cond.code yX10_separation cX10_separation 4 (some .char)) { frames := 2, cells := 0, slots := 0, locals := 43 } 0 0 S [.ref a0, .int x1, .int x2] (pI f) nox := by
  refine entry (by decide +kernel) rfl rfl (by first | decide | exact nl rfl) rfl ?_
  intro X h hq
  have L22 : ∀ (S : St) (a0 : Nat) (x1 : Int32) (x2 : Int32) (t0 : Int32) (t1 : Nat), wj_X10_separation_22 f S a0 x1 x2 t0 t1 → pw X 0 0 S 22 [(0, .ref a0), (1, .int x1), (2, .int x2)] [.int t0, .ref t1] := by
    intro S a0 x1 x2 t0 t1 hw
    unfold wj_X10_separation_22 at hw
    obtain ⟨h7, hw⟩ := hw
    refine r_callV h (fun l => c_X10_checked l _ _ _ _ hw) q1378 q1380 q46 q64 q1381 nd_X10_checked ⟨by decide, by decide⟩ rfl rfl ⟨by decide, by decide⟩ kci11 rfl h7 rfl (by first | decide | exact nl rfl) rfl dX10_separation_22 nxk (kI fun r8 S9 hw => ?_)
    refine r_if_le h 31 dX10_separation_25 (by decide) (fun hc => ?_) (fun hc => ?_)
    · replace hw := hw.1 hc
      refine r_aload_n h 0 rfl rfl dX10_separation_31 ?_
      obtain ⟨h11, hw⟩ := hw
      obtain ⟨b12, h13, hw⟩ := hw
      refine r_getr h kci11 in11 (k := 12) (by decide) rfl rfl q1184 h11 h13 dX10_separation_32 ?_
      refine r_bipush h (v := 12) (by decide) dX10_separation_35 ?_
      refine r_iload_n h 1 rfl rfl dX10_separation_37 ?_
      refine r_imul h dX10_separation_38 ?_
      refine r_iload_n h 2 rfl rfl dX10_separation_39 ?_
      refine r_iadd h dX10_separation_40 ?_
      obtain ⟨h14, hw⟩ := hw
      obtain ⟨h15, hw⟩ := hw
      refine r_iald h h14 h15 dX10_separation_41 ?_
      refine r_istore_n h [0] rfl (by decide) rfl dX10_separation_42 ?_
      refine r_iload_n h 0 rfl rfl dX10_separation_43 ?_
      refine r_if_ne h 52 dX10_separation_44 (by decide) (fun hc => ?_) (fun hc => ?_)
      · replace hw := hw.1 hc
        refine r_iload_n h 0 rfl rfl dX10_separation_52 ?_
        refine r_i2c h dX10_separation_53 ?_
        obtain ⟨h16, hw⟩ := hw
        exact r_zret h hq (ty := .char) rfl h16 ⟨_, rfl, hw⟩ (by decide) (by decide) dX10_separation_54
      · replace hw := hw.2 hc
        refine r_bipush h (v := 110) (by decide) dX10_separation_47 ?_
        refine r_goto h 54 dX10_separation_49 (by decide) ?_
        exact r_zret h hq (ty := .char) rfl rfl ⟨_, rfl, hw⟩ (by decide) (by decide) dX10_separation_54
    · replace hw := hw.2 hc
      refine r_bipush h (v := 97) (by decide) dX10_separation_28 ?_
      exact r_zret h hq (ty := .char) rfl rfl ⟨_, rfl, hw⟩ (by decide) (by decide) dX10_separation_30
  have L21 : ∀ (S : St) (a0 : Nat) (x1 : Int32) (x2 : Int32) (t0 : Nat), wj_X10_separation_21 f S a0 x1 x2 t0 → pw X 0 0 S 21 [(0, .ref a0), (1, .int x1), (2, .int x2)] [.ref t0] := by
    intro S a0 x1 x2 t0 hw
    unfold wj_X10_separation_21 at hw
    refine r_iconst h (v := 0) (by decide) dX10_separation_21 ?_
    exact L22 _ _ _ _ _ _ hw
  unfold w_X10_separation at hw
  refine r_aload_n h 0 rfl rfl dX10_separation_0 ?_
  refine r_aload_n h 0 rfl rfl dX10_separation_1 ?_
  refine r_iload_n h 1 rfl rfl dX10_separation_2 ?_
  obtain ⟨h1, hw⟩ := hw
  refine r_callV h (fun l => c_X10_isWork l _ _ _ _ hw) q1350 q1352 q42 q64 q1353 nd_X10_isWork ⟨by decide, by decide⟩ rfl rfl ⟨by decide, by decide⟩ kci11 rfl h1 rfl (by first | decide | exact nl rfl) rfl dX10_separation_3 nxk (kI fun r2 S3 hw => ?_)
  refine r_if_eq h 21 dX10_separation_6 (by decide) (fun hc => ?_) (fun hc => ?_)
  · replace hw := hw.1 hc
    exact L21 _ _ _ _ _ hw
  · replace hw := hw.2 hc
    refine r_aload_n h 0 rfl rfl dX10_separation_9 ?_
    refine r_iload_n h 2 rfl rfl dX10_separation_10 ?_
    obtain ⟨h17, hw⟩ := hw
    refine r_callV h (fun l => c_X10_isWork l _ _ _ _ hw) q1350 q1352 q42 q64 q1353 nd_X10_isWork ⟨by decide, by decide⟩ rfl rfl ⟨by decide, by decide⟩ kci11 rfl h17 rfl (by first | decide | exact nl rfl) rfl dX10_separation_11 nxk (kI fun r18 S19 hw => ?_)
    refine r_if_eq h 21 dX10_separation_14 (by decide) (fun hc => ?_) (fun hc => ?_)
    · replace hw := hw.1 hc
      exact L21 _ _ _ _ _ hw
    · replace hw := hw.2 hc
      refine r_iconst h (v := 1) (by decide) dX10_separation_17 ?_
      refine r_goto h 22 dX10_separation_18 (by decide) ?_
      exact L22 _ _ _ _ _ _ hw

def w_X10_canHang (S : St) (a0 : Nat) (x1 : Int32) (x2 : Int32) (f : Int32 → St → Prop) : Prop := ok S a0 11 ∧ w_X10_isWork S a0 x1 (fun (r2 : Int32) (S3 : St) => (((r2 = 0) → ok S3 a0 11 ∧ w_X10_checked S3 a0 0 (fun (r6 : Int32) (S7 : St) => (((¬ r6 = 0) → f 0 S7) ∧ ((r6 = 0) → ok S7 a0 11 ∧ w_X10_hangsWhere S7 a0 x1 x2 (fun (r10 : Int32) (S11 : St) => (((r10 = 0) → f 0 S11) ∧ ((¬ r10 = 0) → f 1 S11))))))) ∧ ((¬ r2 = 0) → ok S3 a0 11 ∧ w_X10_isRoom S3 a0 x2 (fun (r14 : Int32) (S15 : St) => (((r14 = 0) → ok S15 a0 11 ∧ w_X10_checked S15 a0 0 (fun (r18 : Int32) (S19 : St) => (((¬ r18 = 0) → f 0 S19) ∧ ((r18 = 0) → ok S19 a0 11 ∧ w_X10_hangsWhere S19 a0 x1 x2 (fun (r22 : Int32) (S23 : St) => (((r22 = 0) → f 0 S23) ∧ ((¬ r22 = 0) → f 1 S23))))))) ∧ ((¬ r14 = 0) → ok S15 a0 11 ∧ w_X10_checked S15 a0 1 (fun (r26 : Int32) (S27 : St) => (((¬ r26 = 0) → f 0 S27) ∧ ((r26 = 0) → ok S27 a0 11 ∧ w_X10_hangsWhere S27 a0 x1 x2 (fun (r30 : Int32) (S31 : St) => (((r30 = 0) → f 0 S31) ∧ ((¬ r30 = 0) → f 1 S31))))))))))))
set_option maxRecDepth 100000 in
set_option maxHeartbeats 4000000 in
theorem c_X10_canHang (l : Launch) (S : St) (a0 : Nat) (x1 : Int32) (x2 : Int32) (f : Int32 → St → Prop) (hw : w_X10_canHang S a0 x1 x2 f) : Ct l yX10_canHang (Cond.code yX10_canHang cX10_canHang 3 (some .boolean)) { frames := 2, cells := 0, slots := 0, locals := 44 } 0 0 S [.ref a0, .int x1, .int x2] (pI f) nox := by
  refine entry (by decide +kernel) rfl rfl (by first | decide | exact nl rfl) rfl ?_
  intro X h hq
  unfold w_X10_canHang at hw
  refine r_aload_n h 0 rfl rfl dX10_canHang_0 ?_
  refine r_aload_n h 0 rfl rfl dX10_canHang_1 ?_
  refine r_iload_n h 1 rfl rfl dX10_canHang_2 ?_
  obtain ⟨h1, hw⟩ := hw
  refine r_callV h (fun l => c_X10_isWork l _ _ _ _ hw) q1350 q1352 q42 q64 q1353 nd_X10_isWork ⟨by decide, by decide⟩ rfl rfl ⟨by decide, by decide⟩ kci11 rfl h1 rfl (by first | decide | exact nl rfl) rfl dX10_canHang_3 nxk (kI fun r2 S3 hw => ?_)
  refine r_if_eq h 21 dX10_canHang_6 (by decide) (fun hc => ?_) (fun hc => ?_)
  · replace hw := hw.1 hc
    refine r_iconst h (v := 0) (by decide) dX10_canHang_21 ?_
    obtain ⟨h5, hw⟩ := hw
    refine r_callV h (fun l => c_X10_checked l _ _ _ _ hw) q1378 q1380 q46 q64 q1381 nd_X10_checked ⟨by decide, by decide⟩ rfl rfl ⟨by decide, by decide⟩ kci11 rfl h5 rfl (by first | decide | exact nl rfl) rfl dX10_canHang_22 nxk (kI fun r6 S7 hw => ?_)
    refine r_if_ne h 41 dX10_canHang_25 (by decide) (fun hc => ?_) (fun hc => ?_)
    · replace hw := hw.1 hc
      refine r_iconst h (v := 0) (by decide) dX10_canHang_41 ?_
      exact r_zret h hq (ty := .boolean) rfl rfl ⟨_, rfl, hw⟩ (by decide) (by decide) dX10_canHang_42
    · replace hw := hw.2 hc
      refine r_aload_n h 0 rfl rfl dX10_canHang_28 ?_
      refine r_iload_n h 1 rfl rfl dX10_canHang_29 ?_
      refine r_iload_n h 2 rfl rfl dX10_canHang_30 ?_
      obtain ⟨h9, hw⟩ := hw
      refine r_callV h (fun l => c_X10_hangsWhere l _ _ _ _ _ hw) q1303 q1305 q35 q64 q1306 nd_X10_hangsWhere ⟨by decide, by decide⟩ rfl rfl ⟨by decide, by decide⟩ kci11 rfl h9 rfl (by first | decide | exact nl rfl) rfl dX10_canHang_31 nxk (kI fun r10 S11 hw => ?_)
      refine r_if_eq h 41 dX10_canHang_34 (by decide) (fun hc => ?_) (fun hc => ?_)
      · replace hw := hw.1 hc
        refine r_iconst h (v := 0) (by decide) dX10_canHang_41 ?_
        exact r_zret h hq (ty := .boolean) rfl rfl ⟨_, rfl, hw⟩ (by decide) (by decide) dX10_canHang_42
      · replace hw := hw.2 hc
        refine r_iconst h (v := 1) (by decide) dX10_canHang_37 ?_
        refine r_goto h 42 dX10_canHang_38 (by decide) ?_
        exact r_zret h hq (ty := .boolean) rfl rfl ⟨_, rfl, hw⟩ (by decide) (by decide) dX10_canHang_42
  · replace hw := hw.2 hc
    refine r_aload_n h 0 rfl rfl dX10_canHang_9 ?_
    refine r_iload_n h 2 rfl rfl dX10_canHang_10 ?_
    obtain ⟨h13, hw⟩ := hw
    refine r_callV h (fun l => c_X10_isRoom l _ _ _ _ hw) q1330 q1332 q40 q64 q1333 nd_X10_isRoom ⟨by decide, by decide⟩ rfl rfl ⟨by decide, by decide⟩ kci11 rfl h13 rfl (by first | decide | exact nl rfl) rfl dX10_canHang_11 nxk (kI fun r14 S15 hw => ?_)
    refine r_if_eq h 21 dX10_canHang_14 (by decide) (fun hc => ?_) (fun hc => ?_)
    · replace hw := hw.1 hc
      refine r_iconst h (v := 0) (by decide) dX10_canHang_21 ?_
      obtain ⟨h17, hw⟩ := hw
      refine r_callV h (fun l => c_X10_checked l _ _ _ _ hw) q1378 q1380 q46 q64 q1381 nd_X10_checked ⟨by decide, by decide⟩ rfl rfl ⟨by decide, by decide⟩ kci11 rfl h17 rfl (by first | decide | exact nl rfl) rfl dX10_canHang_22 nxk (kI fun r18 S19 hw => ?_)
      refine r_if_ne h 41 dX10_canHang_25 (by decide) (fun hc => ?_) (fun hc => ?_)
      · replace hw := hw.1 hc
        refine r_iconst h (v := 0) (by decide) dX10_canHang_41 ?_
        exact r_zret h hq (ty := .boolean) rfl rfl ⟨_, rfl, hw⟩ (by decide) (by decide) dX10_canHang_42
      · replace hw := hw.2 hc
        refine r_aload_n h 0 rfl rfl dX10_canHang_28 ?_
        refine r_iload_n h 1 rfl rfl dX10_canHang_29 ?_
        refine r_iload_n h 2 rfl rfl dX10_canHang_30 ?_
        obtain ⟨h21, hw⟩ := hw
        refine r_callV h (fun l => c_X10_hangsWhere l _ _ _ _ _ hw) q1303 q1305 q35 q64 q1306 nd_X10_hangsWhere ⟨by decide, by decide⟩ rfl rfl ⟨by decide, by decide⟩ kci11 rfl h21 rfl (by first | decide | exact nl rfl) rfl dX10_canHang_31 nxk (kI fun r22 S23 hw => ?_)
        refine r_if_eq h 41 dX10_canHang_34 (by decide) (fun hc => ?_) (fun hc => ?_)
        · replace hw := hw.1 hc
          refine r_iconst h (v := 0) (by decide) dX10_canHang_41 ?_
          exact r_zret h hq (ty := .boolean) rfl rfl ⟨_, rfl, hw⟩ (by decide) (by decide) dX10_canHang_42
        · replace hw := hw.2 hc
          refine r_iconst h (v := 1) (by decide) dX10_canHang_37 ?_
          refine r_goto h 42 dX10_canHang_38 (by decide) ?_
          exact r_zret h hq (ty := .boolean) rfl rfl ⟨_, rfl, hw⟩ (by decide) (by decide) dX10_canHang_42
    · replace hw := hw.2 hc
      refine r_iconst h (v := 1) (by decide) dX10_canHang_17 ?_
      refine r_goto h 22 dX10_canHang_18 (by decide) ?_
      obtain ⟨h25, hw⟩ := hw
      refine r_callV h (fun l => c_X10_checked l _ _ _ _ hw) q1378 q1380 q46 q64 q1381 nd_X10_checked ⟨by decide, by decide⟩ rfl rfl ⟨by decide, by decide⟩ kci11 rfl h25 rfl (by first | decide | exact nl rfl) rfl dX10_canHang_22 nxk (kI fun r26 S27 hw => ?_)
      refine r_if_ne h 41 dX10_canHang_25 (by decide) (fun hc => ?_) (fun hc => ?_)
      · replace hw := hw.1 hc
        refine r_iconst h (v := 0) (by decide) dX10_canHang_41 ?_
        exact r_zret h hq (ty := .boolean) rfl rfl ⟨_, rfl, hw⟩ (by decide) (by decide) dX10_canHang_42
      · replace hw := hw.2 hc
        refine r_aload_n h 0 rfl rfl dX10_canHang_28 ?_
        refine r_iload_n h 1 rfl rfl dX10_canHang_29 ?_
        refine r_iload_n h 2 rfl rfl dX10_canHang_30 ?_
        obtain ⟨h29, hw⟩ := hw
        refine r_callV h (fun l => c_X10_hangsWhere l _ _ _ _ _ hw) q1303 q1305 q35 q64 q1306 nd_X10_hangsWhere ⟨by decide, by decide⟩ rfl rfl ⟨by decide, by decide⟩ kci11 rfl h29 rfl (by first | decide | exact nl rfl) rfl dX10_canHang_31 nxk (kI fun r30 S31 hw => ?_)
        refine r_if_eq h 41 dX10_canHang_34 (by decide) (fun hc => ?_) (fun hc => ?_)
        · replace hw := hw.1 hc
          refine r_iconst h (v := 0) (by decide) dX10_canHang_41 ?_
          exact r_zret h hq (ty := .boolean) rfl rfl ⟨_, rfl, hw⟩ (by decide) (by decide) dX10_canHang_42
        · replace hw := hw.2 hc
          refine r_iconst h (v := 1) (by decide) dX10_canHang_37 ?_
          refine r_goto h 42 dX10_canHang_38 (by decide) ?_
          exact r_zret h hq (ty := .boolean) rfl rfl ⟨_, rfl, hw⟩ (by decide) (by decide) dX10_canHang_42

def wj_X10_addExhibition_49 (f : Int32 → St → Prop) (S : St) (a0 : Nat) (x1 : Int32) (x2 : Int32) (x3 : Int32) (t0 : Int32) (t1 : Nat) : Prop := ok S t1 11 ∧ let S7 : St := setI S t1 23 t0; ok S7 a0 11 ∧ ((((sI S7 a0 23) ≤ 0) → ∃ b9 : Nat, sP S7 a0 13 = some b9 ∧ ok S7 b9 101 ∧ vp_in (sI S7 a0 27) (sN S7 b9) ∧ let S13 : St := setI S7 b9 (Int32.toNatClampNeg (sI S7 a0 27)) x1; ∃ b14 : Nat, sP S13 a0 14 = some b14 ∧ ok S13 b14 101 ∧ vp_in (sI S13 a0 27) (sN S13 b14) ∧ let S18 : St := setI S13 b14 (Int32.toNatClampNeg (sI S13 a0 27)) x2; ∃ b19 : Nat, sP S18 a0 15 = some b19 ∧ ok S18 b19 101 ∧ vp_in (sI S18 a0 27) (sN S18 b19) ∧ let S23 : St := setI S18 b19 (Int32.toNatClampNeg (sI S18 a0 27)) x3; ∃ b24 : Nat, sP S23 a0 16 = some b24 ∧ ok S23 b24 101 ∧ vp_in (sI S23 a0 27) (sN S23 b24) ∧ let S28 : St := setI S23 b24 (Int32.toNatClampNeg (sI S23 a0 27)) 100; let S29 : St := setI S28 a0 27 ((sI S28 a0 27) + 1); f ((sI S29 a0 27) - 1) S29) ∧ ((¬ (sI S7 a0 23) ≤ 0) → f 0 S7))
def wj_X10_addExhibition_31 (f : Int32 → St → Prop) (S : St) (a0 : Nat) (x1 : Int32) (x2 : Int32) (x3 : Int32) (t0 : Nat) : Prop := wj_X10_addExhibition_49 f S a0 x1 x2 x3 1 t0
def w_X10_addExhibition (S : St) (a0 : Nat) (x1 : Int32) (x2 : Int32) (x3 : Int32) (f : Int32 → St → Prop) : Prop := w_X10_in S x1 0 99 (fun (r1 : Int32) (S2 : St) => (((r1 = 0) → wj_X10_addExhibition_31 f S2 a0 x1 x2 x3 a0) ∧ ((¬ r1 = 0) → w_X10_in S2 x2 x1 99 (fun (r30 : Int32) (S31 : St) => (((r30 = 0) → wj_X10_addExhibition_31 f S31 a0 x1 x2 x3 a0) ∧ ((¬ r30 = 0) → w_X10_in S31 x3 0 50 (fun (r33 : Int32) (S34 : St) => (((¬ r33 = 0) → ok S34 a0 11 ∧ (((¬ (sI S34 a0 27) = 8) → wj_X10_addExhibition_49 f S34 a0 x1 x2 x3 0 a0) ∧ (((sI S34 a0 27) = 8) → wj_X10_addExhibition_49 f S34 a0 x1 x2 x3 2 a0))) ∧ ((r33 = 0) → wj_X10_addExhibition_31 f S34 a0 x1 x2 x3 a0)))))))))
set_option maxRecDepth 100000 in
set_option maxHeartbeats 4000000 in
theorem c_X10_addExhibition (l : Launch) (S : St) (a0 : Nat) (x1 : Int32) (x2 : Int32) (x3 : Int32) (f : Int32 → St → Prop) (hw : w_X10_addExhibition S a0 x1 x2 x3 f) : Ct l yX10_addExhibition (Cond.code yX10_addExhibition cX10_addExhibition 4 (some .int)) { frames := 1, cells := 0, slots := 0, locals := 22 } 0 0 S [.ref a0, .int x1, .int x2, .int x3] (pI f) nox := by
  refine entry (by decide +kernel) rfl rfl (by first | decide | exact nl rfl) rfl ?_
  intro X h hq
  have L49 : ∀ (S : St) (a0 : Nat) (x1 : Int32) (x2 : Int32) (x3 : Int32) (t0 : Int32) (t1 : Nat), wj_X10_addExhibition_49 f S a0 x1 x2 x3 t0 t1 → pw X 0 0 S 49 [(0, .ref a0), (1, .int x1), (2, .int x2), (3, .int x3)] [.int t0, .ref t1] := by
    intro S a0 x1 x2 x3 t0 t1 hw
    unfold wj_X10_addExhibition_49 at hw
    obtain ⟨h6, hw⟩ := hw
    refine r_puti h kci11 in11 tyX10_ok nmX10 (k := 23) (by decide) rfl rfl rfl rfl rfl rfl q1195 h6 dX10_addExhibition_49 ?_
    refine r_aload_n h 0 rfl rfl dX10_addExhibition_52 ?_
    obtain ⟨h8, hw⟩ := hw
    refine r_geti h kci11 in11 (k := 23) (by decide) rfl rfl q1195 h8 dX10_addExhibition_53 ?_
    refine r_if_le h 61 dX10_addExhibition_56 (by decide) (fun hc => ?_) (fun hc => ?_)
    · replace hw := hw.1 hc
      refine r_aload_n h 0 rfl rfl dX10_addExhibition_61 ?_
      obtain ⟨b9, h10, hw⟩ := hw
      refine r_getr h kci11 in11 (k := 13) (by decide) rfl rfl q1185 h8 h10 dX10_addExhibition_62 ?_
      refine r_aload_n h 0 rfl rfl dX10_addExhibition_65 ?_
      refine r_geti h kci11 in11 (k := 27) (by decide) rfl rfl q1199 h8 dX10_addExhibition_66 ?_
      refine r_iload_n h 1 rfl rfl dX10_addExhibition_69 ?_
      obtain ⟨h11, hw⟩ := hw
      obtain ⟨h12, hw⟩ := hw
      refine r_iast h h11 h12 dX10_addExhibition_70 ?_
      refine r_aload_n h 0 rfl rfl dX10_addExhibition_71 ?_
      obtain ⟨b14, h15, hw⟩ := hw
      refine r_getr h kci11 in11 (k := 14) (by decide) rfl rfl q1186 h8 h15 dX10_addExhibition_72 ?_
      refine r_aload_n h 0 rfl rfl dX10_addExhibition_75 ?_
      refine r_geti h kci11 in11 (k := 27) (by decide) rfl rfl q1199 h8 dX10_addExhibition_76 ?_
      refine r_iload_n h 2 rfl rfl dX10_addExhibition_79 ?_
      obtain ⟨h16, hw⟩ := hw
      obtain ⟨h17, hw⟩ := hw
      refine r_iast h h16 h17 dX10_addExhibition_80 ?_
      refine r_aload_n h 0 rfl rfl dX10_addExhibition_81 ?_
      obtain ⟨b19, h20, hw⟩ := hw
      refine r_getr h kci11 in11 (k := 15) (by decide) rfl rfl q1187 h8 h20 dX10_addExhibition_82 ?_
      refine r_aload_n h 0 rfl rfl dX10_addExhibition_85 ?_
      refine r_geti h kci11 in11 (k := 27) (by decide) rfl rfl q1199 h8 dX10_addExhibition_86 ?_
      refine r_iload_n h 3 rfl rfl dX10_addExhibition_89 ?_
      obtain ⟨h21, hw⟩ := hw
      obtain ⟨h22, hw⟩ := hw
      refine r_iast h h21 h22 dX10_addExhibition_90 ?_
      refine r_aload_n h 0 rfl rfl dX10_addExhibition_91 ?_
      obtain ⟨b24, h25, hw⟩ := hw
      refine r_getr h kci11 in11 (k := 16) (by decide) rfl rfl q1188 h8 h25 dX10_addExhibition_92 ?_
      refine r_aload_n h 0 rfl rfl dX10_addExhibition_95 ?_
      refine r_geti h kci11 in11 (k := 27) (by decide) rfl rfl q1199 h8 dX10_addExhibition_96 ?_
      refine r_bipush h (v := 100) (by decide) dX10_addExhibition_99 ?_
      obtain ⟨h26, hw⟩ := hw
      obtain ⟨h27, hw⟩ := hw
      refine r_iast h h26 h27 dX10_addExhibition_101 ?_
      refine r_aload_n h 0 rfl rfl dX10_addExhibition_102 ?_
      refine r_dup h rfl dX10_addExhibition_103 ?_
      refine r_geti h kci11 in11 (k := 27) (by decide) rfl rfl q1199 h8 dX10_addExhibition_104 ?_
      refine r_iconst h (v := 1) (by decide) dX10_addExhibition_107 ?_
      refine r_iadd h dX10_addExhibition_108 ?_
      refine r_puti h kci11 in11 tyX10_ok nmX10 (k := 27) (by decide) rfl rfl rfl rfl rfl rfl q1199 h8 dX10_addExhibition_109 ?_
      refine r_aload_n h 0 rfl rfl dX10_addExhibition_112 ?_
      refine r_geti h kci11 in11 (k := 27) (by decide) rfl rfl q1199 h8 dX10_addExhibition_113 ?_
      refine r_iconst h (v := 1) (by decide) dX10_addExhibition_116 ?_
      refine r_isub h dX10_addExhibition_117 ?_
      exact r_iret h hq rfl ⟨_, rfl, hw⟩ (by decide) (by decide) dX10_addExhibition_118
    · replace hw := hw.2 hc
      refine r_iconst h (v := 0) (by decide) dX10_addExhibition_59 ?_
      exact r_iret h hq rfl ⟨_, rfl, hw⟩ (by decide) (by decide) dX10_addExhibition_60
  have L31 : ∀ (S : St) (a0 : Nat) (x1 : Int32) (x2 : Int32) (x3 : Int32) (t0 : Nat), wj_X10_addExhibition_31 f S a0 x1 x2 x3 t0 → pw X 0 0 S 31 [(0, .ref a0), (1, .int x1), (2, .int x2), (3, .int x3)] [.ref t0] := by
    intro S a0 x1 x2 x3 t0 hw
    unfold wj_X10_addExhibition_31 at hw
    refine r_iconst h (v := 1) (by decide) dX10_addExhibition_31 ?_
    refine r_goto h 49 dX10_addExhibition_32 (by decide) ?_
    exact L49 _ _ _ _ _ _ _ hw
  unfold w_X10_addExhibition at hw
  refine r_aload_n h 0 rfl rfl dX10_addExhibition_0 ?_
  refine r_iload_n h 1 rfl rfl dX10_addExhibition_1 ?_
  refine r_iconst h (v := 0) (by decide) dX10_addExhibition_2 ?_
  refine r_bipush h (v := 99) (by decide) dX10_addExhibition_3 ?_
  refine r_callS h (fun l => c_X10_in l _ _ _ _ _ hw) q1268 q1269 q64 q1270 nd_X10_in ⟨by decide, by decide⟩ rfl rfl ⟨by decide, by decide⟩ (as := [.int x1, .int 0, .int 99]) rfl (by first | decide | exact nl rfl) rfl dX10_addExhibition_5 nxk (kI fun r1 S2 hw => ?_)
  refine r_if_eq h 31 dX10_addExhibition_8 (by decide) (fun hc => ?_) (fun hc => ?_)
  · replace hw := hw.1 hc
    exact L31 _ _ _ _ _ _ hw
  · replace hw := hw.2 hc
    refine r_iload_n h 2 rfl rfl dX10_addExhibition_11 ?_
    refine r_iload_n h 1 rfl rfl dX10_addExhibition_12 ?_
    refine r_bipush h (v := 99) (by decide) dX10_addExhibition_13 ?_
    refine r_callS h (fun l => c_X10_in l _ _ _ _ _ hw) q1268 q1269 q64 q1270 nd_X10_in ⟨by decide, by decide⟩ rfl rfl ⟨by decide, by decide⟩ (as := [.int x2, .int x1, .int 99]) rfl (by first | decide | exact nl rfl) rfl dX10_addExhibition_15 nxk (kI fun r30 S31 hw => ?_)
    refine r_if_eq h 31 dX10_addExhibition_18 (by decide) (fun hc => ?_) (fun hc => ?_)
    · replace hw := hw.1 hc
      exact L31 _ _ _ _ _ _ hw
    · replace hw := hw.2 hc
      refine r_iload_n h 3 rfl rfl dX10_addExhibition_21 ?_
      refine r_iconst h (v := 0) (by decide) dX10_addExhibition_22 ?_
      refine r_bipush h (v := 50) (by decide) dX10_addExhibition_23 ?_
      refine r_callS h (fun l => c_X10_in l _ _ _ _ _ hw) q1268 q1269 q64 q1270 nd_X10_in ⟨by decide, by decide⟩ rfl rfl ⟨by decide, by decide⟩ (as := [.int x3, .int 0, .int 50]) rfl (by first | decide | exact nl rfl) rfl dX10_addExhibition_25 nxk (kI fun r33 S34 hw => ?_)
      refine r_if_ne h 35 dX10_addExhibition_28 (by decide) (fun hc => ?_) (fun hc => ?_)
      · replace hw := hw.1 hc
        refine r_aload_n h 0 rfl rfl dX10_addExhibition_35 ?_
        obtain ⟨h36, hw⟩ := hw
        refine r_geti h kci11 in11 (k := 27) (by decide) rfl rfl q1199 h36 dX10_addExhibition_36 ?_
        refine r_bipush h (v := 8) (by decide) dX10_addExhibition_39 ?_
        refine r_icmp_ne h 48 dX10_addExhibition_41 (by decide) (fun hc => ?_) (fun hc => ?_)
        · replace hw := hw.1 hc
          refine r_iconst h (v := 0) (by decide) dX10_addExhibition_48 ?_
          exact L49 _ _ _ _ _ _ _ hw
        · replace hw := hw.2 hc
          refine r_iconst h (v := 2) (by decide) dX10_addExhibition_44 ?_
          refine r_goto h 49 dX10_addExhibition_45 (by decide) ?_
          exact L49 _ _ _ _ _ _ _ hw
      · replace hw := hw.2 hc
        exact L31 _ _ _ _ _ _ hw

def wj_X10_include_60 (f : Int32 → St → Prop) (S : St) (a0 : Nat) (x1 : Int32) (x2 : Int32) (t0 : Int32) (t1 : Nat) : Prop := ok S t1 11 ∧ let S17 : St := setI S t1 23 t0; ok S17 a0 11 ∧ ((((sI S17 a0 23) ≤ 0) → ∃ b19 : Nat, sP S17 a0 18 = some b19 ∧ ∃ b21 : Nat, sP S17 a0 17 = some b21 ∧ ok S17 b21 101 ∧ vp_in x1 (sN S17 b21) ∧ ok S17 b19 101 ∧ vp_in ((5 * x1) + (sI S17 b21 (Int32.toNatClampNeg x1))) (sN S17 b19) ∧ let S27 : St := setI S17 b19 (Int32.toNatClampNeg ((5 * x1) + (sI S17 b21 (Int32.toNatClampNeg x1)))) x2; let S28 : St := setI S27 b21 (Int32.toNatClampNeg x1) ((sI S27 b21 (Int32.toNatClampNeg x1)) + 1); f (sI S28 b21 (Int32.toNatClampNeg x1)) S28) ∧ ((¬ (sI S17 a0 23) ≤ 0) → f 0 S17))
def wj_X10_include_55 (f : Int32 → St → Prop) (S : St) (a0 : Nat) (x1 : Int32) (x2 : Int32) (t0 : Nat) : Prop := wj_X10_include_60 f S a0 x1 x2 3 t0
def w_X10_include (S : St) (a0 : Nat) (x1 : Int32) (x2 : Int32) (f : Int32 → St → Prop) : Prop := ok S a0 11 ∧ w_X10_isExhibition S a0 x1 (fun (r2 : Int32) (S3 : St) => (((¬ r2 = 0) → ok S3 a0 11 ∧ w_X10_isWork S3 a0 x2 (fun (r6 : Int32) (S7 : St) => (((¬ r6 = 0) → ok S7 a0 11 ∧ ∃ b10 : Nat, sP S7 a0 16 = some b10 ∧ ok S7 b10 101 ∧ vp_in x1 (sN S7 b10) ∧ (((¬ (sI S7 b10 (Int32.toNatClampNeg x1)) = 100) → wj_X10_include_55 f S7 a0 x1 x2 a0) ∧ (((sI S7 b10 (Int32.toNatClampNeg x1)) = 100) → ∃ b29 : Nat, sP S7 a0 17 = some b29 ∧ ok S7 b29 101 ∧ vp_in x1 (sN S7 b29) ∧ ((((sI S7 b29 (Int32.toNatClampNeg x1)) = 5) → wj_X10_include_55 f S7 a0 x1 x2 a0) ∧ ((¬ (sI S7 b29 (Int32.toNatClampNeg x1)) = 5) → w_X10_includes S7 a0 x1 x2 (fun (r33 : Int32) (S34 : St) => (((r33 = 0) → wj_X10_include_60 f S34 a0 x1 x2 0 a0) ∧ ((¬ r33 = 0) → wj_X10_include_55 f S34 a0 x1 x2 a0)))))))) ∧ ((r6 = 0) → wj_X10_include_60 f S7 a0 x1 x2 2 a0)))) ∧ ((r2 = 0) → wj_X10_include_60 f S3 a0 x1 x2 1 a0)))
set_option maxRecDepth 100000 in
set_option maxHeartbeats 4000000 in
theorem c_X10_include (l : Launch) (S : St) (a0 : Nat) (x1 : Int32) (x2 : Int32) (f : Int32 → St → Prop) (hw : w_X10_include S a0 x1 x2 f) : Ct l yX10_include (Cond.code yX10_include cX10_include 3 (some .int)) { frames := 2, cells := 0, slots := 0, locals := 43 } 0 0 S [.ref a0, .int x1, .int x2] (pI f) nox := by
  refine entry (by decide +kernel) rfl rfl (by first | decide | exact nl rfl) rfl ?_
  intro X h hq
  have L60 : ∀ (S : St) (a0 : Nat) (x1 : Int32) (x2 : Int32) (t0 : Int32) (t1 : Nat), wj_X10_include_60 f S a0 x1 x2 t0 t1 → pw X 0 0 S 60 [(0, .ref a0), (1, .int x1), (2, .int x2)] [.int t0, .ref t1] := by
    intro S a0 x1 x2 t0 t1 hw
    unfold wj_X10_include_60 at hw
    obtain ⟨h16, hw⟩ := hw
    refine r_puti h kci11 in11 tyX10_ok nmX10 (k := 23) (by decide) rfl rfl rfl rfl rfl rfl q1195 h16 dX10_include_60 ?_
    refine r_aload_n h 0 rfl rfl dX10_include_63 ?_
    obtain ⟨h18, hw⟩ := hw
    refine r_geti h kci11 in11 (k := 23) (by decide) rfl rfl q1195 h18 dX10_include_64 ?_
    refine r_if_le h 72 dX10_include_67 (by decide) (fun hc => ?_) (fun hc => ?_)
    · replace hw := hw.1 hc
      refine r_aload_n h 0 rfl rfl dX10_include_72 ?_
      obtain ⟨b19, h20, hw⟩ := hw
      refine r_getr h kci11 in11 (k := 18) (by decide) rfl rfl q1190 h18 h20 dX10_include_73 ?_
      refine r_iconst h (v := 5) (by decide) dX10_include_76 ?_
      refine r_iload_n h 1 rfl rfl dX10_include_77 ?_
      refine r_imul h dX10_include_78 ?_
      refine r_aload_n h 0 rfl rfl dX10_include_79 ?_
      obtain ⟨b21, h22, hw⟩ := hw
      refine r_getr h kci11 in11 (k := 17) (by decide) rfl rfl q1189 h18 h22 dX10_include_80 ?_
      refine r_iload_n h 1 rfl rfl dX10_include_83 ?_
      obtain ⟨h23, hw⟩ := hw
      obtain ⟨h24, hw⟩ := hw
      refine r_iald h h23 h24 dX10_include_84 ?_
      refine r_iadd h dX10_include_85 ?_
      refine r_iload_n h 2 rfl rfl dX10_include_86 ?_
      obtain ⟨h25, hw⟩ := hw
      obtain ⟨h26, hw⟩ := hw
      refine r_iast h h25 h26 dX10_include_87 ?_
      refine r_aload_n h 0 rfl rfl dX10_include_88 ?_
      refine r_getr h kci11 in11 (k := 17) (by decide) rfl rfl q1189 h18 h22 dX10_include_89 ?_
      refine r_iload_n h 1 rfl rfl dX10_include_92 ?_
      refine r_dup2 h rfl rfl dX10_include_93 ?_
      refine r_iald h h23 h24 dX10_include_94 ?_
      refine r_iconst h (v := 1) (by decide) dX10_include_95 ?_
      refine r_iadd h dX10_include_96 ?_
      refine r_iast h h23 h24 dX10_include_97 ?_
      refine r_aload_n h 0 rfl rfl dX10_include_98 ?_
      refine r_getr h kci11 in11 (k := 17) (by decide) rfl rfl q1189 h18 h22 dX10_include_99 ?_
      refine r_iload_n h 1 rfl rfl dX10_include_102 ?_
      refine r_iald h h23 h24 dX10_include_103 ?_
      exact r_iret h hq rfl ⟨_, rfl, hw⟩ (by decide) (by decide) dX10_include_104
    · replace hw := hw.2 hc
      refine r_iconst h (v := 0) (by decide) dX10_include_70 ?_
      exact r_iret h hq rfl ⟨_, rfl, hw⟩ (by decide) (by decide) dX10_include_71
  have L55 : ∀ (S : St) (a0 : Nat) (x1 : Int32) (x2 : Int32) (t0 : Nat), wj_X10_include_55 f S a0 x1 x2 t0 → pw X 0 0 S 55 [(0, .ref a0), (1, .int x1), (2, .int x2)] [.ref t0] := by
    intro S a0 x1 x2 t0 hw
    unfold wj_X10_include_55 at hw
    refine r_iconst h (v := 3) (by decide) dX10_include_55 ?_
    refine r_goto h 60 dX10_include_56 (by decide) ?_
    exact L60 _ _ _ _ _ _ hw
  unfold w_X10_include at hw
  refine r_aload_n h 0 rfl rfl dX10_include_0 ?_
  refine r_aload_n h 0 rfl rfl dX10_include_1 ?_
  refine r_iload_n h 1 rfl rfl dX10_include_2 ?_
  obtain ⟨h1, hw⟩ := hw
  refine r_callV h (fun l => c_X10_isExhibition l _ _ _ _ hw) q1394 q1396 q47 q64 q1397 nd_X10_isExhibition ⟨by decide, by decide⟩ rfl rfl ⟨by decide, by decide⟩ kci11 rfl h1 rfl (by first | decide | exact nl rfl) rfl dX10_include_3 nxk (kI fun r2 S3 hw => ?_)
  refine r_if_ne h 13 dX10_include_6 (by decide) (fun hc => ?_) (fun hc => ?_)
  · replace hw := hw.1 hc
    refine r_aload_n h 0 rfl rfl dX10_include_13 ?_
    refine r_iload_n h 2 rfl rfl dX10_include_14 ?_
    obtain ⟨h5, hw⟩ := hw
    refine r_callV h (fun l => c_X10_isWork l _ _ _ _ hw) q1350 q1352 q42 q64 q1353 nd_X10_isWork ⟨by decide, by decide⟩ rfl rfl ⟨by decide, by decide⟩ kci11 rfl h5 rfl (by first | decide | exact nl rfl) rfl dX10_include_15 nxk (kI fun r6 S7 hw => ?_)
    refine r_if_ne h 25 dX10_include_18 (by decide) (fun hc => ?_) (fun hc => ?_)
    · replace hw := hw.1 hc
      refine r_aload_n h 0 rfl rfl dX10_include_25 ?_
      obtain ⟨h9, hw⟩ := hw
      obtain ⟨b10, h11, hw⟩ := hw
      refine r_getr h kci11 in11 (k := 16) (by decide) rfl rfl q1188 h9 h11 dX10_include_26 ?_
      refine r_iload_n h 1 rfl rfl dX10_include_29 ?_
      obtain ⟨h12, hw⟩ := hw
      obtain ⟨h13, hw⟩ := hw
      refine r_iald h h12 h13 dX10_include_30 ?_
      refine r_bipush h (v := 100) (by decide) dX10_include_31 ?_
      refine r_icmp_ne h 55 dX10_include_33 (by decide) (fun hc => ?_) (fun hc => ?_)
      · replace hw := hw.1 hc
        exact L55 _ _ _ _ _ hw
      · replace hw := hw.2 hc
        refine r_aload_n h 0 rfl rfl dX10_include_36 ?_
        obtain ⟨b29, h30, hw⟩ := hw
        refine r_getr h kci11 in11 (k := 17) (by decide) rfl rfl q1189 h9 h30 dX10_include_37 ?_
        refine r_iload_n h 1 rfl rfl dX10_include_40 ?_
        obtain ⟨h31, hw⟩ := hw
        obtain ⟨h32, hw⟩ := hw
        refine r_iald h h31 h32 dX10_include_41 ?_
        refine r_iconst h (v := 5) (by decide) dX10_include_42 ?_
        refine r_icmp_eq h 55 dX10_include_43 (by decide) (fun hc => ?_) (fun hc => ?_)
        · replace hw := hw.1 hc
          exact L55 _ _ _ _ _ hw
        · replace hw := hw.2 hc
          refine r_aload_n h 0 rfl rfl dX10_include_46 ?_
          refine r_iload_n h 1 rfl rfl dX10_include_47 ?_
          refine r_iload_n h 2 rfl rfl dX10_include_48 ?_
          refine r_callV h (fun l => c_X10_includes l _ _ _ _ _ hw) q1295 q1297 q33 q64 q1298 nd_X10_includes ⟨by decide, by decide⟩ rfl rfl ⟨by decide, by decide⟩ kci11 rfl h9 rfl (by first | decide | exact nl rfl) rfl dX10_include_49 nxk (kI fun r33 S34 hw => ?_)
          refine r_if_eq h 59 dX10_include_52 (by decide) (fun hc => ?_) (fun hc => ?_)
          · replace hw := hw.1 hc
            refine r_iconst h (v := 0) (by decide) dX10_include_59 ?_
            exact L60 _ _ _ _ _ _ hw
          · replace hw := hw.2 hc
            exact L55 _ _ _ _ _ hw
    · replace hw := hw.2 hc
      refine r_iconst h (v := 2) (by decide) dX10_include_21 ?_
      refine r_goto h 60 dX10_include_22 (by decide) ?_
      exact L60 _ _ _ _ _ _ hw
  · replace hw := hw.2 hc
    refine r_iconst h (v := 1) (by decide) dX10_include_9 ?_
    refine r_goto h 60 dX10_include_10 (by decide) ?_
    exact L60 _ _ _ _ _ _ hw

def wj_X10_request_42 (f : Int32 → St → Prop) (S : St) (a0 : Nat) (x1 : Int32) (t0 : Int32) (t1 : Nat) : Prop := ok S t1 11 ∧ let S16 : St := setI S t1 23 t0; ok S16 a0 11 ∧ ((((sI S16 a0 23) ≤ 0) → ∃ b18 : Nat, sP S16 a0 16 = some b18 ∧ ok S16 b18 101 ∧ vp_in x1 (sN S16 b18) ∧ let S22 : St := setI S16 b18 (Int32.toNatClampNeg x1) 119; w_X10_settles S22 a0 x1 (fun (r23 : Int32) (S24 : St) => (((r23 = 0) → f 119 S24) ∧ ((¬ r23 = 0) → f 112 S24)))) ∧ ((¬ (sI S16 a0 23) ≤ 0) → f 97 S16))
def w_X10_request (S : St) (a0 : Nat) (x1 : Int32) (f : Int32 → St → Prop) : Prop := ok S a0 11 ∧ w_X10_isExhibition S a0 x1 (fun (r2 : Int32) (S3 : St) => (((¬ r2 = 0) → ok S3 a0 11 ∧ ∃ b6 : Nat, sP S3 a0 16 = some b6 ∧ ok S3 b6 101 ∧ vp_in x1 (sN S3 b6) ∧ ((((sI S3 b6 (Int32.toNatClampNeg x1)) = 100) → ∃ b10 : Nat, sP S3 a0 17 = some b10 ∧ ok S3 b10 101 ∧ vp_in x1 (sN S3 b10) ∧ (((¬ (sI S3 b10 (Int32.toNatClampNeg x1)) = 0) → wj_X10_request_42 f S3 a0 x1 0 a0) ∧ (((sI S3 b10 (Int32.toNatClampNeg x1)) = 0) → wj_X10_request_42 f S3 a0 x1 3 a0))) ∧ ((¬ (sI S3 b6 (Int32.toNatClampNeg x1)) = 100) → wj_X10_request_42 f S3 a0 x1 2 a0))) ∧ ((r2 = 0) → wj_X10_request_42 f S3 a0 x1 1 a0)))
set_option maxRecDepth 100000 in
set_option maxHeartbeats 4000000 in
theorem c_X10_request (l : Launch) (S : St) (a0 : Nat) (x1 : Int32) (f : Int32 → St → Prop) (hw : w_X10_request S a0 x1 f) : Ct l yX10_request (Cond.code yX10_request cX10_request 2 (some .char)) { frames := 6, cells := 0, slots := 0, locals := 142 } 0 0 S [.ref a0, .int x1] (pI f) nox := by
  refine entry (by decide +kernel) rfl rfl (by first | decide | exact nl rfl) rfl ?_
  intro X h hq
  have L42 : ∀ (S : St) (a0 : Nat) (x1 : Int32) (t0 : Int32) (t1 : Nat), wj_X10_request_42 f S a0 x1 t0 t1 → pw X 0 0 S 42 [(0, .ref a0), (1, .int x1)] [.int t0, .ref t1] := by
    intro S a0 x1 t0 t1 hw
    unfold wj_X10_request_42 at hw
    obtain ⟨h15, hw⟩ := hw
    refine r_puti h kci11 in11 tyX10_ok nmX10 (k := 23) (by decide) rfl rfl rfl rfl rfl rfl q1195 h15 dX10_request_42 ?_
    refine r_aload_n h 0 rfl rfl dX10_request_45 ?_
    obtain ⟨h17, hw⟩ := hw
    refine r_geti h kci11 in11 (k := 23) (by decide) rfl rfl q1195 h17 dX10_request_46 ?_
    refine r_if_le h 55 dX10_request_49 (by decide) (fun hc => ?_) (fun hc => ?_)
    · replace hw := hw.1 hc
      refine r_aload_n h 0 rfl rfl dX10_request_55 ?_
      obtain ⟨b18, h19, hw⟩ := hw
      refine r_getr h kci11 in11 (k := 16) (by decide) rfl rfl q1188 h17 h19 dX10_request_56 ?_
      refine r_iload_n h 1 rfl rfl dX10_request_59 ?_
      refine r_bipush h (v := 119) (by decide) dX10_request_60 ?_
      obtain ⟨h20, hw⟩ := hw
      obtain ⟨h21, hw⟩ := hw
      refine r_iast h h20 h21 dX10_request_62 ?_
      refine r_aload_n h 0 rfl rfl dX10_request_63 ?_
      refine r_iload_n h 1 rfl rfl dX10_request_64 ?_
      refine r_callV h (fun l => c_X10_settles l _ _ _ _ hw) q1275 q1277 q28 q64 q1278 nd_X10_settles ⟨by decide, by decide⟩ rfl rfl ⟨by decide, by decide⟩ kci11 rfl h17 rfl (by first | decide | exact nl rfl) rfl dX10_request_65 nxk (kI fun r23 S24 hw => ?_)
      refine r_if_eq h 76 dX10_request_68 (by decide) (fun hc => ?_) (fun hc => ?_)
      · replace hw := hw.1 hc
        refine r_bipush h (v := 119) (by decide) dX10_request_76 ?_
        exact r_zret h hq (ty := .char) rfl rfl ⟨_, rfl, hw⟩ (by decide) (by decide) dX10_request_78
      · replace hw := hw.2 hc
        refine r_bipush h (v := 112) (by decide) dX10_request_71 ?_
        refine r_goto h 78 dX10_request_73 (by decide) ?_
        exact r_zret h hq (ty := .char) rfl rfl ⟨_, rfl, hw⟩ (by decide) (by decide) dX10_request_78
    · replace hw := hw.2 hc
      refine r_bipush h (v := 97) (by decide) dX10_request_52 ?_
      exact r_zret h hq (ty := .char) rfl rfl ⟨_, rfl, hw⟩ (by decide) (by decide) dX10_request_54
  unfold w_X10_request at hw
  refine r_aload_n h 0 rfl rfl dX10_request_0 ?_
  refine r_aload_n h 0 rfl rfl dX10_request_1 ?_
  refine r_iload_n h 1 rfl rfl dX10_request_2 ?_
  obtain ⟨h1, hw⟩ := hw
  refine r_callV h (fun l => c_X10_isExhibition l _ _ _ _ hw) q1394 q1396 q47 q64 q1397 nd_X10_isExhibition ⟨by decide, by decide⟩ rfl rfl ⟨by decide, by decide⟩ kci11 rfl h1 rfl (by first | decide | exact nl rfl) rfl dX10_request_3 nxk (kI fun r2 S3 hw => ?_)
  refine r_if_ne h 13 dX10_request_6 (by decide) (fun hc => ?_) (fun hc => ?_)
  · replace hw := hw.1 hc
    refine r_aload_n h 0 rfl rfl dX10_request_13 ?_
    obtain ⟨h5, hw⟩ := hw
    obtain ⟨b6, h7, hw⟩ := hw
    refine r_getr h kci11 in11 (k := 16) (by decide) rfl rfl q1188 h5 h7 dX10_request_14 ?_
    refine r_iload_n h 1 rfl rfl dX10_request_17 ?_
    obtain ⟨h8, hw⟩ := hw
    obtain ⟨h9, hw⟩ := hw
    refine r_iald h h8 h9 dX10_request_18 ?_
    refine r_bipush h (v := 100) (by decide) dX10_request_19 ?_
    refine r_icmp_eq h 28 dX10_request_21 (by decide) (fun hc => ?_) (fun hc => ?_)
    · replace hw := hw.1 hc
      refine r_aload_n h 0 rfl rfl dX10_request_28 ?_
      obtain ⟨b10, h11, hw⟩ := hw
      refine r_getr h kci11 in11 (k := 17) (by decide) rfl rfl q1189 h5 h11 dX10_request_29 ?_
      refine r_iload_n h 1 rfl rfl dX10_request_32 ?_
      obtain ⟨h12, hw⟩ := hw
      obtain ⟨h13, hw⟩ := hw
      refine r_iald h h12 h13 dX10_request_33 ?_
      refine r_if_ne h 41 dX10_request_34 (by decide) (fun hc => ?_) (fun hc => ?_)
      · replace hw := hw.1 hc
        refine r_iconst h (v := 0) (by decide) dX10_request_41 ?_
        exact L42 _ _ _ _ _ hw
      · replace hw := hw.2 hc
        refine r_iconst h (v := 3) (by decide) dX10_request_37 ?_
        refine r_goto h 42 dX10_request_38 (by decide) ?_
        exact L42 _ _ _ _ _ hw
    · replace hw := hw.2 hc
      refine r_iconst h (v := 2) (by decide) dX10_request_24 ?_
      refine r_goto h 42 dX10_request_25 (by decide) ?_
      exact L42 _ _ _ _ _ hw
  · replace hw := hw.2 hc
    refine r_iconst h (v := 1) (by decide) dX10_request_9 ?_
    refine r_goto h 42 dX10_request_10 (by decide) ?_
    exact L42 _ _ _ _ _ hw

def wj_X10_cancel_29 (f : Int32 → St → Prop) (S : St) (a0 : Nat) (x1 : Int32) (t0 : Int32) (t1 : Nat) : Prop := ok S t1 11 ∧ let S12 : St := setI S t1 23 t0; ok S12 a0 11 ∧ ((((sI S12 a0 23) ≤ 0) → ∃ b14 : Nat, sP S12 a0 16 = some b14 ∧ ok S12 b14 101 ∧ vp_in x1 (sN S12 b14) ∧ let S18 : St := setI S12 b14 (Int32.toNatClampNeg x1) 99; w_X10_looks S18 a0 (fun (r19 : Int32) (S20 : St) => f r19 S20)) ∧ ((¬ (sI S12 a0 23) ≤ 0) → f 0 S12))
def w_X10_cancel (S : St) (a0 : Nat) (x1 : Int32) (f : Int32 → St → Prop) : Prop := ok S a0 11 ∧ w_X10_isExhibition S a0 x1 (fun (r2 : Int32) (S3 : St) => (((¬ r2 = 0) → ok S3 a0 11 ∧ ∃ b6 : Nat, sP S3 a0 16 = some b6 ∧ ok S3 b6 101 ∧ vp_in x1 (sN S3 b6) ∧ (((¬ (sI S3 b6 (Int32.toNatClampNeg x1)) = 99) → wj_X10_cancel_29 f S3 a0 x1 0 a0) ∧ (((sI S3 b6 (Int32.toNatClampNeg x1)) = 99) → wj_X10_cancel_29 f S3 a0 x1 2 a0))) ∧ ((r2 = 0) → wj_X10_cancel_29 f S3 a0 x1 1 a0)))
set_option maxRecDepth 100000 in
set_option maxHeartbeats 4000000 in
theorem c_X10_cancel (l : Launch) (S : St) (a0 : Nat) (x1 : Int32) (f : Int32 → St → Prop) (hw : w_X10_cancel S a0 x1 f) : Ct l yX10_cancel (Cond.code yX10_cancel cX10_cancel 2 (some .int)) { frames := 7, cells := 0, slots := 0, locals := 164 } 0 0 S [.ref a0, .int x1] (pI f) nox := by
  refine entry (by decide +kernel) rfl rfl (by first | decide | exact nl rfl) rfl ?_
  intro X h hq
  have L29 : ∀ (S : St) (a0 : Nat) (x1 : Int32) (t0 : Int32) (t1 : Nat), wj_X10_cancel_29 f S a0 x1 t0 t1 → pw X 0 0 S 29 [(0, .ref a0), (1, .int x1)] [.int t0, .ref t1] := by
    intro S a0 x1 t0 t1 hw
    unfold wj_X10_cancel_29 at hw
    obtain ⟨h11, hw⟩ := hw
    refine r_puti h kci11 in11 tyX10_ok nmX10 (k := 23) (by decide) rfl rfl rfl rfl rfl rfl q1195 h11 dX10_cancel_29 ?_
    refine r_aload_n h 0 rfl rfl dX10_cancel_32 ?_
    obtain ⟨h13, hw⟩ := hw
    refine r_geti h kci11 in11 (k := 23) (by decide) rfl rfl q1195 h13 dX10_cancel_33 ?_
    refine r_if_le h 41 dX10_cancel_36 (by decide) (fun hc => ?_) (fun hc => ?_)
    · replace hw := hw.1 hc
      refine r_aload_n h 0 rfl rfl dX10_cancel_41 ?_
      obtain ⟨b14, h15, hw⟩ := hw
      refine r_getr h kci11 in11 (k := 16) (by decide) rfl rfl q1188 h13 h15 dX10_cancel_42 ?_
      refine r_iload_n h 1 rfl rfl dX10_cancel_45 ?_
      refine r_bipush h (v := 99) (by decide) dX10_cancel_46 ?_
      obtain ⟨h16, hw⟩ := hw
      obtain ⟨h17, hw⟩ := hw
      refine r_iast h h16 h17 dX10_cancel_48 ?_
      refine r_aload_n h 0 rfl rfl dX10_cancel_49 ?_
      refine r_callV h (fun l => c_X10_looks l _ _ _ hw) q1271 q1273 q27 q64 q1274 nd_X10_looks ⟨by decide, by decide⟩ rfl rfl ⟨by decide, by decide⟩ kci11 rfl h13 rfl (by first | decide | exact nl rfl) rfl dX10_cancel_50 nxk (kI fun r19 S20 hw => ?_)
      exact r_iret h hq rfl ⟨_, rfl, hw⟩ (by decide) (by decide) dX10_cancel_53
    · replace hw := hw.2 hc
      refine r_iconst h (v := 0) (by decide) dX10_cancel_39 ?_
      exact r_iret h hq rfl ⟨_, rfl, hw⟩ (by decide) (by decide) dX10_cancel_40
  unfold w_X10_cancel at hw
  refine r_aload_n h 0 rfl rfl dX10_cancel_0 ?_
  refine r_aload_n h 0 rfl rfl dX10_cancel_1 ?_
  refine r_iload_n h 1 rfl rfl dX10_cancel_2 ?_
  obtain ⟨h1, hw⟩ := hw
  refine r_callV h (fun l => c_X10_isExhibition l _ _ _ _ hw) q1394 q1396 q47 q64 q1397 nd_X10_isExhibition ⟨by decide, by decide⟩ rfl rfl ⟨by decide, by decide⟩ kci11 rfl h1 rfl (by first | decide | exact nl rfl) rfl dX10_cancel_3 nxk (kI fun r2 S3 hw => ?_)
  refine r_if_ne h 13 dX10_cancel_6 (by decide) (fun hc => ?_) (fun hc => ?_)
  · replace hw := hw.1 hc
    refine r_aload_n h 0 rfl rfl dX10_cancel_13 ?_
    obtain ⟨h5, hw⟩ := hw
    obtain ⟨b6, h7, hw⟩ := hw
    refine r_getr h kci11 in11 (k := 16) (by decide) rfl rfl q1188 h5 h7 dX10_cancel_14 ?_
    refine r_iload_n h 1 rfl rfl dX10_cancel_17 ?_
    obtain ⟨h8, hw⟩ := hw
    obtain ⟨h9, hw⟩ := hw
    refine r_iald h h8 h9 dX10_cancel_18 ?_
    refine r_bipush h (v := 99) (by decide) dX10_cancel_19 ?_
    refine r_icmp_ne h 28 dX10_cancel_21 (by decide) (fun hc => ?_) (fun hc => ?_)
    · replace hw := hw.1 hc
      refine r_iconst h (v := 0) (by decide) dX10_cancel_28 ?_
      exact L29 _ _ _ _ _ hw
    · replace hw := hw.2 hc
      refine r_iconst h (v := 2) (by decide) dX10_cancel_24 ?_
      refine r_goto h 29 dX10_cancel_25 (by decide) ?_
      exact L29 _ _ _ _ _ hw
  · replace hw := hw.2 hc
    refine r_iconst h (v := 1) (by decide) dX10_cancel_9 ?_
    refine r_goto h 29 dX10_cancel_10 (by decide) ?_
    exact L29 _ _ _ _ _ hw

def w_X10_stateOf (S : St) (a0 : Nat) (x1 : Int32) (f : Int32 → St → Prop) : Prop := ok S a0 11 ∧ w_X10_isExhibition S a0 x1 (fun (r2 : Int32) (S3 : St) => ok S3 a0 11 ∧ w_X10_checked S3 a0 r2 (fun (r6 : Int32) (S7 : St) => (((r6 ≤ 0) → ok S7 a0 11 ∧ ∃ b10 : Nat, sP S7 a0 16 = some b10 ∧ ok S7 b10 101 ∧ vp_in x1 (sN S7 b10) ∧ narrow .char (.int (cof (sI S7 b10 (Int32.toNatClampNeg x1)))) = .int (cof (sI S7 b10 (Int32.toNatClampNeg x1))) ∧ f (cof (sI S7 b10 (Int32.toNatClampNeg x1))) S7) ∧ ((¬ r6 ≤ 0) → f 97 S7))))
set_option maxRecDepth 100000 in
set_option maxHeartbeats 4000000 in
theorem c_X10_stateOf (l : Launch) (S : St) (a0 : Nat) (x1 : Int32) (f : Int32 → St → Prop) (hw : w_X10_stateOf S a0 x1 f) : Ct l yX10_stateOf (Cond.code yX10_stateOf cX10_stateOf 2 (some .char)) { frames := 2, cells := 0, slots := 0, locals := 43 } 0 0 S [.ref a0, .int x1] (pI f) nox := by
  refine entry (by decide +kernel) rfl rfl (by first | decide | exact nl rfl) rfl ?_
  intro X h hq
  unfold w_X10_stateOf at hw
  refine r_aload_n h 0 rfl rfl dX10_stateOf_0 ?_
  refine r_aload_n h 0 rfl rfl dX10_stateOf_1 ?_
  refine r_iload_n h 1 rfl rfl dX10_stateOf_2 ?_
  obtain ⟨h1, hw⟩ := hw
  refine r_callV h (fun l => c_X10_isExhibition l _ _ _ _ hw) q1394 q1396 q47 q64 q1397 nd_X10_isExhibition ⟨by decide, by decide⟩ rfl rfl ⟨by decide, by decide⟩ kci11 rfl h1 rfl (by first | decide | exact nl rfl) rfl dX10_stateOf_3 nxk (kI fun r2 S3 hw => ?_)
  obtain ⟨h5, hw⟩ := hw
  refine r_callV h (fun l => c_X10_checked l _ _ _ _ hw) q1378 q1380 q46 q64 q1381 nd_X10_checked ⟨by decide, by decide⟩ rfl rfl ⟨by decide, by decide⟩ kci11 rfl h5 rfl (by first | decide | exact nl rfl) rfl dX10_stateOf_6 nxk (kI fun r6 S7 hw => ?_)
  refine r_if_le h 17 dX10_stateOf_9 (by decide) (fun hc => ?_) (fun hc => ?_)
  · replace hw := hw.1 hc
    refine r_aload_n h 0 rfl rfl dX10_stateOf_17 ?_
    obtain ⟨h9, hw⟩ := hw
    obtain ⟨b10, h11, hw⟩ := hw
    refine r_getr h kci11 in11 (k := 16) (by decide) rfl rfl q1188 h9 h11 dX10_stateOf_18 ?_
    refine r_iload_n h 1 rfl rfl dX10_stateOf_21 ?_
    obtain ⟨h12, hw⟩ := hw
    obtain ⟨h13, hw⟩ := hw
    refine r_iald h h12 h13 dX10_stateOf_22 ?_
    refine r_i2c h dX10_stateOf_23 ?_
    obtain ⟨h14, hw⟩ := hw
    exact r_zret h hq (ty := .char) rfl h14 ⟨_, rfl, hw⟩ (by decide) (by decide) dX10_stateOf_24
  · replace hw := hw.2 hc
    refine r_bipush h (v := 97) (by decide) dX10_stateOf_12 ?_
    refine r_goto h 24 dX10_stateOf_14 (by decide) ?_
    exact r_zret h hq (ty := .char) rfl rfl ⟨_, rfl, hw⟩ (by decide) (by decide) dX10_stateOf_24

def w_X10_worksOf (S : St) (a0 : Nat) (x1 : Int32) (f : Int32 → St → Prop) : Prop := ok S a0 11 ∧ w_X10_isExhibition S a0 x1 (fun (r2 : Int32) (S3 : St) => ok S3 a0 11 ∧ w_X10_checked S3 a0 r2 (fun (r6 : Int32) (S7 : St) => (((r6 ≤ 0) → ok S7 a0 11 ∧ ∃ b10 : Nat, sP S7 a0 17 = some b10 ∧ ok S7 b10 101 ∧ vp_in x1 (sN S7 b10) ∧ f (sI S7 b10 (Int32.toNatClampNeg x1)) S7) ∧ ((¬ r6 ≤ 0) → f 0 S7))))
set_option maxRecDepth 100000 in
set_option maxHeartbeats 4000000 in
theorem c_X10_worksOf (l : Launch) (S : St) (a0 : Nat) (x1 : Int32) (f : Int32 → St → Prop) (hw : w_X10_worksOf S a0 x1 f) : Ct l yX10_worksOf (Cond.code yX10_worksOf cX10_worksOf 2 (some .int)) { frames := 2, cells := 0, slots := 0, locals := 43 } 0 0 S [.ref a0, .int x1] (pI f) nox := by
  refine entry (by decide +kernel) rfl rfl (by first | decide | exact nl rfl) rfl ?_
  intro X h hq
  unfold w_X10_worksOf at hw
  refine r_aload_n h 0 rfl rfl dX10_worksOf_0 ?_
  refine r_aload_n h 0 rfl rfl dX10_worksOf_1 ?_
  refine r_iload_n h 1 rfl rfl dX10_worksOf_2 ?_
  obtain ⟨h1, hw⟩ := hw
  refine r_callV h (fun l => c_X10_isExhibition l _ _ _ _ hw) q1394 q1396 q47 q64 q1397 nd_X10_isExhibition ⟨by decide, by decide⟩ rfl rfl ⟨by decide, by decide⟩ kci11 rfl h1 rfl (by first | decide | exact nl rfl) rfl dX10_worksOf_3 nxk (kI fun r2 S3 hw => ?_)
  obtain ⟨h5, hw⟩ := hw
  refine r_callV h (fun l => c_X10_checked l _ _ _ _ hw) q1378 q1380 q46 q64 q1381 nd_X10_checked ⟨by decide, by decide⟩ rfl rfl ⟨by decide, by decide⟩ kci11 rfl h5 rfl (by first | decide | exact nl rfl) rfl dX10_worksOf_6 nxk (kI fun r6 S7 hw => ?_)
  refine r_if_le h 16 dX10_worksOf_9 (by decide) (fun hc => ?_) (fun hc => ?_)
  · replace hw := hw.1 hc
    refine r_aload_n h 0 rfl rfl dX10_worksOf_16 ?_
    obtain ⟨h9, hw⟩ := hw
    obtain ⟨b10, h11, hw⟩ := hw
    refine r_getr h kci11 in11 (k := 17) (by decide) rfl rfl q1189 h9 h11 dX10_worksOf_17 ?_
    refine r_iload_n h 1 rfl rfl dX10_worksOf_20 ?_
    obtain ⟨h12, hw⟩ := hw
    obtain ⟨h13, hw⟩ := hw
    refine r_iald h h12 h13 dX10_worksOf_21 ?_
    exact r_iret h hq rfl ⟨_, rfl, hw⟩ (by decide) (by decide) dX10_worksOf_22
  · replace hw := hw.2 hc
    refine r_iconst h (v := 0) (by decide) dX10_worksOf_12 ?_
    refine r_goto h 22 dX10_worksOf_13 (by decide) ?_
    exact r_iret h hq rfl ⟨_, rfl, hw⟩ (by decide) (by decide) dX10_worksOf_22

def w_X10_hasNo (S : St) (a0 : Nat) (x1 : Int32) (x2 : Int32) (f : Int32 → St → Prop) : Prop := ok S a0 11 ∧ w_X10_isExhibition S a0 x1 (fun (r2 : Int32) (S3 : St) => (((¬ r2 = 0) → ok S3 a0 11 ∧ ∃ b6 : Nat, sP S3 a0 17 = some b6 ∧ ok S3 b6 101 ∧ vp_in x1 (sN S3 b6) ∧ w_X10_in S3 x2 0 ((sI S3 b6 (Int32.toNatClampNeg x1)) - 1) (fun (r10 : Int32) (S11 : St) => (((¬ r10 = 0) → ok S11 a0 11 ∧ let S14 : St := setI S11 a0 23 0; ((((sI S14 a0 23) ≤ 0) → f 0 S14) ∧ ((¬ (sI S14 a0 23) ≤ 0) → f 1 S14))) ∧ ((r10 = 0) → ok S11 a0 11 ∧ let S16 : St := setI S11 a0 23 2; ((((sI S16 a0 23) ≤ 0) → f 0 S16) ∧ ((¬ (sI S16 a0 23) ≤ 0) → f 1 S16)))))) ∧ ((r2 = 0) → ok S3 a0 11 ∧ let S18 : St := setI S3 a0 23 1; ((((sI S18 a0 23) ≤ 0) → f 0 S18) ∧ ((¬ (sI S18 a0 23) ≤ 0) → f 1 S18)))))
set_option maxRecDepth 100000 in
set_option maxHeartbeats 4000000 in
theorem c_X10_hasNo (l : Launch) (S : St) (a0 : Nat) (x1 : Int32) (x2 : Int32) (f : Int32 → St → Prop) (hw : w_X10_hasNo S a0 x1 x2 f) : Ct l yX10_hasNo (Cond.code yX10_hasNo cX10_hasNo 3 (some .boolean)) { frames := 2, cells := 0, slots := 0, locals := 43 } 0 0 S [.ref a0, .int x1, .int x2] (pI f) nox := by
  refine entry (by decide +kernel) rfl rfl (by first | decide | exact nl rfl) rfl ?_
  intro X h hq
  unfold w_X10_hasNo at hw
  refine r_aload_n h 0 rfl rfl dX10_hasNo_0 ?_
  refine r_aload_n h 0 rfl rfl dX10_hasNo_1 ?_
  refine r_iload_n h 1 rfl rfl dX10_hasNo_2 ?_
  obtain ⟨h1, hw⟩ := hw
  refine r_callV h (fun l => c_X10_isExhibition l _ _ _ _ hw) q1394 q1396 q47 q64 q1397 nd_X10_isExhibition ⟨by decide, by decide⟩ rfl rfl ⟨by decide, by decide⟩ kci11 rfl h1 rfl (by first | decide | exact nl rfl) rfl dX10_hasNo_3 nxk (kI fun r2 S3 hw => ?_)
  refine r_if_ne h 13 dX10_hasNo_6 (by decide) (fun hc => ?_) (fun hc => ?_)
  · replace hw := hw.1 hc
    refine r_iload_n h 2 rfl rfl dX10_hasNo_13 ?_
    refine r_iconst h (v := 0) (by decide) dX10_hasNo_14 ?_
    refine r_aload_n h 0 rfl rfl dX10_hasNo_15 ?_
    obtain ⟨h5, hw⟩ := hw
    obtain ⟨b6, h7, hw⟩ := hw
    refine r_getr h kci11 in11 (k := 17) (by decide) rfl rfl q1189 h5 h7 dX10_hasNo_16 ?_
    refine r_iload_n h 1 rfl rfl dX10_hasNo_19 ?_
    obtain ⟨h8, hw⟩ := hw
    obtain ⟨h9, hw⟩ := hw
    refine r_iald h h8 h9 dX10_hasNo_20 ?_
    refine r_iconst h (v := 1) (by decide) dX10_hasNo_21 ?_
    refine r_isub h dX10_hasNo_22 ?_
    refine r_callS h (fun l => c_X10_in l _ _ _ _ _ hw) q1268 q1269 q64 q1270 nd_X10_in ⟨by decide, by decide⟩ rfl rfl ⟨by decide, by decide⟩ (as := [.int x2, .int 0, .int ((sI S3 b6 (Int32.toNatClampNeg x1)) - 1)]) rfl (by first | decide | exact nl rfl) rfl dX10_hasNo_23 nxk (kI fun r10 S11 hw => ?_)
    refine r_if_ne h 33 dX10_hasNo_26 (by decide) (fun hc => ?_) (fun hc => ?_)
    · replace hw := hw.1 hc
      refine r_iconst h (v := 0) (by decide) dX10_hasNo_33 ?_
      obtain ⟨h13, hw⟩ := hw
      refine r_puti h kci11 in11 tyX10_ok nmX10 (k := 23) (by decide) rfl rfl rfl rfl rfl rfl q1195 h13 dX10_hasNo_34 ?_
      refine r_aload_n h 0 rfl rfl dX10_hasNo_37 ?_
      refine r_geti h kci11 in11 (k := 23) (by decide) rfl rfl q1195 h13 dX10_hasNo_38 ?_
      refine r_if_le h 48 dX10_hasNo_41 (by decide) (fun hc => ?_) (fun hc => ?_)
      · replace hw := hw.1 hc
        refine r_iconst h (v := 0) (by decide) dX10_hasNo_48 ?_
        exact r_zret h hq (ty := .boolean) rfl rfl ⟨_, rfl, hw⟩ (by decide) (by decide) dX10_hasNo_49
      · replace hw := hw.2 hc
        refine r_iconst h (v := 1) (by decide) dX10_hasNo_44 ?_
        refine r_goto h 49 dX10_hasNo_45 (by decide) ?_
        exact r_zret h hq (ty := .boolean) rfl rfl ⟨_, rfl, hw⟩ (by decide) (by decide) dX10_hasNo_49
    · replace hw := hw.2 hc
      refine r_iconst h (v := 2) (by decide) dX10_hasNo_29 ?_
      refine r_goto h 34 dX10_hasNo_30 (by decide) ?_
      obtain ⟨h15, hw⟩ := hw
      refine r_puti h kci11 in11 tyX10_ok nmX10 (k := 23) (by decide) rfl rfl rfl rfl rfl rfl q1195 h15 dX10_hasNo_34 ?_
      refine r_aload_n h 0 rfl rfl dX10_hasNo_37 ?_
      refine r_geti h kci11 in11 (k := 23) (by decide) rfl rfl q1195 h15 dX10_hasNo_38 ?_
      refine r_if_le h 48 dX10_hasNo_41 (by decide) (fun hc => ?_) (fun hc => ?_)
      · replace hw := hw.1 hc
        refine r_iconst h (v := 0) (by decide) dX10_hasNo_48 ?_
        exact r_zret h hq (ty := .boolean) rfl rfl ⟨_, rfl, hw⟩ (by decide) (by decide) dX10_hasNo_49
      · replace hw := hw.2 hc
        refine r_iconst h (v := 1) (by decide) dX10_hasNo_44 ?_
        refine r_goto h 49 dX10_hasNo_45 (by decide) ?_
        exact r_zret h hq (ty := .boolean) rfl rfl ⟨_, rfl, hw⟩ (by decide) (by decide) dX10_hasNo_49
  · replace hw := hw.2 hc
    refine r_iconst h (v := 1) (by decide) dX10_hasNo_9 ?_
    refine r_goto h 34 dX10_hasNo_10 (by decide) ?_
    obtain ⟨h17, hw⟩ := hw
    refine r_puti h kci11 in11 tyX10_ok nmX10 (k := 23) (by decide) rfl rfl rfl rfl rfl rfl q1195 h17 dX10_hasNo_34 ?_
    refine r_aload_n h 0 rfl rfl dX10_hasNo_37 ?_
    refine r_geti h kci11 in11 (k := 23) (by decide) rfl rfl q1195 h17 dX10_hasNo_38 ?_
    refine r_if_le h 48 dX10_hasNo_41 (by decide) (fun hc => ?_) (fun hc => ?_)
    · replace hw := hw.1 hc
      refine r_iconst h (v := 0) (by decide) dX10_hasNo_48 ?_
      exact r_zret h hq (ty := .boolean) rfl rfl ⟨_, rfl, hw⟩ (by decide) (by decide) dX10_hasNo_49
    · replace hw := hw.2 hc
      refine r_iconst h (v := 1) (by decide) dX10_hasNo_44 ?_
      refine r_goto h 49 dX10_hasNo_45 (by decide) ?_
      exact r_zret h hq (ty := .boolean) rfl rfl ⟨_, rfl, hw⟩ (by decide) (by decide) dX10_hasNo_49

def w_X10_workOf (S : St) (a0 : Nat) (x1 : Int32) (x2 : Int32) (f : Int32 → St → Prop) : Prop := ok S a0 11 ∧ w_X10_hasNo S a0 x1 x2 (fun (r2 : Int32) (S3 : St) => (((r2 = 0) → ok S3 a0 11 ∧ ∃ b6 : Nat, sP S3 a0 18 = some b6 ∧ ok S3 b6 101 ∧ vp_in ((5 * x1) + x2) (sN S3 b6) ∧ f (sI S3 b6 (Int32.toNatClampNeg ((5 * x1) + x2))) S3) ∧ ((¬ r2 = 0) → f 0 S3)))
set_option maxRecDepth 100000 in
set_option maxHeartbeats 4000000 in
theorem c_X10_workOf (l : Launch) (S : St) (a0 : Nat) (x1 : Int32) (x2 : Int32) (f : Int32 → St → Prop) (hw : w_X10_workOf S a0 x1 x2 f) : Ct l yX10_workOf (Cond.code yX10_workOf cX10_workOf 3 (some .int)) { frames := 3, cells := 0, slots := 0, locals := 65 } 0 0 S [.ref a0, .int x1, .int x2] (pI f) nox := by
  refine entry (by decide +kernel) rfl rfl (by first | decide | exact nl rfl) rfl ?_
  intro X h hq
  unfold w_X10_workOf at hw
  refine r_aload_n h 0 rfl rfl dX10_workOf_0 ?_
  refine r_iload_n h 1 rfl rfl dX10_workOf_1 ?_
  refine r_iload_n h 2 rfl rfl dX10_workOf_2 ?_
  obtain ⟨h1, hw⟩ := hw
  refine r_callV h (fun l => c_X10_hasNo l _ _ _ _ _ hw) q1418 q1420 q48 q64 q1421 nd_X10_hasNo ⟨by decide, by decide⟩ rfl rfl ⟨by decide, by decide⟩ kci11 rfl h1 rfl (by first | decide | exact nl rfl) rfl dX10_workOf_3 nxk (kI fun r2 S3 hw => ?_)
  refine r_if_eq h 13 dX10_workOf_6 (by decide) (fun hc => ?_) (fun hc => ?_)
  · replace hw := hw.1 hc
    refine r_aload_n h 0 rfl rfl dX10_workOf_13 ?_
    obtain ⟨h5, hw⟩ := hw
    obtain ⟨b6, h7, hw⟩ := hw
    refine r_getr h kci11 in11 (k := 18) (by decide) rfl rfl q1190 h5 h7 dX10_workOf_14 ?_
    refine r_iconst h (v := 5) (by decide) dX10_workOf_17 ?_
    refine r_iload_n h 1 rfl rfl dX10_workOf_18 ?_
    refine r_imul h dX10_workOf_19 ?_
    refine r_iload_n h 2 rfl rfl dX10_workOf_20 ?_
    refine r_iadd h dX10_workOf_21 ?_
    obtain ⟨h8, hw⟩ := hw
    obtain ⟨h9, hw⟩ := hw
    refine r_iald h h8 h9 dX10_workOf_22 ?_
    exact r_iret h hq rfl ⟨_, rfl, hw⟩ (by decide) (by decide) dX10_workOf_23
  · replace hw := hw.2 hc
    refine r_iconst h (v := 0) (by decide) dX10_workOf_9 ?_
    refine r_goto h 23 dX10_workOf_10 (by decide) ?_
    exact r_iret h hq rfl ⟨_, rfl, hw⟩ (by decide) (by decide) dX10_workOf_23

def wj_X10_wallOf_28 (f : Int32 → St → Prop) (S : St) (a0 : Nat) (x1 : Int32) (x2 : Int32) (t0 : Int32) (t1 : Nat) : Prop := ok S t1 11 ∧ let S12 : St := setI S t1 23 t0; ok S12 a0 11 ∧ ((((sI S12 a0 23) ≤ 0) → ∃ b14 : Nat, sP S12 a0 19 = some b14 ∧ ok S12 b14 101 ∧ vp_in ((5 * x1) + x2) (sN S12 b14) ∧ f (sI S12 b14 (Int32.toNatClampNeg ((5 * x1) + x2))) S12) ∧ ((¬ (sI S12 a0 23) ≤ 0) → f 0 S12))
def w_X10_wallOf (S : St) (a0 : Nat) (x1 : Int32) (x2 : Int32) (f : Int32 → St → Prop) : Prop := ok S a0 11 ∧ w_X10_hasNo S a0 x1 x2 (fun (r2 : Int32) (S3 : St) => (((r2 = 0) → ok S3 a0 11 ∧ ∃ b6 : Nat, sP S3 a0 16 = some b6 ∧ ok S3 b6 101 ∧ vp_in x1 (sN S3 b6) ∧ (((¬ (sI S3 b6 (Int32.toNatClampNeg x1)) = 112) → wj_X10_wallOf_28 f S3 a0 x1 x2 3 a0) ∧ (((sI S3 b6 (Int32.toNatClampNeg x1)) = 112) → wj_X10_wallOf_28 f S3 a0 x1 x2 0 a0))) ∧ ((¬ r2 = 0) → f 0 S3)))
set_option maxRecDepth 100000 in
set_option maxHeartbeats 4000000 in
theorem c_X10_wallOf (l : Launch) (S : St) (a0 : Nat) (x1 : Int32) (x2 : Int32) (f : Int32 → St → Prop) (hw : w_X10_wallOf S a0 x1 x2 f) : Ct l yX10_wallOf (Cond.code yX10_wallOf cX10_wallOf 3 (some .int)) { frames := 3, cells := 0, slots := 0, locals := 65 } 0 0 S [.ref a0, .int x1, .int x2] (pI f) nox := by
  refine entry (by decide +kernel) rfl rfl (by first | decide | exact nl rfl) rfl ?_
  intro X h hq
  have L28 : ∀ (S : St) (a0 : Nat) (x1 : Int32) (x2 : Int32) (t0 : Int32) (t1 : Nat), wj_X10_wallOf_28 f S a0 x1 x2 t0 t1 → pw X 0 0 S 28 [(0, .ref a0), (1, .int x1), (2, .int x2)] [.int t0, .ref t1] := by
    intro S a0 x1 x2 t0 t1 hw
    unfold wj_X10_wallOf_28 at hw
    obtain ⟨h11, hw⟩ := hw
    refine r_puti h kci11 in11 tyX10_ok nmX10 (k := 23) (by decide) rfl rfl rfl rfl rfl rfl q1195 h11 dX10_wallOf_28 ?_
    refine r_aload_n h 0 rfl rfl dX10_wallOf_31 ?_
    obtain ⟨h13, hw⟩ := hw
    refine r_geti h kci11 in11 (k := 23) (by decide) rfl rfl q1195 h13 dX10_wallOf_32 ?_
    refine r_if_le h 42 dX10_wallOf_35 (by decide) (fun hc => ?_) (fun hc => ?_)
    · replace hw := hw.1 hc
      refine r_aload_n h 0 rfl rfl dX10_wallOf_42 ?_
      obtain ⟨b14, h15, hw⟩ := hw
      refine r_getr h kci11 in11 (k := 19) (by decide) rfl rfl q1191 h13 h15 dX10_wallOf_43 ?_
      refine r_iconst h (v := 5) (by decide) dX10_wallOf_46 ?_
      refine r_iload_n h 1 rfl rfl dX10_wallOf_47 ?_
      refine r_imul h dX10_wallOf_48 ?_
      refine r_iload_n h 2 rfl rfl dX10_wallOf_49 ?_
      refine r_iadd h dX10_wallOf_50 ?_
      obtain ⟨h16, hw⟩ := hw
      obtain ⟨h17, hw⟩ := hw
      refine r_iald h h16 h17 dX10_wallOf_51 ?_
      exact r_iret h hq rfl ⟨_, rfl, hw⟩ (by decide) (by decide) dX10_wallOf_52
    · replace hw := hw.2 hc
      refine r_iconst h (v := 0) (by decide) dX10_wallOf_38 ?_
      refine r_goto h 52 dX10_wallOf_39 (by decide) ?_
      exact r_iret h hq rfl ⟨_, rfl, hw⟩ (by decide) (by decide) dX10_wallOf_52
  unfold w_X10_wallOf at hw
  refine r_aload_n h 0 rfl rfl dX10_wallOf_0 ?_
  refine r_iload_n h 1 rfl rfl dX10_wallOf_1 ?_
  refine r_iload_n h 2 rfl rfl dX10_wallOf_2 ?_
  obtain ⟨h1, hw⟩ := hw
  refine r_callV h (fun l => c_X10_hasNo l _ _ _ _ _ hw) q1418 q1420 q48 q64 q1421 nd_X10_hasNo ⟨by decide, by decide⟩ rfl rfl ⟨by decide, by decide⟩ kci11 rfl h1 rfl (by first | decide | exact nl rfl) rfl dX10_wallOf_3 nxk (kI fun r2 S3 hw => ?_)
  refine r_if_eq h 11 dX10_wallOf_6 (by decide) (fun hc => ?_) (fun hc => ?_)
  · replace hw := hw.1 hc
    refine r_aload_n h 0 rfl rfl dX10_wallOf_11 ?_
    refine r_aload_n h 0 rfl rfl dX10_wallOf_12 ?_
    obtain ⟨h5, hw⟩ := hw
    obtain ⟨b6, h7, hw⟩ := hw
    refine r_getr h kci11 in11 (k := 16) (by decide) rfl rfl q1188 h5 h7 dX10_wallOf_13 ?_
    refine r_iload_n h 1 rfl rfl dX10_wallOf_16 ?_
    obtain ⟨h8, hw⟩ := hw
    obtain ⟨h9, hw⟩ := hw
    refine r_iald h h8 h9 dX10_wallOf_17 ?_
    refine r_bipush h (v := 112) (by decide) dX10_wallOf_18 ?_
    refine r_icmp_ne h 27 dX10_wallOf_20 (by decide) (fun hc => ?_) (fun hc => ?_)
    · replace hw := hw.1 hc
      refine r_iconst h (v := 3) (by decide) dX10_wallOf_27 ?_
      exact L28 _ _ _ _ _ _ hw
    · replace hw := hw.2 hc
      refine r_iconst h (v := 0) (by decide) dX10_wallOf_23 ?_
      refine r_goto h 28 dX10_wallOf_24 (by decide) ?_
      exact L28 _ _ _ _ _ _ hw
  · replace hw := hw.2 hc
    refine r_iconst h (v := 0) (by decide) dX10_wallOf_9 ?_
    exact r_iret h hq rfl ⟨_, rfl, hw⟩ (by decide) (by decide) dX10_wallOf_10

def wj_X10_canTake_28 (f : Int32 → St → Prop) (S : St) (a0 : Nat) (x1 : Int32) (x2 : Int32) (t0 : Int32) (t1 : Nat) : Prop := ok S t1 11 ∧ let S12 : St := setI S t1 23 t0; ok S12 a0 11 ∧ (((¬ (sI S12 a0 23) = 0) → f 0 S12) ∧ (((sI S12 a0 23) = 0) → ∃ b14 : Nat, sP S12 a0 18 = some b14 ∧ ok S12 b14 101 ∧ vp_in ((5 * x1) + x2) (sN S12 b14) ∧ w_X10_takes S12 a0 x1 (sI S12 b14 (Int32.toNatClampNeg ((5 * x1) + x2))) (fun (r18 : Int32) (S19 : St) => (((r18 = 0) → f 0 S19) ∧ ((¬ r18 = 0) → f 1 S19)))))
def w_X10_canTake (S : St) (a0 : Nat) (x1 : Int32) (x2 : Int32) (f : Int32 → St → Prop) : Prop := ok S a0 11 ∧ w_X10_hasNo S a0 x1 x2 (fun (r2 : Int32) (S3 : St) => (((r2 = 0) → ok S3 a0 11 ∧ ∃ b6 : Nat, sP S3 a0 16 = some b6 ∧ ok S3 b6 101 ∧ vp_in x1 (sN S3 b6) ∧ (((¬ (sI S3 b6 (Int32.toNatClampNeg x1)) = 99) → wj_X10_canTake_28 f S3 a0 x1 x2 0 a0) ∧ (((sI S3 b6 (Int32.toNatClampNeg x1)) = 99) → wj_X10_canTake_28 f S3 a0 x1 x2 3 a0))) ∧ ((¬ r2 = 0) → f 0 S3)))
set_option maxRecDepth 100000 in
set_option maxHeartbeats 4000000 in
theorem c_X10_canTake (l : Launch) (S : St) (a0 : Nat) (x1 : Int32) (x2 : Int32) (f : Int32 → St → Prop) (hw : w_X10_canTake S a0 x1 x2 f) : Ct l yX10_canTake (Cond.code yX10_canTake cX10_canTake 3 (some .boolean)) { frames := 3, cells := 0, slots := 0, locals := 70 } 0 0 S [.ref a0, .int x1, .int x2] (pI f) nox := by
  refine entry (by decide +kernel) rfl rfl (by first | decide | exact nl rfl) rfl ?_
  intro X h hq
  have L28 : ∀ (S : St) (a0 : Nat) (x1 : Int32) (x2 : Int32) (t0 : Int32) (t1 : Nat), wj_X10_canTake_28 f S a0 x1 x2 t0 t1 → pw X 0 0 S 28 [(0, .ref a0), (1, .int x1), (2, .int x2)] [.int t0, .ref t1] := by
    intro S a0 x1 x2 t0 t1 hw
    unfold wj_X10_canTake_28 at hw
    obtain ⟨h11, hw⟩ := hw
    refine r_puti h kci11 in11 tyX10_ok nmX10 (k := 23) (by decide) rfl rfl rfl rfl rfl rfl q1195 h11 dX10_canTake_28 ?_
    refine r_aload_n h 0 rfl rfl dX10_canTake_31 ?_
    obtain ⟨h13, hw⟩ := hw
    refine r_geti h kci11 in11 (k := 23) (by decide) rfl rfl q1195 h13 dX10_canTake_32 ?_
    refine r_if_ne h 60 dX10_canTake_35 (by decide) (fun hc => ?_) (fun hc => ?_)
    · replace hw := hw.1 hc
      refine r_iconst h (v := 0) (by decide) dX10_canTake_60 ?_
      exact r_zret h hq (ty := .boolean) rfl rfl ⟨_, rfl, hw⟩ (by decide) (by decide) dX10_canTake_61
    · replace hw := hw.2 hc
      refine r_aload_n h 0 rfl rfl dX10_canTake_38 ?_
      refine r_iload_n h 1 rfl rfl dX10_canTake_39 ?_
      refine r_aload_n h 0 rfl rfl dX10_canTake_40 ?_
      obtain ⟨b14, h15, hw⟩ := hw
      refine r_getr h kci11 in11 (k := 18) (by decide) rfl rfl q1190 h13 h15 dX10_canTake_41 ?_
      refine r_iconst h (v := 5) (by decide) dX10_canTake_44 ?_
      refine r_iload_n h 1 rfl rfl dX10_canTake_45 ?_
      refine r_imul h dX10_canTake_46 ?_
      refine r_iload_n h 2 rfl rfl dX10_canTake_47 ?_
      refine r_iadd h dX10_canTake_48 ?_
      obtain ⟨h16, hw⟩ := hw
      obtain ⟨h17, hw⟩ := hw
      refine r_iald h h16 h17 dX10_canTake_49 ?_
      refine r_callV h (fun l => c_X10_takes l _ _ _ _ _ hw) q1283 q1285 q30 q64 q1286 nd_X10_takes ⟨by decide, by decide⟩ rfl rfl ⟨by decide, by decide⟩ kci11 rfl h13 rfl (by first | decide | exact nl rfl) rfl dX10_canTake_50 nxk (kI fun r18 S19 hw => ?_)
      refine r_if_eq h 60 dX10_canTake_53 (by decide) (fun hc => ?_) (fun hc => ?_)
      · replace hw := hw.1 hc
        refine r_iconst h (v := 0) (by decide) dX10_canTake_60 ?_
        exact r_zret h hq (ty := .boolean) rfl rfl ⟨_, rfl, hw⟩ (by decide) (by decide) dX10_canTake_61
      · replace hw := hw.2 hc
        refine r_iconst h (v := 1) (by decide) dX10_canTake_56 ?_
        refine r_goto h 61 dX10_canTake_57 (by decide) ?_
        exact r_zret h hq (ty := .boolean) rfl rfl ⟨_, rfl, hw⟩ (by decide) (by decide) dX10_canTake_61
  unfold w_X10_canTake at hw
  refine r_aload_n h 0 rfl rfl dX10_canTake_0 ?_
  refine r_iload_n h 1 rfl rfl dX10_canTake_1 ?_
  refine r_iload_n h 2 rfl rfl dX10_canTake_2 ?_
  obtain ⟨h1, hw⟩ := hw
  refine r_callV h (fun l => c_X10_hasNo l _ _ _ _ _ hw) q1418 q1420 q48 q64 q1421 nd_X10_hasNo ⟨by decide, by decide⟩ rfl rfl ⟨by decide, by decide⟩ kci11 rfl h1 rfl (by first | decide | exact nl rfl) rfl dX10_canTake_3 nxk (kI fun r2 S3 hw => ?_)
  refine r_if_eq h 11 dX10_canTake_6 (by decide) (fun hc => ?_) (fun hc => ?_)
  · replace hw := hw.1 hc
    refine r_aload_n h 0 rfl rfl dX10_canTake_11 ?_
    refine r_aload_n h 0 rfl rfl dX10_canTake_12 ?_
    obtain ⟨h5, hw⟩ := hw
    obtain ⟨b6, h7, hw⟩ := hw
    refine r_getr h kci11 in11 (k := 16) (by decide) rfl rfl q1188 h5 h7 dX10_canTake_13 ?_
    refine r_iload_n h 1 rfl rfl dX10_canTake_16 ?_
    obtain ⟨h8, hw⟩ := hw
    obtain ⟨h9, hw⟩ := hw
    refine r_iald h h8 h9 dX10_canTake_17 ?_
    refine r_bipush h (v := 99) (by decide) dX10_canTake_18 ?_
    refine r_icmp_ne h 27 dX10_canTake_20 (by decide) (fun hc => ?_) (fun hc => ?_)
    · replace hw := hw.1 hc
      refine r_iconst h (v := 0) (by decide) dX10_canTake_27 ?_
      exact L28 _ _ _ _ _ _ hw
    · replace hw := hw.2 hc
      refine r_iconst h (v := 3) (by decide) dX10_canTake_23 ?_
      refine r_goto h 28 dX10_canTake_24 (by decide) ?_
      exact L28 _ _ _ _ _ _ hw
  · replace hw := hw.2 hc
    refine r_iconst h (v := 0) (by decide) dX10_canTake_9 ?_
    exact r_zret h hq (ty := .boolean) rfl rfl ⟨_, rfl, hw⟩ (by decide) (by decide) dX10_canTake_10

def w_X10_wallFor (S : St) (a0 : Nat) (x1 : Int32) (x2 : Int32) (f : Int32 → St → Prop) : Prop := ok S a0 11 ∧ w_X10_hasNo S a0 x1 x2 (fun (r2 : Int32) (S3 : St) => (((r2 = 0) → ok S3 a0 11 ∧ ∃ b6 : Nat, sP S3 a0 16 = some b6 ∧ ok S3 b6 101 ∧ vp_in x1 (sN S3 b6) ∧ ((((sI S3 b6 (Int32.toNatClampNeg x1)) = 112) → let S10 : St := setI S3 a0 23 3; ((((sI S10 a0 23) ≤ 0) → ∃ b11 : Nat, sP S10 a0 20 = some b11 ∧ ok S10 b11 101 ∧ vp_in x2 (sN S10 b11) ∧ f (sI S10 b11 (Int32.toNatClampNeg x2)) S10) ∧ ((¬ (sI S10 a0 23) ≤ 0) → f 0 S10))) ∧ ((¬ (sI S3 b6 (Int32.toNatClampNeg x1)) = 112) → (((¬ (sI S3 b6 (Int32.toNatClampNeg x1)) = 99) → w_X10_plans S3 a0 x1 (fun (r15 : Int32) (S16 : St) => (((¬ r15 = 0) → ok S16 a0 11 ∧ let S19 : St := setI S16 a0 23 0; ((((sI S19 a0 23) ≤ 0) → ∃ b20 : Nat, sP S19 a0 20 = some b20 ∧ ok S19 b20 101 ∧ vp_in x2 (sN S19 b20) ∧ f (sI S19 b20 (Int32.toNatClampNeg x2)) S19) ∧ ((¬ (sI S19 a0 23) ≤ 0) → f 0 S19))) ∧ ((r15 = 0) → ok S16 a0 11 ∧ let S25 : St := setI S16 a0 23 4; ((((sI S25 a0 23) ≤ 0) → ∃ b26 : Nat, sP S25 a0 20 = some b26 ∧ ok S25 b26 101 ∧ vp_in x2 (sN S25 b26) ∧ f (sI S25 b26 (Int32.toNatClampNeg x2)) S25) ∧ ((¬ (sI S25 a0 23) ≤ 0) → f 0 S25)))))) ∧ (((sI S3 b6 (Int32.toNatClampNeg x1)) = 99) → let S30 : St := setI S3 a0 23 3; ((((sI S30 a0 23) ≤ 0) → ∃ b31 : Nat, sP S30 a0 20 = some b31 ∧ ok S30 b31 101 ∧ vp_in x2 (sN S30 b31) ∧ f (sI S30 b31 (Int32.toNatClampNeg x2)) S30) ∧ ((¬ (sI S30 a0 23) ≤ 0) → f 0 S30))))))) ∧ ((¬ r2 = 0) → f 0 S3)))
set_option maxRecDepth 100000 in
set_option maxHeartbeats 4000000 in
theorem c_X10_wallFor (l : Launch) (S : St) (a0 : Nat) (x1 : Int32) (x2 : Int32) (f : Int32 → St → Prop) (hw : w_X10_wallFor S a0 x1 x2 f) : Ct l yX10_wallFor (Cond.code yX10_wallFor cX10_wallFor 3 (some .int)) { frames := 5, cells := 0, slots := 0, locals := 120 } 0 0 S [.ref a0, .int x1, .int x2] (pI f) nox := by
  refine entry (by decide +kernel) rfl rfl (by first | decide | exact nl rfl) rfl ?_
  intro X h hq
  unfold w_X10_wallFor at hw
  refine r_aload_n h 0 rfl rfl dX10_wallFor_0 ?_
  refine r_iload_n h 1 rfl rfl dX10_wallFor_1 ?_
  refine r_iload_n h 2 rfl rfl dX10_wallFor_2 ?_
  obtain ⟨h1, hw⟩ := hw
  refine r_callV h (fun l => c_X10_hasNo l _ _ _ _ _ hw) q1418 q1420 q48 q64 q1421 nd_X10_hasNo ⟨by decide, by decide⟩ rfl rfl ⟨by decide, by decide⟩ kci11 rfl h1 rfl (by first | decide | exact nl rfl) rfl dX10_wallFor_3 nxk (kI fun r2 S3 hw => ?_)
  refine r_if_eq h 11 dX10_wallFor_6 (by decide) (fun hc => ?_) (fun hc => ?_)
  · replace hw := hw.1 hc
    refine r_aload_n h 0 rfl rfl dX10_wallFor_11 ?_
    refine r_aload_n h 0 rfl rfl dX10_wallFor_12 ?_
    obtain ⟨h5, hw⟩ := hw
    obtain ⟨b6, h7, hw⟩ := hw
    refine r_getr h kci11 in11 (k := 16) (by decide) rfl rfl q1188 h5 h7 dX10_wallFor_13 ?_
    refine r_iload_n h 1 rfl rfl dX10_wallFor_16 ?_
    obtain ⟨h8, hw⟩ := hw
    obtain ⟨h9, hw⟩ := hw
    refine r_iald h h8 h9 dX10_wallFor_17 ?_
    refine r_bipush h (v := 112) (by decide) dX10_wallFor_18 ?_
    refine r_icmp_eq h 34 dX10_wallFor_20 (by decide) (fun hc => ?_) (fun hc => ?_)
    · replace hw := hw.1 hc
      refine r_iconst h (v := 3) (by decide) dX10_wallFor_34 ?_
      refine r_goto h 51 dX10_wallFor_35 (by decide) ?_
      refine r_puti h kci11 in11 tyX10_ok nmX10 (k := 23) (by decide) rfl rfl rfl rfl rfl rfl q1195 h5 dX10_wallFor_51 ?_
      refine r_aload_n h 0 rfl rfl dX10_wallFor_54 ?_
      refine r_geti h kci11 in11 (k := 23) (by decide) rfl rfl q1195 h5 dX10_wallFor_55 ?_
      refine r_if_le h 65 dX10_wallFor_58 (by decide) (fun hc => ?_) (fun hc => ?_)
      · replace hw := hw.1 hc
        refine r_aload_n h 0 rfl rfl dX10_wallFor_65 ?_
        obtain ⟨b11, h12, hw⟩ := hw
        refine r_getr h kci11 in11 (k := 20) (by decide) rfl rfl q1192 h5 h12 dX10_wallFor_66 ?_
        refine r_iload_n h 2 rfl rfl dX10_wallFor_69 ?_
        obtain ⟨h13, hw⟩ := hw
        obtain ⟨h14, hw⟩ := hw
        refine r_iald h h13 h14 dX10_wallFor_70 ?_
        exact r_iret h hq rfl ⟨_, rfl, hw⟩ (by decide) (by decide) dX10_wallFor_71
      · replace hw := hw.2 hc
        refine r_iconst h (v := 0) (by decide) dX10_wallFor_61 ?_
        refine r_goto h 71 dX10_wallFor_62 (by decide) ?_
        exact r_iret h hq rfl ⟨_, rfl, hw⟩ (by decide) (by decide) dX10_wallFor_71
    · replace hw := hw.2 hc
      refine r_aload_n h 0 rfl rfl dX10_wallFor_23 ?_
      refine r_getr h kci11 in11 (k := 16) (by decide) rfl rfl q1188 h5 h7 dX10_wallFor_24 ?_
      refine r_iload_n h 1 rfl rfl dX10_wallFor_27 ?_
      refine r_iald h h8 h9 dX10_wallFor_28 ?_
      refine r_bipush h (v := 99) (by decide) dX10_wallFor_29 ?_
      refine r_icmp_ne h 38 dX10_wallFor_31 (by decide) (fun hc => ?_) (fun hc => ?_)
      · replace hw := hw.1 hc
        refine r_aload_n h 0 rfl rfl dX10_wallFor_38 ?_
        refine r_iload_n h 1 rfl rfl dX10_wallFor_39 ?_
        refine r_callV h (fun l => c_X10_plans l _ _ _ _ hw) q1279 q1281 q29 q64 q1282 nd_X10_plans ⟨by decide, by decide⟩ rfl rfl ⟨by decide, by decide⟩ kci11 rfl h5 rfl (by first | decide | exact nl rfl) rfl dX10_wallFor_40 nxk (kI fun r15 S16 hw => ?_)
        refine r_if_ne h 50 dX10_wallFor_43 (by decide) (fun hc => ?_) (fun hc => ?_)
        · replace hw := hw.1 hc
          refine r_iconst h (v := 0) (by decide) dX10_wallFor_50 ?_
          obtain ⟨h18, hw⟩ := hw
          refine r_puti h kci11 in11 tyX10_ok nmX10 (k := 23) (by decide) rfl rfl rfl rfl rfl rfl q1195 h18 dX10_wallFor_51 ?_
          refine r_aload_n h 0 rfl rfl dX10_wallFor_54 ?_
          refine r_geti h kci11 in11 (k := 23) (by decide) rfl rfl q1195 h18 dX10_wallFor_55 ?_
          refine r_if_le h 65 dX10_wallFor_58 (by decide) (fun hc => ?_) (fun hc => ?_)
          · replace hw := hw.1 hc
            refine r_aload_n h 0 rfl rfl dX10_wallFor_65 ?_
            obtain ⟨b20, h21, hw⟩ := hw
            refine r_getr h kci11 in11 (k := 20) (by decide) rfl rfl q1192 h18 h21 dX10_wallFor_66 ?_
            refine r_iload_n h 2 rfl rfl dX10_wallFor_69 ?_
            obtain ⟨h22, hw⟩ := hw
            obtain ⟨h23, hw⟩ := hw
            refine r_iald h h22 h23 dX10_wallFor_70 ?_
            exact r_iret h hq rfl ⟨_, rfl, hw⟩ (by decide) (by decide) dX10_wallFor_71
          · replace hw := hw.2 hc
            refine r_iconst h (v := 0) (by decide) dX10_wallFor_61 ?_
            refine r_goto h 71 dX10_wallFor_62 (by decide) ?_
            exact r_iret h hq rfl ⟨_, rfl, hw⟩ (by decide) (by decide) dX10_wallFor_71
        · replace hw := hw.2 hc
          refine r_iconst h (v := 4) (by decide) dX10_wallFor_46 ?_
          refine r_goto h 51 dX10_wallFor_47 (by decide) ?_
          obtain ⟨h24, hw⟩ := hw
          refine r_puti h kci11 in11 tyX10_ok nmX10 (k := 23) (by decide) rfl rfl rfl rfl rfl rfl q1195 h24 dX10_wallFor_51 ?_
          refine r_aload_n h 0 rfl rfl dX10_wallFor_54 ?_
          refine r_geti h kci11 in11 (k := 23) (by decide) rfl rfl q1195 h24 dX10_wallFor_55 ?_
          refine r_if_le h 65 dX10_wallFor_58 (by decide) (fun hc => ?_) (fun hc => ?_)
          · replace hw := hw.1 hc
            refine r_aload_n h 0 rfl rfl dX10_wallFor_65 ?_
            obtain ⟨b26, h27, hw⟩ := hw
            refine r_getr h kci11 in11 (k := 20) (by decide) rfl rfl q1192 h24 h27 dX10_wallFor_66 ?_
            refine r_iload_n h 2 rfl rfl dX10_wallFor_69 ?_
            obtain ⟨h28, hw⟩ := hw
            obtain ⟨h29, hw⟩ := hw
            refine r_iald h h28 h29 dX10_wallFor_70 ?_
            exact r_iret h hq rfl ⟨_, rfl, hw⟩ (by decide) (by decide) dX10_wallFor_71
          · replace hw := hw.2 hc
            refine r_iconst h (v := 0) (by decide) dX10_wallFor_61 ?_
            refine r_goto h 71 dX10_wallFor_62 (by decide) ?_
            exact r_iret h hq rfl ⟨_, rfl, hw⟩ (by decide) (by decide) dX10_wallFor_71
      · replace hw := hw.2 hc
        refine r_iconst h (v := 3) (by decide) dX10_wallFor_34 ?_
        refine r_goto h 51 dX10_wallFor_35 (by decide) ?_
        refine r_puti h kci11 in11 tyX10_ok nmX10 (k := 23) (by decide) rfl rfl rfl rfl rfl rfl q1195 h5 dX10_wallFor_51 ?_
        refine r_aload_n h 0 rfl rfl dX10_wallFor_54 ?_
        refine r_geti h kci11 in11 (k := 23) (by decide) rfl rfl q1195 h5 dX10_wallFor_55 ?_
        refine r_if_le h 65 dX10_wallFor_58 (by decide) (fun hc => ?_) (fun hc => ?_)
        · replace hw := hw.1 hc
          refine r_aload_n h 0 rfl rfl dX10_wallFor_65 ?_
          obtain ⟨b31, h32, hw⟩ := hw
          refine r_getr h kci11 in11 (k := 20) (by decide) rfl rfl q1192 h5 h32 dX10_wallFor_66 ?_
          refine r_iload_n h 2 rfl rfl dX10_wallFor_69 ?_
          obtain ⟨h33, hw⟩ := hw
          obtain ⟨h34, hw⟩ := hw
          refine r_iald h h33 h34 dX10_wallFor_70 ?_
          exact r_iret h hq rfl ⟨_, rfl, hw⟩ (by decide) (by decide) dX10_wallFor_71
        · replace hw := hw.2 hc
          refine r_iconst h (v := 0) (by decide) dX10_wallFor_61 ?_
          refine r_goto h 71 dX10_wallFor_62 (by decide) ?_
          exact r_iret h hq rfl ⟨_, rfl, hw⟩ (by decide) (by decide) dX10_wallFor_71
  · replace hw := hw.2 hc
    refine r_iconst h (v := 0) (by decide) dX10_wallFor_9 ?_
    exact r_iret h hq rfl ⟨_, rfl, hw⟩ (by decide) (by decide) dX10_wallFor_10

def w_X10_wallForBySearch (S : St) (a0 : Nat) (x1 : Int32) (x2 : Int32) (f : Int32 → St → Prop) : Prop := ok S a0 11 ∧ w_X10_wallFor S a0 x1 x2 (fun (r2 : Int32) (S3 : St) => f r2 S3)
set_option maxRecDepth 100000 in
set_option maxHeartbeats 4000000 in
theorem c_X10_wallForBySearch (l : Launch) (S : St) (a0 : Nat) (x1 : Int32) (x2 : Int32) (f : Int32 → St → Prop) (hw : w_X10_wallForBySearch S a0 x1 x2 f) : Ct l yX10_wallForBySearch (Cond.code yX10_wallForBySearch cX10_wallForBySearch 3 (some .int)) { frames := 6, cells := 0, slots := 0, locals := 142 } 0 0 S [.ref a0, .int x1, .int x2] (pI f) nox := by
  refine entry (by decide +kernel) rfl rfl (by first | decide | exact nl rfl) rfl ?_
  intro X h hq
  unfold w_X10_wallForBySearch at hw
  refine r_aload_n h 0 rfl rfl dX10_wallForBySearch_0 ?_
  refine r_iload_n h 1 rfl rfl dX10_wallForBySearch_1 ?_
  refine r_iload_n h 2 rfl rfl dX10_wallForBySearch_2 ?_
  obtain ⟨h1, hw⟩ := hw
  refine r_callV h (fun l => c_X10_wallFor l _ _ _ _ _ hw) q1438 q1431 q1432 q64 q1433 nd_X10_wallFor ⟨by decide, by decide⟩ rfl rfl ⟨by decide, by decide⟩ kci11 rfl h1 rfl (by first | decide | exact nl rfl) rfl dX10_wallForBySearch_3 nxk (kI fun r2 S3 hw => ?_)
  exact r_iret h hq rfl ⟨_, rfl, hw⟩ (by decide) (by decide) dX10_wallForBySearch_6

def wl_X10_layLoads_5 (f : Int32 → St → Prop) : Nat → St → Nat → Int32 → Int32 → Int32 → Int32 → Prop
  | 0, _, _, _, _, _, _ => False
  | n + 1, S, a0, x1, x2, x3, x4 => ok S a0 11 ∧ ∃ b3 : Nat, sP S a0 17 = some b3 ∧ ok S b3 101 ∧ vp_in x1 (sN S b3) ∧ ((((sI S b3 (Int32.toNatClampNeg x1)) ≤ x4) → f x3 S) ∧ ((¬ (sI S b3 (Int32.toNatClampNeg x1)) ≤ x4) → ∃ b7 : Nat, sP S a0 11 = some b7 ∧ ∃ b9 : Nat, sP S a0 18 = some b9 ∧ ok S b9 101 ∧ vp_in ((5 * x1) + x4) (sN S b9) ∧ ok S b7 101 ∧ vp_in (sI S b9 (Int32.toNatClampNeg ((5 * x1) + x4))) (sN S b7) ∧ ((((sI S b7 (Int32.toNatClampNeg (sI S b9 (Int32.toNatClampNeg ((5 * x1) + x4))))) = x2) → ∃ b15 : Nat, sP S a0 21 = some b15 ∧ ∃ b17 : Nat, sP S a0 10 = some b17 ∧ ok S b17 101 ∧ vp_in (sI S b9 (Int32.toNatClampNeg ((5 * x1) + x4))) (sN S b17) ∧ ok S b15 101 ∧ vp_in x3 (sN S b15) ∧ let S23 : St := setI S b15 (Int32.toNatClampNeg x3) (sI S b17 (Int32.toNatClampNeg (sI S b9 (Int32.toNatClampNeg ((5 * x1) + x4))))); wl_X10_layLoads_5 f n S23 a0 x1 x2 (x3 + 1) (x4 + 1)) ∧ ((¬ (sI S b7 (Int32.toNatClampNeg (sI S b9 (Int32.toNatClampNeg ((5 * x1) + x4))))) = x2) → wl_X10_layLoads_5 f n S a0 x1 x2 x3 (x4 + 1)))))
def w_X10_layLoads (S : St) (a0 : Nat) (x1 : Int32) (x2 : Int32) (f : Int32 → St → Prop) : Prop := (∃ m : Nat, wl_X10_layLoads_5 f m S a0 x1 x2 0 0)
set_option maxRecDepth 100000 in
set_option maxHeartbeats 4000000 in
theorem c_X10_layLoads (l : Launch) (S : St) (a0 : Nat) (x1 : Int32) (x2 : Int32) (f : Int32 → St → Prop) (hw : w_X10_layLoads S a0 x1 x2 f) : Ct l yX10_layLoads (Cond.code yX10_layLoads cX10_layLoads 5 (some .int)) { frames := 0, cells := 0, slots := 0, locals := 0 } 0 0 S [.ref a0, .int x1, .int x2] (pI f) nox := by
  refine entry (by decide +kernel) rfl rfl (by first | decide | exact nl rfl) rfl ?_
  intro X h hq
  have L5 : ∀ (n : Nat) (S : St) (a0 : Nat) (x1 : Int32) (x2 : Int32) (x3 : Int32) (x4 : Int32), wl_X10_layLoads_5 f n S a0 x1 x2 x3 x4 → pw X 0 0 S 5 [(0, .ref a0), (1, .int x1), (2, .int x2), (3, .int x3), (4, .int x4)] [] := by
    intro n
    induction n with
    | zero => intro S a0 x1 x2 x3 x4 hw; exact hw.elim
    | succ n ih =>
      intro S a0 x1 x2 x3 x4 hw
      unfold wl_X10_layLoads_5 at hw
      refine r_iload h 4 rfl dX10_layLoads_5 ?_
      refine r_aload_n h 0 rfl rfl dX10_layLoads_7 ?_
      obtain ⟨h2, hw⟩ := hw
      obtain ⟨b3, h4, hw⟩ := hw
      refine r_getr h kci11 in11 (k := 17) (by decide) rfl rfl q1189 h2 h4 dX10_layLoads_8 ?_
      refine r_iload_n h 1 rfl rfl dX10_layLoads_11 ?_
      obtain ⟨h5, hw⟩ := hw
      obtain ⟨h6, hw⟩ := hw
      refine r_iald h h5 h6 dX10_layLoads_12 ?_
      refine r_icmp_ge h 70 dX10_layLoads_13 (by decide) (fun hc => ?_) (fun hc => ?_)
      · replace hw := hw.1 hc
        refine r_iload_n h 3 rfl rfl dX10_layLoads_70 ?_
        exact r_iret h hq rfl ⟨_, rfl, hw⟩ (by decide) (by decide) dX10_layLoads_71
      · replace hw := hw.2 hc
        refine r_aload_n h 0 rfl rfl dX10_layLoads_16 ?_
        obtain ⟨b7, h8, hw⟩ := hw
        refine r_getr h kci11 in11 (k := 11) (by decide) rfl rfl q1183 h2 h8 dX10_layLoads_17 ?_
        refine r_aload_n h 0 rfl rfl dX10_layLoads_20 ?_
        obtain ⟨b9, h10, hw⟩ := hw
        refine r_getr h kci11 in11 (k := 18) (by decide) rfl rfl q1190 h2 h10 dX10_layLoads_21 ?_
        refine r_iconst h (v := 5) (by decide) dX10_layLoads_24 ?_
        refine r_iload_n h 1 rfl rfl dX10_layLoads_25 ?_
        refine r_imul h dX10_layLoads_26 ?_
        refine r_iload h 4 rfl dX10_layLoads_27 ?_
        refine r_iadd h dX10_layLoads_29 ?_
        obtain ⟨h11, hw⟩ := hw
        obtain ⟨h12, hw⟩ := hw
        refine r_iald h h11 h12 dX10_layLoads_30 ?_
        obtain ⟨h13, hw⟩ := hw
        obtain ⟨h14, hw⟩ := hw
        refine r_iald h h13 h14 dX10_layLoads_31 ?_
        refine r_iload_n h 2 rfl rfl dX10_layLoads_32 ?_
        refine r_icmp_eq h 39 dX10_layLoads_33 (by decide) (fun hc => ?_) (fun hc => ?_)
        · replace hw := hw.1 hc
          refine r_aload_n h 0 rfl rfl dX10_layLoads_39 ?_
          obtain ⟨b15, h16, hw⟩ := hw
          refine r_getr h kci11 in11 (k := 21) (by decide) rfl rfl q1193 h2 h16 dX10_layLoads_40 ?_
          refine r_iload_n h 3 rfl rfl dX10_layLoads_43 ?_
          refine r_aload_n h 0 rfl rfl dX10_layLoads_44 ?_
          obtain ⟨b17, h18, hw⟩ := hw
          refine r_getr h kci11 in11 (k := 10) (by decide) rfl rfl q1182 h2 h18 dX10_layLoads_45 ?_
          refine r_aload_n h 0 rfl rfl dX10_layLoads_48 ?_
          refine r_getr h kci11 in11 (k := 18) (by decide) rfl rfl q1190 h2 h10 dX10_layLoads_49 ?_
          refine r_iconst h (v := 5) (by decide) dX10_layLoads_52 ?_
          refine r_iload_n h 1 rfl rfl dX10_layLoads_53 ?_
          refine r_imul h dX10_layLoads_54 ?_
          refine r_iload h 4 rfl dX10_layLoads_55 ?_
          refine r_iadd h dX10_layLoads_57 ?_
          refine r_iald h h11 h12 dX10_layLoads_58 ?_
          obtain ⟨h19, hw⟩ := hw
          obtain ⟨h20, hw⟩ := hw
          refine r_iald h h19 h20 dX10_layLoads_59 ?_
          obtain ⟨h21, hw⟩ := hw
          obtain ⟨h22, hw⟩ := hw
          refine r_iast h h21 h22 dX10_layLoads_60 ?_
          refine r_iinc h (j := 3) (v := (x3 + 1)) [1, 2, 3, 0, 4] rfl rfl (by decide) rfl dX10_layLoads_61 ?_
          refine r_iinc h (j := 4) (v := (x4 + 1)) [1, 2, 3, 4, 0] rfl rfl (by decide) rfl dX10_layLoads_64 ?_
          refine r_goto h 5 dX10_layLoads_67 (by decide) ?_
          exact ih _ _ _ _ _ _ hw
        · replace hw := hw.2 hc
          refine r_goto h 64 dX10_layLoads_36 (by decide) ?_
          refine r_iinc h (j := 4) (v := (x4 + 1)) [1, 2, 3, 4, 0] rfl rfl (by decide) rfl dX10_layLoads_64 ?_
          refine r_goto h 5 dX10_layLoads_67 (by decide) ?_
          exact ih _ _ _ _ _ _ hw
  unfold w_X10_layLoads at hw
  refine r_iconst h (v := 0) (by decide) dX10_layLoads_0 ?_
  refine r_istore_n h [1, 2, 3, 0] rfl (by decide) rfl dX10_layLoads_1 ?_
  refine r_iconst h (v := 0) (by decide) dX10_layLoads_2 ?_
  refine r_istore h [1, 2, 3, 4, 0] (by decide) rfl dX10_layLoads_3 ?_
  obtain ⟨m, hw⟩ := hw
  exact L5 m _ _ _ _ _ _ hw

def wl_X10_loadOf_4 (f : Int32 → St → Prop) : Nat → St → Nat → Int32 → Int32 → Int32 → Prop
  | 0, _, _, _, _, _ => False
  | n + 1, S, a0, x1, x2, x3 => (((5 ≤ x3) → f x2 S) ∧ ((¬ 5 ≤ x3) → (((¬ ((x1 >>> (x3 &&& 31)) &&& 1) = 1) → wl_X10_loadOf_4 f n S a0 x1 (x2 + 0) (x3 + 1)) ∧ ((((x1 >>> (x3 &&& 31)) &&& 1) = 1) → ok S a0 11 ∧ ∃ b3 : Nat, sP S a0 21 = some b3 ∧ ok S b3 101 ∧ vp_in x3 (sN S b3) ∧ wl_X10_loadOf_4 f n S a0 x1 (x2 + (sI S b3 (Int32.toNatClampNeg x3))) (x3 + 1)))))
def w_X10_loadOf (S : St) (a0 : Nat) (x1 : Int32) (f : Int32 → St → Prop) : Prop := (∃ m : Nat, wl_X10_loadOf_4 f m S a0 x1 0 0)
set_option maxRecDepth 100000 in
set_option maxHeartbeats 4000000 in
theorem c_X10_loadOf (l : Launch) (S : St) (a0 : Nat) (x1 : Int32) (f : Int32 → St → Prop) (hw : w_X10_loadOf S a0 x1 f) : Ct l yX10_loadOf (Cond.code yX10_loadOf cX10_loadOf 4 (some .int)) { frames := 0, cells := 0, slots := 0, locals := 0 } 0 0 S [.ref a0, .int x1] (pI f) nox := by
  refine entry (by decide +kernel) rfl rfl (by first | decide | exact nl rfl) rfl ?_
  intro X h hq
  have L4 : ∀ (n : Nat) (S : St) (a0 : Nat) (x1 : Int32) (x2 : Int32) (x3 : Int32), wl_X10_loadOf_4 f n S a0 x1 x2 x3 → pw X 0 0 S 4 [(0, .ref a0), (1, .int x1), (2, .int x2), (3, .int x3)] [] := by
    intro n
    induction n with
    | zero => intro S a0 x1 x2 x3 hw; exact hw.elim
    | succ n ih =>
      intro S a0 x1 x2 x3 hw
      unfold wl_X10_loadOf_4 at hw
      refine r_iload_n h 3 rfl rfl dX10_loadOf_4 ?_
      refine r_iconst h (v := 5) (by decide) dX10_loadOf_5 ?_
      refine r_icmp_ge h 37 dX10_loadOf_6 (by decide) (fun hc => ?_) (fun hc => ?_)
      · replace hw := hw.1 hc
        refine r_iload_n h 2 rfl rfl dX10_loadOf_37 ?_
        exact r_iret h hq rfl ⟨_, rfl, hw⟩ (by decide) (by decide) dX10_loadOf_38
      · replace hw := hw.2 hc
        refine r_iload_n h 2 rfl rfl dX10_loadOf_9 ?_
        refine r_iload_n h 1 rfl rfl dX10_loadOf_10 ?_
        refine r_iload_n h 3 rfl rfl dX10_loadOf_11 ?_
        refine r_ishr h dX10_loadOf_12 ?_
        refine r_iconst h (v := 1) (by decide) dX10_loadOf_13 ?_
        refine r_iand h dX10_loadOf_14 ?_
        refine r_iconst h (v := 1) (by decide) dX10_loadOf_15 ?_
        refine r_icmp_ne h 28 dX10_loadOf_16 (by decide) (fun hc => ?_) (fun hc => ?_)
        · replace hw := hw.1 hc
          refine r_iconst h (v := 0) (by decide) dX10_loadOf_28 ?_
          refine r_iadd h dX10_loadOf_29 ?_
          refine r_istore_n h [1, 2, 0, 3] rfl (by decide) rfl dX10_loadOf_30 ?_
          refine r_iinc h (j := 3) (v := (x3 + 1)) [1, 2, 3, 0] rfl rfl (by decide) rfl dX10_loadOf_31 ?_
          refine r_goto h 4 dX10_loadOf_34 (by decide) ?_
          exact ih _ _ _ _ _ hw
        · replace hw := hw.2 hc
          refine r_aload_n h 0 rfl rfl dX10_loadOf_19 ?_
          obtain ⟨h2, hw⟩ := hw
          obtain ⟨b3, h4, hw⟩ := hw
          refine r_getr h kci11 in11 (k := 21) (by decide) rfl rfl q1193 h2 h4 dX10_loadOf_20 ?_
          refine r_iload_n h 3 rfl rfl dX10_loadOf_23 ?_
          obtain ⟨h5, hw⟩ := hw
          obtain ⟨h6, hw⟩ := hw
          refine r_iald h h5 h6 dX10_loadOf_24 ?_
          refine r_goto h 29 dX10_loadOf_25 (by decide) ?_
          refine r_iadd h dX10_loadOf_29 ?_
          refine r_istore_n h [1, 2, 0, 3] rfl (by decide) rfl dX10_loadOf_30 ?_
          refine r_iinc h (j := 3) (v := (x3 + 1)) [1, 2, 3, 0] rfl rfl (by decide) rfl dX10_loadOf_31 ?_
          refine r_goto h 4 dX10_loadOf_34 (by decide) ?_
          exact ih _ _ _ _ _ hw
  unfold w_X10_loadOf at hw
  refine r_iconst h (v := 0) (by decide) dX10_loadOf_0 ?_
  refine r_istore_n h [1, 2, 0] rfl (by decide) rfl dX10_loadOf_1 ?_
  refine r_iconst h (v := 0) (by decide) dX10_loadOf_2 ?_
  refine r_istore_n h [1, 2, 3, 0] rfl (by decide) rfl dX10_loadOf_3 ?_
  obtain ⟨m, hw⟩ := hw
  exact L4 m _ _ _ _ _ hw

def wl_X10_leastTrips_26 (f : Int32 → St → Prop) (k9 : St → Nat → Int32 → Int32 → Int32 → Prop) : Nat → St → Nat → Int32 → Int32 → Int32 → Int32 → Prop
  | 0, _, _, _, _, _, _ => False
  | n + 1, S, a0, x1, x2, x3, x4 => (((x4 ≤ 0) → k9 S a0 x1 x2 (x3 + 1)) ∧ ((¬ x4 ≤ 0) → ok S a0 11 ∧ w_X10_loadOf S a0 x4 (fun (r21 : Int32) (S22 : St) => (((x2 < r21) → wl_X10_leastTrips_26 f k9 n S22 a0 x1 x2 x3 ((x4 - 1) &&& x3)) ∧ ((¬ x2 < r21) → ok S22 a0 11 ∧ ∃ b25 : Nat, sP S22 a0 22 = some b25 ∧ ok S22 b25 101 ∧ vp_in (x3 ^^^ x4) (sN S22 b25) ∧ vp_in x3 (sN S22 b25) ∧ ((((sI S22 b25 (Int32.toNatClampNeg x3)) ≤ ((sI S22 b25 (Int32.toNatClampNeg (x3 ^^^ x4))) + 1)) → wl_X10_leastTrips_26 f k9 n S22 a0 x1 x2 x3 ((x4 - 1) &&& x3)) ∧ ((¬ (sI S22 b25 (Int32.toNatClampNeg x3)) ≤ ((sI S22 b25 (Int32.toNatClampNeg (x3 ^^^ x4))) + 1)) → let S30 : St := setI S22 b25 (Int32.toNatClampNeg x3) ((sI S22 b25 (Int32.toNatClampNeg (x3 ^^^ x4))) + 1); wl_X10_leastTrips_26 f k9 n S30 a0 x1 x2 x3 ((x4 - 1) &&& x3))))))))
def wl_X10_leastTrips_9 (f : Int32 → St → Prop) : Nat → St → Nat → Int32 → Int32 → Int32 → Prop
  | 0, _, _, _, _, _ => False
  | n + 1, S, a0, x1, x2, x3 => ((((1 <<< (x1 &&& 31)) ≤ x3) → ok S a0 11 ∧ ∃ b9 : Nat, sP S a0 22 = some b9 ∧ ok S b9 101 ∧ vp_in ((1 <<< (x1 &&& 31)) - 1) (sN S b9) ∧ f (sI S b9 (Int32.toNatClampNeg ((1 <<< (x1 &&& 31)) - 1))) S) ∧ ((¬ (1 <<< (x1 &&& 31)) ≤ x3) → ok S a0 11 ∧ ∃ b14 : Nat, sP S a0 22 = some b14 ∧ ok S b14 101 ∧ vp_in x3 (sN S b14) ∧ let S18 : St := setI S b14 (Int32.toNatClampNeg x3) 5; (∃ m : Nat, wl_X10_leastTrips_26 f (wl_X10_leastTrips_9 f n) m S18 a0 x1 x2 x3 x3)))
def w_X10_leastTrips (S : St) (a0 : Nat) (x1 : Int32) (x2 : Int32) (f : Int32 → St → Prop) : Prop := ok S a0 11 ∧ ∃ b2 : Nat, sP S a0 22 = some b2 ∧ ok S b2 101 ∧ vp_in 0 (sN S b2) ∧ let S6 : St := setI S b2 (Int32.toNatClampNeg 0) 0; (∃ m : Nat, wl_X10_leastTrips_9 f m S6 a0 x1 x2 1)
set_option maxRecDepth 100000 in
set_option maxHeartbeats 4000000 in
theorem c_X10_leastTrips (l : Launch) (S : St) (a0 : Nat) (x1 : Int32) (x2 : Int32) (f : Int32 → St → Prop) (hw : w_X10_leastTrips S a0 x1 x2 f) : Ct l yX10_leastTrips (Cond.code yX10_leastTrips cX10_leastTrips 5 (some .int)) { frames := 1, cells := 0, slots := 0, locals := 23 } 0 0 S [.ref a0, .int x1, .int x2] (pI f) nox := by
  refine entry (by decide +kernel) rfl rfl (by first | decide | exact nl rfl) rfl ?_
  intro X h hq
  have L26 : ∀ (k9 : St → Nat → Int32 → Int32 → Int32 → Prop), (∀ (S : St) (a0 : Nat) (x1 : Int32) (x2 : Int32) (x3 : Int32), k9 S a0 x1 x2 x3 → pw X 0 0 S 9 [(0, .ref a0), (1, .int x1), (2, .int x2), (3, .int x3)] []) → ∀ (n : Nat) (S : St) (a0 : Nat) (x1 : Int32) (x2 : Int32) (x3 : Int32) (x4 : Int32), wl_X10_leastTrips_26 f k9 n S a0 x1 x2 x3 x4 → pw X 0 0 S 26 [(0, .ref a0), (1, .int x1), (2, .int x2), (3, .int x3), (4, .int x4)] [] := by
    intro k9 hk9 n
    induction n with
    | zero => intro S a0 x1 x2 x3 x4 hw; exact hw.elim
    | succ n ih =>
      intro S a0 x1 x2 x3 x4 hw
      unfold wl_X10_leastTrips_26 at hw
      refine r_iload h 4 rfl dX10_leastTrips_26 ?_
      refine r_if_le h 89 dX10_leastTrips_28 (by decide) (fun hc => ?_) (fun hc => ?_)
      · replace hw := hw.1 hc
        refine r_iinc h (j := 3) (v := (x3 + 1)) [1, 2, 3, 0, 4] rfl rfl (by decide) rfl dX10_leastTrips_89 ?_
        refine r_goto h 9 dX10_leastTrips_92 (by decide) ?_
        refine r_vs [0, 1, 2, 3] rfl ?_
        exact hk9 _ _ _ _ _ hw
      · replace hw := hw.2 hc
        refine r_aload_n h 0 rfl rfl dX10_leastTrips_31 ?_
        refine r_iload h 4 rfl dX10_leastTrips_32 ?_
        obtain ⟨h20, hw⟩ := hw
        refine r_callV h (fun l => c_X10_loadOf l _ _ _ _ hw) q1451 q1453 q51 q64 q1454 nd_X10_loadOf ⟨by decide, by decide⟩ rfl rfl ⟨by decide, by decide⟩ kci11 rfl h20 rfl (by first | decide | exact nl rfl) rfl dX10_leastTrips_34 nxk (kI fun r21 S22 hw => ?_)
        refine r_iload_n h 2 rfl rfl dX10_leastTrips_37 ?_
        refine r_icmp_gt h 78 dX10_leastTrips_38 (by decide) (fun hc => ?_) (fun hc => ?_)
        · replace hw := hw.1 hc
          refine r_iload h 4 rfl dX10_leastTrips_78 ?_
          refine r_iconst h (v := 1) (by decide) dX10_leastTrips_80 ?_
          refine r_isub h dX10_leastTrips_81 ?_
          refine r_iload_n h 3 rfl rfl dX10_leastTrips_82 ?_
          refine r_iand h dX10_leastTrips_83 ?_
          refine r_istore h [1, 2, 3, 4, 0] (by decide) rfl dX10_leastTrips_84 ?_
          refine r_goto h 26 dX10_leastTrips_86 (by decide) ?_
          exact ih _ _ _ _ _ _ hw
        · replace hw := hw.2 hc
          refine r_aload_n h 0 rfl rfl dX10_leastTrips_41 ?_
          obtain ⟨h24, hw⟩ := hw
          obtain ⟨b25, h26, hw⟩ := hw
          refine r_getr h kci11 in11 (k := 22) (by decide) rfl rfl q1194 h24 h26 dX10_leastTrips_42 ?_
          refine r_iload_n h 3 rfl rfl dX10_leastTrips_45 ?_
          refine r_iload h 4 rfl dX10_leastTrips_46 ?_
          refine r_ixor h dX10_leastTrips_48 ?_
          obtain ⟨h27, hw⟩ := hw
          obtain ⟨h28, hw⟩ := hw
          refine r_iald h h27 h28 dX10_leastTrips_49 ?_
          refine r_iconst h (v := 1) (by decide) dX10_leastTrips_50 ?_
          refine r_iadd h dX10_leastTrips_51 ?_
          refine r_aload_n h 0 rfl rfl dX10_leastTrips_52 ?_
          refine r_getr h kci11 in11 (k := 22) (by decide) rfl rfl q1194 h24 h26 dX10_leastTrips_53 ?_
          refine r_iload_n h 3 rfl rfl dX10_leastTrips_56 ?_
          obtain ⟨h29, hw⟩ := hw
          refine r_iald h h27 h29 dX10_leastTrips_57 ?_
          refine r_icmp_ge h 78 dX10_leastTrips_58 (by decide) (fun hc => ?_) (fun hc => ?_)
          · replace hw := hw.1 hc
            refine r_iload h 4 rfl dX10_leastTrips_78 ?_
            refine r_iconst h (v := 1) (by decide) dX10_leastTrips_80 ?_
            refine r_isub h dX10_leastTrips_81 ?_
            refine r_iload_n h 3 rfl rfl dX10_leastTrips_82 ?_
            refine r_iand h dX10_leastTrips_83 ?_
            refine r_istore h [1, 2, 3, 4, 0] (by decide) rfl dX10_leastTrips_84 ?_
            refine r_goto h 26 dX10_leastTrips_86 (by decide) ?_
            exact ih _ _ _ _ _ _ hw
          · replace hw := hw.2 hc
            refine r_aload_n h 0 rfl rfl dX10_leastTrips_61 ?_
            refine r_getr h kci11 in11 (k := 22) (by decide) rfl rfl q1194 h24 h26 dX10_leastTrips_62 ?_
            refine r_iload_n h 3 rfl rfl dX10_leastTrips_65 ?_
            refine r_aload_n h 0 rfl rfl dX10_leastTrips_66 ?_
            refine r_getr h kci11 in11 (k := 22) (by decide) rfl rfl q1194 h24 h26 dX10_leastTrips_67 ?_
            refine r_iload_n h 3 rfl rfl dX10_leastTrips_70 ?_
            refine r_iload h 4 rfl dX10_leastTrips_71 ?_
            refine r_ixor h dX10_leastTrips_73 ?_
            refine r_iald h h27 h28 dX10_leastTrips_74 ?_
            refine r_iconst h (v := 1) (by decide) dX10_leastTrips_75 ?_
            refine r_iadd h dX10_leastTrips_76 ?_
            refine r_iast h h27 h29 dX10_leastTrips_77 ?_
            refine r_iload h 4 rfl dX10_leastTrips_78 ?_
            refine r_iconst h (v := 1) (by decide) dX10_leastTrips_80 ?_
            refine r_isub h dX10_leastTrips_81 ?_
            refine r_iload_n h 3 rfl rfl dX10_leastTrips_82 ?_
            refine r_iand h dX10_leastTrips_83 ?_
            refine r_istore h [1, 2, 3, 4, 0] (by decide) rfl dX10_leastTrips_84 ?_
            refine r_goto h 26 dX10_leastTrips_86 (by decide) ?_
            exact ih _ _ _ _ _ _ hw
  have L9 : ∀ (n : Nat) (S : St) (a0 : Nat) (x1 : Int32) (x2 : Int32) (x3 : Int32), wl_X10_leastTrips_9 f n S a0 x1 x2 x3 → pw X 0 0 S 9 [(0, .ref a0), (1, .int x1), (2, .int x2), (3, .int x3)] [] := by
    intro n
    induction n with
    | zero => intro S a0 x1 x2 x3 hw; exact hw.elim
    | succ n ih =>
      intro S a0 x1 x2 x3 hw
      unfold wl_X10_leastTrips_9 at hw
      refine r_iload_n h 3 rfl rfl dX10_leastTrips_9 ?_
      refine r_iconst h (v := 1) (by decide) dX10_leastTrips_10 ?_
      refine r_iload_n h 1 rfl rfl dX10_leastTrips_11 ?_
      refine r_ishl h dX10_leastTrips_12 ?_
      refine r_icmp_ge h 95 dX10_leastTrips_13 (by decide) (fun hc => ?_) (fun hc => ?_)
      · replace hw := hw.1 hc
        refine r_aload_n h 0 rfl rfl dX10_leastTrips_95 ?_
        obtain ⟨h8, hw⟩ := hw
        obtain ⟨b9, h10, hw⟩ := hw
        refine r_getr h kci11 in11 (k := 22) (by decide) rfl rfl q1194 h8 h10 dX10_leastTrips_96 ?_
        refine r_iconst h (v := 1) (by decide) dX10_leastTrips_99 ?_
        refine r_iload_n h 1 rfl rfl dX10_leastTrips_100 ?_
        refine r_ishl h dX10_leastTrips_101 ?_
        refine r_iconst h (v := 1) (by decide) dX10_leastTrips_102 ?_
        refine r_isub h dX10_leastTrips_103 ?_
        obtain ⟨h11, hw⟩ := hw
        obtain ⟨h12, hw⟩ := hw
        refine r_iald h h11 h12 dX10_leastTrips_104 ?_
        exact r_iret h hq rfl ⟨_, rfl, hw⟩ (by decide) (by decide) dX10_leastTrips_105
      · replace hw := hw.2 hc
        refine r_aload_n h 0 rfl rfl dX10_leastTrips_16 ?_
        obtain ⟨h13, hw⟩ := hw
        obtain ⟨b14, h15, hw⟩ := hw
        refine r_getr h kci11 in11 (k := 22) (by decide) rfl rfl q1194 h13 h15 dX10_leastTrips_17 ?_
        refine r_iload_n h 3 rfl rfl dX10_leastTrips_20 ?_
        refine r_iconst h (v := 5) (by decide) dX10_leastTrips_21 ?_
        obtain ⟨h16, hw⟩ := hw
        obtain ⟨h17, hw⟩ := hw
        refine r_iast h h16 h17 dX10_leastTrips_22 ?_
        refine r_iload_n h 3 rfl rfl dX10_leastTrips_23 ?_
        refine r_istore h [1, 2, 3, 4, 0] (by decide) rfl dX10_leastTrips_24 ?_
        obtain ⟨m, hw⟩ := hw
        exact L26 _ ih m _ _ _ _ _ _ hw
  unfold w_X10_leastTrips at hw
  refine r_aload_n h 0 rfl rfl dX10_leastTrips_0 ?_
  obtain ⟨h1, hw⟩ := hw
  obtain ⟨b2, h3, hw⟩ := hw
  refine r_getr h kci11 in11 (k := 22) (by decide) rfl rfl q1194 h1 h3 dX10_leastTrips_1 ?_
  refine r_iconst h (v := 0) (by decide) dX10_leastTrips_4 ?_
  refine r_iconst h (v := 0) (by decide) dX10_leastTrips_5 ?_
  obtain ⟨h4, hw⟩ := hw
  obtain ⟨h5, hw⟩ := hw
  refine r_iast h h4 h5 dX10_leastTrips_6 ?_
  refine r_iconst h (v := 1) (by decide) dX10_leastTrips_7 ?_
  refine r_istore_n h [1, 2, 3, 0] rfl (by decide) rfl dX10_leastTrips_8 ?_
  obtain ⟨m, hw⟩ := hw
  exact L9 m _ _ _ _ _ hw

def wl_X10_trips_54 (f : Int32 → St → Prop) : Nat → St → Nat → Int32 → Int32 → Int32 → Prop
  | 0, _, _, _, _, _ => False
  | n + 1, S, a0, x2, x3, x4 => (((x3 ≤ x4) → ok S a0 11 ∧ ((((sI S a0 23) ≤ 0) → ∃ b16 : Nat, sP S a0 3 = some b16 ∧ ok S b16 101 ∧ vp_in x2 (sN S b16) ∧ w_X10_leastTrips S a0 x3 (sI S b16 (Int32.toNatClampNeg x2)) (fun (r20 : Int32) (S21 : St) => f r20 S21)) ∧ ((¬ (sI S a0 23) ≤ 0) → f 0 S))) ∧ ((¬ x3 ≤ x4) → ok S a0 11 ∧ ∃ b24 : Nat, sP S a0 21 = some b24 ∧ ok S b24 101 ∧ vp_in x4 (sN S b24) ∧ ∃ b28 : Nat, sP S a0 3 = some b28 ∧ ok S b28 101 ∧ vp_in x2 (sN S b28) ∧ ((((sI S b24 (Int32.toNatClampNeg x4)) ≤ (sI S b28 (Int32.toNatClampNeg x2))) → let S32 : St := setI S a0 23 (sI S a0 23); wl_X10_trips_54 f n S32 a0 x2 x3 (x4 + 1)) ∧ ((¬ (sI S b24 (Int32.toNatClampNeg x4)) ≤ (sI S b28 (Int32.toNatClampNeg x2))) → let S33 : St := setI S a0 23 3; wl_X10_trips_54 f n S33 a0 x2 x3 (x4 + 1)))))
def w_X10_trips (S : St) (a0 : Nat) (x1 : Int32) (x2 : Int32) (f : Int32 → St → Prop) : Prop := ok S a0 11 ∧ w_X10_isExhibition S a0 x1 (fun (r2 : Int32) (S3 : St) => (((¬ r2 = 0) → ok S3 a0 11 ∧ w_X10_in S3 x2 0 ((sI S3 a0 25) - 1) (fun (r6 : Int32) (S7 : St) => (((¬ r6 = 0) → ok S7 a0 11 ∧ let S10 : St := setI S7 a0 23 0; ((((sI S10 a0 23) ≤ 0) → w_X10_layLoads S10 a0 x1 x2 (fun (r11 : Int32) (S12 : St) => (∃ m : Nat, wl_X10_trips_54 f m S12 a0 x2 r11 0))) ∧ ((¬ (sI S10 a0 23) ≤ 0) → f 0 S10))) ∧ ((r6 = 0) → ok S7 a0 11 ∧ let S35 : St := setI S7 a0 23 2; ((((sI S35 a0 23) ≤ 0) → w_X10_layLoads S35 a0 x1 x2 (fun (r36 : Int32) (S37 : St) => (∃ m : Nat, wl_X10_trips_54 f m S37 a0 x2 r36 0))) ∧ ((¬ (sI S35 a0 23) ≤ 0) → f 0 S35)))))) ∧ ((r2 = 0) → ok S3 a0 11 ∧ let S40 : St := setI S3 a0 23 1; ((((sI S40 a0 23) ≤ 0) → w_X10_layLoads S40 a0 x1 x2 (fun (r41 : Int32) (S42 : St) => (∃ m : Nat, wl_X10_trips_54 f m S42 a0 x2 r41 0))) ∧ ((¬ (sI S40 a0 23) ≤ 0) → f 0 S40)))))
set_option maxRecDepth 100000 in
set_option maxHeartbeats 4000000 in
theorem c_X10_trips (l : Launch) (S : St) (a0 : Nat) (x1 : Int32) (x2 : Int32) (f : Int32 → St → Prop) (hw : w_X10_trips S a0 x1 x2 f) : Ct l yX10_trips (Cond.code yX10_trips cX10_trips 5 (some .int)) { frames := 2, cells := 0, slots := 0, locals := 47 } 0 0 S [.ref a0, .int x1, .int x2] (pI f) nox := by
  refine entry (by decide +kernel) rfl rfl (by first | decide | exact nl rfl) rfl ?_
  intro X h hq
  have L54 : ∀ (n : Nat) (S : St) (a0 : Nat) (x2 : Int32) (x3 : Int32) (x4 : Int32), wl_X10_trips_54 f n S a0 x2 x3 x4 → pw X 0 0 S 54 [(0, .ref a0), (2, .int x2), (3, .int x3), (4, .int x4)] [] := by
    intro n
    induction n with
    | zero => intro S a0 x2 x3 x4 hw; exact hw.elim
    | succ n ih =>
      intro S a0 x2 x3 x4 hw
      unfold wl_X10_trips_54 at hw
      refine r_iload h 3 rfl dX10_trips_54 ?_
      refine r_iload_n h 2 rfl rfl dX10_trips_56 ?_
      refine r_icmp_ge h 94 dX10_trips_57 (by decide) (fun hc => ?_) (fun hc => ?_)
      · replace hw := hw.1 hc
        refine r_aload_n h 0 rfl rfl dX10_trips_94 ?_
        obtain ⟨h15, hw⟩ := hw
        refine r_geti h kci11 in11 (k := 23) (by decide) rfl rfl q1195 h15 dX10_trips_95 ?_
        refine r_if_le h 105 dX10_trips_98 (by decide) (fun hc => ?_) (fun hc => ?_)
        · replace hw := hw.1 hc
          refine r_aload_n h 0 rfl rfl dX10_trips_105 ?_
          refine r_iload_n h 2 rfl rfl dX10_trips_106 ?_
          refine r_aload_n h 0 rfl rfl dX10_trips_107 ?_
          obtain ⟨b16, h17, hw⟩ := hw
          refine r_getr h kci11 in11 (k := 3) (by decide) rfl rfl q1175 h15 h17 dX10_trips_108 ?_
          refine r_iload_n h 1 rfl rfl dX10_trips_111 ?_
          obtain ⟨h18, hw⟩ := hw
          obtain ⟨h19, hw⟩ := hw
          refine r_iald h h18 h19 dX10_trips_112 ?_
          refine r_callV h (fun l => c_X10_leastTrips l _ _ _ _ _ hw) q1447 q1449 q50 q64 q1450 nd_X10_leastTrips ⟨by decide, by decide⟩ rfl rfl ⟨by decide, by decide⟩ kci11 rfl h15 rfl (by first | decide | exact nl rfl) rfl dX10_trips_113 nxk (kI fun r20 S21 hw => ?_)
          exact r_iret h hq rfl ⟨_, rfl, hw⟩ (by decide) (by decide) dX10_trips_116
        · replace hw := hw.2 hc
          refine r_iconst h (v := 0) (by decide) dX10_trips_101 ?_
          refine r_goto h 116 dX10_trips_102 (by decide) ?_
          exact r_iret h hq rfl ⟨_, rfl, hw⟩ (by decide) (by decide) dX10_trips_116
      · replace hw := hw.2 hc
        refine r_aload_n h 0 rfl rfl dX10_trips_60 ?_
        refine r_aload_n h 0 rfl rfl dX10_trips_61 ?_
        obtain ⟨h23, hw⟩ := hw
        obtain ⟨b24, h25, hw⟩ := hw
        refine r_getr h kci11 in11 (k := 21) (by decide) rfl rfl q1193 h23 h25 dX10_trips_62 ?_
        refine r_iload h 3 rfl dX10_trips_65 ?_
        obtain ⟨h26, hw⟩ := hw
        obtain ⟨h27, hw⟩ := hw
        refine r_iald h h26 h27 dX10_trips_67 ?_
        refine r_aload_n h 0 rfl rfl dX10_trips_68 ?_
        obtain ⟨b28, h29, hw⟩ := hw
        refine r_getr h kci11 in11 (k := 3) (by decide) rfl rfl q1175 h23 h29 dX10_trips_69 ?_
        refine r_iload_n h 1 rfl rfl dX10_trips_72 ?_
        obtain ⟨h30, hw⟩ := hw
        obtain ⟨h31, hw⟩ := hw
        refine r_iald h h30 h31 dX10_trips_73 ?_
        refine r_icmp_le h 81 dX10_trips_74 (by decide) (fun hc => ?_) (fun hc => ?_)
        · replace hw := hw.1 hc
          refine r_aload_n h 0 rfl rfl dX10_trips_81 ?_
          refine r_geti h kci11 in11 (k := 23) (by decide) rfl rfl q1195 h23 dX10_trips_82 ?_
          refine r_puti h kci11 in11 tyX10_ok nmX10 (k := 23) (by decide) rfl rfl rfl rfl rfl rfl q1195 h23 dX10_trips_85 ?_
          refine r_iinc h (j := 3) (v := (x4 + 1)) [1, 2, 3, 0] rfl rfl (by decide) rfl dX10_trips_88 ?_
          refine r_goto h 54 dX10_trips_91 (by decide) ?_
          exact ih _ _ _ _ _ hw
        · replace hw := hw.2 hc
          refine r_iconst h (v := 3) (by decide) dX10_trips_77 ?_
          refine r_goto h 85 dX10_trips_78 (by decide) ?_
          refine r_puti h kci11 in11 tyX10_ok nmX10 (k := 23) (by decide) rfl rfl rfl rfl rfl rfl q1195 h23 dX10_trips_85 ?_
          refine r_iinc h (j := 3) (v := (x4 + 1)) [1, 2, 3, 0] rfl rfl (by decide) rfl dX10_trips_88 ?_
          refine r_goto h 54 dX10_trips_91 (by decide) ?_
          exact ih _ _ _ _ _ hw
  unfold w_X10_trips at hw
  refine r_aload_n h 0 rfl rfl dX10_trips_0 ?_
  refine r_aload_n h 0 rfl rfl dX10_trips_1 ?_
  refine r_iload_n h 1 rfl rfl dX10_trips_2 ?_
  obtain ⟨h1, hw⟩ := hw
  refine r_callV h (fun l => c_X10_isExhibition l _ _ _ _ hw) q1394 q1396 q47 q64 q1397 nd_X10_isExhibition ⟨by decide, by decide⟩ rfl rfl ⟨by decide, by decide⟩ kci11 rfl h1 rfl (by first | decide | exact nl rfl) rfl dX10_trips_3 nxk (kI fun r2 S3 hw => ?_)
  refine r_if_ne h 13 dX10_trips_6 (by decide) (fun hc => ?_) (fun hc => ?_)
  · replace hw := hw.1 hc
    refine r_iload_n h 2 rfl rfl dX10_trips_13 ?_
    refine r_iconst h (v := 0) (by decide) dX10_trips_14 ?_
    refine r_aload_n h 0 rfl rfl dX10_trips_15 ?_
    obtain ⟨h5, hw⟩ := hw
    refine r_geti h kci11 in11 (k := 25) (by decide) rfl rfl q1197 h5 dX10_trips_16 ?_
    refine r_iconst h (v := 1) (by decide) dX10_trips_19 ?_
    refine r_isub h dX10_trips_20 ?_
    refine r_callS h (fun l => c_X10_in l _ _ _ _ _ hw) q1268 q1269 q64 q1270 nd_X10_in ⟨by decide, by decide⟩ rfl rfl ⟨by decide, by decide⟩ (as := [.int x2, .int 0, .int ((sI S3 a0 25) - 1)]) rfl (by first | decide | exact nl rfl) rfl dX10_trips_21 nxk (kI fun r6 S7 hw => ?_)
    refine r_if_ne h 31 dX10_trips_24 (by decide) (fun hc => ?_) (fun hc => ?_)
    · replace hw := hw.1 hc
      refine r_iconst h (v := 0) (by decide) dX10_trips_31 ?_
      obtain ⟨h9, hw⟩ := hw
      refine r_puti h kci11 in11 tyX10_ok nmX10 (k := 23) (by decide) rfl rfl rfl rfl rfl rfl q1195 h9 dX10_trips_32 ?_
      refine r_aload_n h 0 rfl rfl dX10_trips_35 ?_
      refine r_geti h kci11 in11 (k := 23) (by decide) rfl rfl q1195 h9 dX10_trips_36 ?_
      refine r_if_le h 44 dX10_trips_39 (by decide) (fun hc => ?_) (fun hc => ?_)
      · replace hw := hw.1 hc
        refine r_aload_n h 0 rfl rfl dX10_trips_44 ?_
        refine r_iload_n h 1 rfl rfl dX10_trips_45 ?_
        refine r_iload_n h 2 rfl rfl dX10_trips_46 ?_
        refine r_callV h (fun l => c_X10_layLoads l _ _ _ _ _ hw) q1443 q1445 q49 q64 q1446 nd_X10_layLoads ⟨by decide, by decide⟩ rfl rfl ⟨by decide, by decide⟩ kci11 rfl h9 rfl (by first | decide | exact nl rfl) rfl dX10_trips_47 nxk (kI fun r11 S12 hw => ?_)
        refine r_istore_n h [1, 3, 0] rfl (by decide) rfl dX10_trips_50 ?_
        refine r_iconst h (v := 0) (by decide) dX10_trips_51 ?_
        refine r_istore h [1, 2, 3, 0] (by decide) rfl dX10_trips_52 ?_
        obtain ⟨m, hw⟩ := hw
        exact L54 m _ _ _ _ _ hw
      · replace hw := hw.2 hc
        refine r_iconst h (v := 0) (by decide) dX10_trips_42 ?_
        exact r_iret h hq rfl ⟨_, rfl, hw⟩ (by decide) (by decide) dX10_trips_43
    · replace hw := hw.2 hc
      refine r_iconst h (v := 2) (by decide) dX10_trips_27 ?_
      refine r_goto h 32 dX10_trips_28 (by decide) ?_
      obtain ⟨h34, hw⟩ := hw
      refine r_puti h kci11 in11 tyX10_ok nmX10 (k := 23) (by decide) rfl rfl rfl rfl rfl rfl q1195 h34 dX10_trips_32 ?_
      refine r_aload_n h 0 rfl rfl dX10_trips_35 ?_
      refine r_geti h kci11 in11 (k := 23) (by decide) rfl rfl q1195 h34 dX10_trips_36 ?_
      refine r_if_le h 44 dX10_trips_39 (by decide) (fun hc => ?_) (fun hc => ?_)
      · replace hw := hw.1 hc
        refine r_aload_n h 0 rfl rfl dX10_trips_44 ?_
        refine r_iload_n h 1 rfl rfl dX10_trips_45 ?_
        refine r_iload_n h 2 rfl rfl dX10_trips_46 ?_
        refine r_callV h (fun l => c_X10_layLoads l _ _ _ _ _ hw) q1443 q1445 q49 q64 q1446 nd_X10_layLoads ⟨by decide, by decide⟩ rfl rfl ⟨by decide, by decide⟩ kci11 rfl h34 rfl (by first | decide | exact nl rfl) rfl dX10_trips_47 nxk (kI fun r36 S37 hw => ?_)
        refine r_istore_n h [1, 3, 0] rfl (by decide) rfl dX10_trips_50 ?_
        refine r_iconst h (v := 0) (by decide) dX10_trips_51 ?_
        refine r_istore h [1, 2, 3, 0] (by decide) rfl dX10_trips_52 ?_
        obtain ⟨m, hw⟩ := hw
        exact L54 m _ _ _ _ _ hw
      · replace hw := hw.2 hc
        refine r_iconst h (v := 0) (by decide) dX10_trips_42 ?_
        exact r_iret h hq rfl ⟨_, rfl, hw⟩ (by decide) (by decide) dX10_trips_43
  · replace hw := hw.2 hc
    refine r_iconst h (v := 1) (by decide) dX10_trips_9 ?_
    refine r_goto h 32 dX10_trips_10 (by decide) ?_
    obtain ⟨h39, hw⟩ := hw
    refine r_puti h kci11 in11 tyX10_ok nmX10 (k := 23) (by decide) rfl rfl rfl rfl rfl rfl q1195 h39 dX10_trips_32 ?_
    refine r_aload_n h 0 rfl rfl dX10_trips_35 ?_
    refine r_geti h kci11 in11 (k := 23) (by decide) rfl rfl q1195 h39 dX10_trips_36 ?_
    refine r_if_le h 44 dX10_trips_39 (by decide) (fun hc => ?_) (fun hc => ?_)
    · replace hw := hw.1 hc
      refine r_aload_n h 0 rfl rfl dX10_trips_44 ?_
      refine r_iload_n h 1 rfl rfl dX10_trips_45 ?_
      refine r_iload_n h 2 rfl rfl dX10_trips_46 ?_
      refine r_callV h (fun l => c_X10_layLoads l _ _ _ _ _ hw) q1443 q1445 q49 q64 q1446 nd_X10_layLoads ⟨by decide, by decide⟩ rfl rfl ⟨by decide, by decide⟩ kci11 rfl h39 rfl (by first | decide | exact nl rfl) rfl dX10_trips_47 nxk (kI fun r41 S42 hw => ?_)
      refine r_istore_n h [1, 3, 0] rfl (by decide) rfl dX10_trips_50 ?_
      refine r_iconst h (v := 0) (by decide) dX10_trips_51 ?_
      refine r_istore h [1, 2, 3, 0] (by decide) rfl dX10_trips_52 ?_
      obtain ⟨m, hw⟩ := hw
      exact L54 m _ _ _ _ _ hw
    · replace hw := hw.2 hc
      refine r_iconst h (v := 0) (by decide) dX10_trips_42 ?_
      exact r_iret h hq rfl ⟨_, rfl, hw⟩ (by decide) (by decide) dX10_trips_43

def w_X10_tripsByTrying (S : St) (a0 : Nat) (x1 : Int32) (x2 : Int32) (f : Int32 → St → Prop) : Prop := ok S a0 11 ∧ w_X10_trips S a0 x1 x2 (fun (r2 : Int32) (S3 : St) => f r2 S3)
set_option maxRecDepth 100000 in
set_option maxHeartbeats 4000000 in
theorem c_X10_tripsByTrying (l : Launch) (S : St) (a0 : Nat) (x1 : Int32) (x2 : Int32) (f : Int32 → St → Prop) (hw : w_X10_tripsByTrying S a0 x1 x2 f) : Ct l yX10_tripsByTrying (Cond.code yX10_tripsByTrying cX10_tripsByTrying 3 (some .int)) { frames := 3, cells := 0, slots := 0, locals := 71 } 0 0 S [.ref a0, .int x1, .int x2] (pI f) nox := by
  refine entry (by decide +kernel) rfl rfl (by first | decide | exact nl rfl) rfl ?_
  intro X h hq
  unfold w_X10_tripsByTrying at hw
  refine r_aload_n h 0 rfl rfl dX10_tripsByTrying_0 ?_
  refine r_iload_n h 1 rfl rfl dX10_tripsByTrying_1 ?_
  refine r_iload_n h 2 rfl rfl dX10_tripsByTrying_2 ?_
  obtain ⟨h1, hw⟩ := hw
  refine r_callV h (fun l => c_X10_trips l _ _ _ _ _ hw) q1459 q1440 q1441 q64 q1442 nd_X10_trips ⟨by decide, by decide⟩ rfl rfl ⟨by decide, by decide⟩ kci11 rfl h1 rfl (by first | decide | exact nl rfl) rfl dX10_tripsByTrying_3 nxk (kI fun r2 S3 hw => ?_)
  exact r_iret h hq rfl ⟨_, rfl, hw⟩ (by decide) (by decide) dX10_tripsByTrying_6

def w_X10_isOff (S : St) (a0 : Nat) (x1 : Int32) (x2 : Int32) (f : Int32 → St → Prop) : Prop := ok S a0 11 ∧ w_X10_in S x1 0 ((2 * (sI S a0 24)) - 1) (fun (r2 : Int32) (S3 : St) => (((¬ r2 = 0) → w_X10_in S3 x2 0 99 (fun (r5 : Int32) (S6 : St) => (((¬ r5 = 0) → ok S6 a0 11 ∧ let S9 : St := setI S6 a0 23 0; ((((sI S9 a0 23) ≤ 0) → f 0 S9) ∧ ((¬ (sI S9 a0 23) ≤ 0) → f 1 S9))) ∧ ((r5 = 0) → ok S6 a0 11 ∧ let S11 : St := setI S6 a0 23 2; ((((sI S11 a0 23) ≤ 0) → f 0 S11) ∧ ((¬ (sI S11 a0 23) ≤ 0) → f 1 S11)))))) ∧ ((r2 = 0) → ok S3 a0 11 ∧ let S13 : St := setI S3 a0 23 1; ((((sI S13 a0 23) ≤ 0) → f 0 S13) ∧ ((¬ (sI S13 a0 23) ≤ 0) → f 1 S13)))))
set_option maxRecDepth 100000 in
set_option maxHeartbeats 4000000 in
theorem c_X10_isOff (l : Launch) (S : St) (a0 : Nat) (x1 : Int32) (x2 : Int32) (f : Int32 → St → Prop) (hw : w_X10_isOff S a0 x1 x2 f) : Ct l yX10_isOff (Cond.code yX10_isOff cX10_isOff 3 (some .boolean)) { frames := 1, cells := 0, slots := 0, locals := 22 } 0 0 S [.ref a0, .int x1, .int x2] (pI f) nox := by
  refine entry (by decide +kernel) rfl rfl (by first | decide | exact nl rfl) rfl ?_
  intro X h hq
  unfold w_X10_isOff at hw
  refine r_aload_n h 0 rfl rfl dX10_isOff_0 ?_
  refine r_iload_n h 1 rfl rfl dX10_isOff_1 ?_
  refine r_iconst h (v := 0) (by decide) dX10_isOff_2 ?_
  refine r_iconst h (v := 2) (by decide) dX10_isOff_3 ?_
  refine r_aload_n h 0 rfl rfl dX10_isOff_4 ?_
  obtain ⟨h1, hw⟩ := hw
  refine r_geti h kci11 in11 (k := 24) (by decide) rfl rfl q1196 h1 dX10_isOff_5 ?_
  refine r_imul h dX10_isOff_8 ?_
  refine r_iconst h (v := 1) (by decide) dX10_isOff_9 ?_
  refine r_isub h dX10_isOff_10 ?_
  refine r_callS h (fun l => c_X10_in l _ _ _ _ _ hw) q1268 q1269 q64 q1270 nd_X10_in ⟨by decide, by decide⟩ rfl rfl ⟨by decide, by decide⟩ (as := [.int x1, .int 0, .int ((2 * (sI S a0 24)) - 1)]) rfl (by first | decide | exact nl rfl) rfl dX10_isOff_11 nxk (kI fun r2 S3 hw => ?_)
  refine r_if_ne h 21 dX10_isOff_14 (by decide) (fun hc => ?_) (fun hc => ?_)
  · replace hw := hw.1 hc
    refine r_iload_n h 2 rfl rfl dX10_isOff_21 ?_
    refine r_iconst h (v := 0) (by decide) dX10_isOff_22 ?_
    refine r_bipush h (v := 99) (by decide) dX10_isOff_23 ?_
    refine r_callS h (fun l => c_X10_in l _ _ _ _ _ hw) q1268 q1269 q64 q1270 nd_X10_in ⟨by decide, by decide⟩ rfl rfl ⟨by decide, by decide⟩ (as := [.int x2, .int 0, .int 99]) rfl (by first | decide | exact nl rfl) rfl dX10_isOff_25 nxk (kI fun r5 S6 hw => ?_)
    refine r_if_ne h 35 dX10_isOff_28 (by decide) (fun hc => ?_) (fun hc => ?_)
    · replace hw := hw.1 hc
      refine r_iconst h (v := 0) (by decide) dX10_isOff_35 ?_
      obtain ⟨h8, hw⟩ := hw
      refine r_puti h kci11 in11 tyX10_ok nmX10 (k := 23) (by decide) rfl rfl rfl rfl rfl rfl q1195 h8 dX10_isOff_36 ?_
      refine r_aload_n h 0 rfl rfl dX10_isOff_39 ?_
      refine r_geti h kci11 in11 (k := 23) (by decide) rfl rfl q1195 h8 dX10_isOff_40 ?_
      refine r_if_le h 50 dX10_isOff_43 (by decide) (fun hc => ?_) (fun hc => ?_)
      · replace hw := hw.1 hc
        refine r_iconst h (v := 0) (by decide) dX10_isOff_50 ?_
        exact r_zret h hq (ty := .boolean) rfl rfl ⟨_, rfl, hw⟩ (by decide) (by decide) dX10_isOff_51
      · replace hw := hw.2 hc
        refine r_iconst h (v := 1) (by decide) dX10_isOff_46 ?_
        refine r_goto h 51 dX10_isOff_47 (by decide) ?_
        exact r_zret h hq (ty := .boolean) rfl rfl ⟨_, rfl, hw⟩ (by decide) (by decide) dX10_isOff_51
    · replace hw := hw.2 hc
      refine r_iconst h (v := 2) (by decide) dX10_isOff_31 ?_
      refine r_goto h 36 dX10_isOff_32 (by decide) ?_
      obtain ⟨h10, hw⟩ := hw
      refine r_puti h kci11 in11 tyX10_ok nmX10 (k := 23) (by decide) rfl rfl rfl rfl rfl rfl q1195 h10 dX10_isOff_36 ?_
      refine r_aload_n h 0 rfl rfl dX10_isOff_39 ?_
      refine r_geti h kci11 in11 (k := 23) (by decide) rfl rfl q1195 h10 dX10_isOff_40 ?_
      refine r_if_le h 50 dX10_isOff_43 (by decide) (fun hc => ?_) (fun hc => ?_)
      · replace hw := hw.1 hc
        refine r_iconst h (v := 0) (by decide) dX10_isOff_50 ?_
        exact r_zret h hq (ty := .boolean) rfl rfl ⟨_, rfl, hw⟩ (by decide) (by decide) dX10_isOff_51
      · replace hw := hw.2 hc
        refine r_iconst h (v := 1) (by decide) dX10_isOff_46 ?_
        refine r_goto h 51 dX10_isOff_47 (by decide) ?_
        exact r_zret h hq (ty := .boolean) rfl rfl ⟨_, rfl, hw⟩ (by decide) (by decide) dX10_isOff_51
  · replace hw := hw.2 hc
    refine r_iconst h (v := 1) (by decide) dX10_isOff_17 ?_
    refine r_goto h 36 dX10_isOff_18 (by decide) ?_
    obtain ⟨h12, hw⟩ := hw
    refine r_puti h kci11 in11 tyX10_ok nmX10 (k := 23) (by decide) rfl rfl rfl rfl rfl rfl q1195 h12 dX10_isOff_36 ?_
    refine r_aload_n h 0 rfl rfl dX10_isOff_39 ?_
    refine r_geti h kci11 in11 (k := 23) (by decide) rfl rfl q1195 h12 dX10_isOff_40 ?_
    refine r_if_le h 50 dX10_isOff_43 (by decide) (fun hc => ?_) (fun hc => ?_)
    · replace hw := hw.1 hc
      refine r_iconst h (v := 0) (by decide) dX10_isOff_50 ?_
      exact r_zret h hq (ty := .boolean) rfl rfl ⟨_, rfl, hw⟩ (by decide) (by decide) dX10_isOff_51
    · replace hw := hw.2 hc
      refine r_iconst h (v := 1) (by decide) dX10_isOff_46 ?_
      refine r_goto h 51 dX10_isOff_47 (by decide) ?_
      exact r_zret h hq (ty := .boolean) rfl rfl ⟨_, rfl, hw⟩ (by decide) (by decide) dX10_isOff_51

def w_X10_taken (S : St) (a0 : Nat) (x1 : Int32) (x2 : Int32) (f : Int32 → St → Prop) : Prop := ok S a0 11 ∧ w_X10_isOff S a0 x1 x2 (fun (r2 : Int32) (S3 : St) => (((r2 = 0) → ok S3 a0 11 ∧ w_X10_takenOn S3 a0 x1 x2 (-1) (fun (r6 : Int32) (S7 : St) => f r6 S7)) ∧ ((¬ r2 = 0) → f 0 S3)))
set_option maxRecDepth 100000 in
set_option maxHeartbeats 4000000 in
theorem c_X10_taken (l : Launch) (S : St) (a0 : Nat) (x1 : Int32) (x2 : Int32) (f : Int32 → St → Prop) (hw : w_X10_taken S a0 x1 x2 f) : Ct l yX10_taken (Cond.code yX10_taken cX10_taken 3 (some .int)) { frames := 2, cells := 0, slots := 0, locals := 48 } 0 0 S [.ref a0, .int x1, .int x2] (pI f) nox := by
  refine entry (by decide +kernel) rfl rfl (by first | decide | exact nl rfl) rfl ?_
  intro X h hq
  unfold w_X10_taken at hw
  refine r_aload_n h 0 rfl rfl dX10_taken_0 ?_
  refine r_iload_n h 1 rfl rfl dX10_taken_1 ?_
  refine r_iload_n h 2 rfl rfl dX10_taken_2 ?_
  obtain ⟨h1, hw⟩ := hw
  refine r_callV h (fun l => c_X10_isOff l _ _ _ _ _ hw) q1464 q1466 q52 q64 q1467 nd_X10_isOff ⟨by decide, by decide⟩ rfl rfl ⟨by decide, by decide⟩ kci11 rfl h1 rfl (by first | decide | exact nl rfl) rfl dX10_taken_3 nxk (kI fun r2 S3 hw => ?_)
  refine r_if_eq h 13 dX10_taken_6 (by decide) (fun hc => ?_) (fun hc => ?_)
  · replace hw := hw.1 hc
    refine r_aload_n h 0 rfl rfl dX10_taken_13 ?_
    refine r_iload_n h 1 rfl rfl dX10_taken_14 ?_
    refine r_iload_n h 2 rfl rfl dX10_taken_15 ?_
    refine r_iconst h (v := (-1)) (by decide) dX10_taken_16 ?_
    obtain ⟨h5, hw⟩ := hw
    refine r_callV h (fun l => c_X10_takenOn l _ _ _ _ _ _ hw) q1322 q1324 q39 q64 q1325 nd_X10_takenOn ⟨by decide, by decide⟩ rfl rfl ⟨by decide, by decide⟩ kci11 rfl h5 rfl (by first | decide | exact nl rfl) rfl dX10_taken_17 nxk (kI fun r6 S7 hw => ?_)
    exact r_iret h hq rfl ⟨_, rfl, hw⟩ (by decide) (by decide) dX10_taken_20
  · replace hw := hw.2 hc
    refine r_iconst h (v := 0) (by decide) dX10_taken_9 ?_
    refine r_goto h 20 dX10_taken_10 (by decide) ?_
    exact r_iret h hq rfl ⟨_, rfl, hw⟩ (by decide) (by decide) dX10_taken_20

def wl_X10_hanging_28 (f : Int32 → St → Prop) (k16 : St → Nat → Int32 → Int32 → Int32 → Int32 → Prop) : Nat → St → Nat → Int32 → Int32 → Int32 → Int32 → Int32 → Prop
  | 0, _, _, _, _, _, _, _ => False
  | n + 1, S, a0, x1, x2, x3, x4, x5 => ok S a0 11 ∧ ∃ b9 : Nat, sP S a0 17 = some b9 ∧ ok S b9 101 ∧ vp_in x4 (sN S b9) ∧ ((((sI S b9 (Int32.toNatClampNeg x4)) ≤ x5) → k16 S a0 x1 x2 x3 (x4 + 1)) ∧ ((¬ (sI S b9 (Int32.toNatClampNeg x4)) ≤ x5) → ∃ b13 : Nat, sP S a0 16 = some b13 ∧ ok S b13 101 ∧ vp_in x4 (sN S b13) ∧ (((¬ (sI S b13 (Int32.toNatClampNeg x4)) = 112) → wl_X10_hanging_28 f k16 n S a0 x1 x2 (x3 + 0) x4 (x5 + 1)) ∧ (((sI S b13 (Int32.toNatClampNeg x4)) = 112) → ∃ b17 : Nat, sP S a0 13 = some b17 ∧ ok S b17 101 ∧ vp_in x4 (sN S b17) ∧ ∃ b21 : Nat, sP S a0 14 = some b21 ∧ ok S b21 101 ∧ vp_in x4 (sN S b21) ∧ w_X10_in S x2 (sI S b17 (Int32.toNatClampNeg x4)) (sI S b21 (Int32.toNatClampNeg x4)) (fun (r25 : Int32) (S26 : St) => (((r25 = 0) → wl_X10_hanging_28 f k16 n S26 a0 x1 x2 (x3 + 0) x4 (x5 + 1)) ∧ ((¬ r25 = 0) → ok S26 a0 11 ∧ ∃ b29 : Nat, sP S26 a0 19 = some b29 ∧ ok S26 b29 101 ∧ vp_in ((5 * x4) + x5) (sN S26 b29) ∧ (((¬ (sI S26 b29 (Int32.toNatClampNeg ((5 * x4) + x5))) = x1) → wl_X10_hanging_28 f k16 n S26 a0 x1 x2 (x3 + 0) x4 (x5 + 1)) ∧ (((sI S26 b29 (Int32.toNatClampNeg ((5 * x4) + x5))) = x1) → wl_X10_hanging_28 f k16 n S26 a0 x1 x2 (x3 + 1) x4 (x5 + 1))))))))))
def wl_X10_hanging_16 (f : Int32 → St → Prop) : Nat → St → Nat → Int32 → Int32 → Int32 → Int32 → Prop
  | 0, _, _, _, _, _, _ => False
  | n + 1, S, a0, x1, x2, x3, x4 => ok S a0 11 ∧ ((((sI S a0 27) ≤ x4) → f x3 S) ∧ ((¬ (sI S a0 27) ≤ x4) → (∃ m : Nat, wl_X10_hanging_28 f (wl_X10_hanging_16 f n) m S a0 x1 x2 x3 x4 0)))
def w_X10_hanging (S : St) (a0 : Nat) (x1 : Int32) (x2 : Int32) (f : Int32 → St → Prop) : Prop := ok S a0 11 ∧ w_X10_isOff S a0 x1 x2 (fun (r2 : Int32) (S3 : St) => (((r2 = 0) → (∃ m : Nat, wl_X10_hanging_16 f m S3 a0 x1 x2 0 0)) ∧ ((¬ r2 = 0) → f 0 S3)))
set_option maxRecDepth 100000 in
set_option maxHeartbeats 4000000 in
theorem c_X10_hanging (l : Launch) (S : St) (a0 : Nat) (x1 : Int32) (x2 : Int32) (f : Int32 → St → Prop) (hw : w_X10_hanging S a0 x1 x2 f) : Ct l yX10_hanging (Cond.code yX10_hanging cX10_hanging 6 (some .int)) { frames := 2, cells := 0, slots := 0, locals := 44 } 0 0 S [.ref a0, .int x1, .int x2] (pI f) nox := by
  refine entry (by decide +kernel) rfl rfl (by first | decide | exact nl rfl) rfl ?_
  intro X h hq
  have L28 : ∀ (k16 : St → Nat → Int32 → Int32 → Int32 → Int32 → Prop), (∀ (S : St) (a0 : Nat) (x1 : Int32) (x2 : Int32) (x3 : Int32) (x4 : Int32), k16 S a0 x1 x2 x3 x4 → pw X 0 0 S 16 [(0, .ref a0), (1, .int x1), (2, .int x2), (3, .int x3), (4, .int x4)] []) → ∀ (n : Nat) (S : St) (a0 : Nat) (x1 : Int32) (x2 : Int32) (x3 : Int32) (x4 : Int32) (x5 : Int32), wl_X10_hanging_28 f k16 n S a0 x1 x2 x3 x4 x5 → pw X 0 0 S 28 [(0, .ref a0), (1, .int x1), (2, .int x2), (3, .int x3), (4, .int x4), (5, .int x5)] [] := by
    intro k16 hk16 n
    induction n with
    | zero => intro S a0 x1 x2 x3 x4 x5 hw; exact hw.elim
    | succ n ih =>
      intro S a0 x1 x2 x3 x4 x5 hw
      unfold wl_X10_hanging_28 at hw
      refine r_iload h 5 rfl dX10_hanging_28 ?_
      refine r_aload_n h 0 rfl rfl dX10_hanging_30 ?_
      obtain ⟨h8, hw⟩ := hw
      obtain ⟨b9, h10, hw⟩ := hw
      refine r_getr h kci11 in11 (k := 17) (by decide) rfl rfl q1189 h8 h10 dX10_hanging_31 ?_
      refine r_iload h 4 rfl dX10_hanging_34 ?_
      obtain ⟨h11, hw⟩ := hw
      obtain ⟨h12, hw⟩ := hw
      refine r_iald h h11 h12 dX10_hanging_36 ?_
      refine r_icmp_ge h 103 dX10_hanging_37 (by decide) (fun hc => ?_) (fun hc => ?_)
      · replace hw := hw.1 hc
        refine r_iinc h (j := 4) (v := (x4 + 1)) [1, 2, 3, 4, 0, 5] rfl rfl (by decide) rfl dX10_hanging_103 ?_
        refine r_goto h 16 dX10_hanging_106 (by decide) ?_
        refine r_vs [0, 1, 2, 3, 4] rfl ?_
        exact hk16 _ _ _ _ _ _ hw
      · replace hw := hw.2 hc
        refine r_iload_n h 3 rfl rfl dX10_hanging_40 ?_
        refine r_aload_n h 0 rfl rfl dX10_hanging_41 ?_
        obtain ⟨b13, h14, hw⟩ := hw
        refine r_getr h kci11 in11 (k := 16) (by decide) rfl rfl q1188 h8 h14 dX10_hanging_42 ?_
        refine r_iload h 4 rfl dX10_hanging_45 ?_
        obtain ⟨h15, hw⟩ := hw
        obtain ⟨h16, hw⟩ := hw
        refine r_iald h h15 h16 dX10_hanging_47 ?_
        refine r_bipush h (v := 112) (by decide) dX10_hanging_48 ?_
        refine r_icmp_ne h 94 dX10_hanging_50 (by decide) (fun hc => ?_) (fun hc => ?_)
        · replace hw := hw.1 hc
          refine r_iconst h (v := 0) (by decide) dX10_hanging_94 ?_
          refine r_iadd h dX10_hanging_95 ?_
          refine r_istore_n h [1, 2, 3, 0, 4, 5] rfl (by decide) rfl dX10_hanging_96 ?_
          refine r_iinc h (j := 5) (v := (x5 + 1)) [1, 2, 3, 4, 5, 0] rfl rfl (by decide) rfl dX10_hanging_97 ?_
          refine r_goto h 28 dX10_hanging_100 (by decide) ?_
          exact ih _ _ _ _ _ _ _ hw
        · replace hw := hw.2 hc
          refine r_iload_n h 2 rfl rfl dX10_hanging_53 ?_
          refine r_aload_n h 0 rfl rfl dX10_hanging_54 ?_
          obtain ⟨b17, h18, hw⟩ := hw
          refine r_getr h kci11 in11 (k := 13) (by decide) rfl rfl q1185 h8 h18 dX10_hanging_55 ?_
          refine r_iload h 4 rfl dX10_hanging_58 ?_
          obtain ⟨h19, hw⟩ := hw
          obtain ⟨h20, hw⟩ := hw
          refine r_iald h h19 h20 dX10_hanging_60 ?_
          refine r_aload_n h 0 rfl rfl dX10_hanging_61 ?_
          obtain ⟨b21, h22, hw⟩ := hw
          refine r_getr h kci11 in11 (k := 14) (by decide) rfl rfl q1186 h8 h22 dX10_hanging_62 ?_
          refine r_iload h 4 rfl dX10_hanging_65 ?_
          obtain ⟨h23, hw⟩ := hw
          obtain ⟨h24, hw⟩ := hw
          refine r_iald h h23 h24 dX10_hanging_67 ?_
          refine r_callS h (fun l => c_X10_in l _ _ _ _ _ hw) q1268 q1269 q64 q1270 nd_X10_in ⟨by decide, by decide⟩ rfl rfl ⟨by decide, by decide⟩ (as := [.int x2, .int (sI S b17 (Int32.toNatClampNeg x4)), .int (sI S b21 (Int32.toNatClampNeg x4))]) rfl (by first | decide | exact nl rfl) rfl dX10_hanging_68 nxk (kI fun r25 S26 hw => ?_)
          refine r_if_eq h 94 dX10_hanging_71 (by decide) (fun hc => ?_) (fun hc => ?_)
          · replace hw := hw.1 hc
            refine r_iconst h (v := 0) (by decide) dX10_hanging_94 ?_
            refine r_iadd h dX10_hanging_95 ?_
            refine r_istore_n h [1, 2, 3, 0, 4, 5] rfl (by decide) rfl dX10_hanging_96 ?_
            refine r_iinc h (j := 5) (v := (x5 + 1)) [1, 2, 3, 4, 5, 0] rfl rfl (by decide) rfl dX10_hanging_97 ?_
            refine r_goto h 28 dX10_hanging_100 (by decide) ?_
            exact ih _ _ _ _ _ _ _ hw
          · replace hw := hw.2 hc
            refine r_aload_n h 0 rfl rfl dX10_hanging_74 ?_
            obtain ⟨h28, hw⟩ := hw
            obtain ⟨b29, h30, hw⟩ := hw
            refine r_getr h kci11 in11 (k := 19) (by decide) rfl rfl q1191 h28 h30 dX10_hanging_75 ?_
            refine r_iconst h (v := 5) (by decide) dX10_hanging_78 ?_
            refine r_iload h 4 rfl dX10_hanging_79 ?_
            refine r_imul h dX10_hanging_81 ?_
            refine r_iload h 5 rfl dX10_hanging_82 ?_
            refine r_iadd h dX10_hanging_84 ?_
            obtain ⟨h31, hw⟩ := hw
            obtain ⟨h32, hw⟩ := hw
            refine r_iald h h31 h32 dX10_hanging_85 ?_
            refine r_iload_n h 1 rfl rfl dX10_hanging_86 ?_
            refine r_icmp_ne h 94 dX10_hanging_87 (by decide) (fun hc => ?_) (fun hc => ?_)
            · replace hw := hw.1 hc
              refine r_iconst h (v := 0) (by decide) dX10_hanging_94 ?_
              refine r_iadd h dX10_hanging_95 ?_
              refine r_istore_n h [1, 2, 3, 0, 4, 5] rfl (by decide) rfl dX10_hanging_96 ?_
              refine r_iinc h (j := 5) (v := (x5 + 1)) [1, 2, 3, 4, 5, 0] rfl rfl (by decide) rfl dX10_hanging_97 ?_
              refine r_goto h 28 dX10_hanging_100 (by decide) ?_
              exact ih _ _ _ _ _ _ _ hw
            · replace hw := hw.2 hc
              refine r_iconst h (v := 1) (by decide) dX10_hanging_90 ?_
              refine r_goto h 95 dX10_hanging_91 (by decide) ?_
              refine r_iadd h dX10_hanging_95 ?_
              refine r_istore_n h [1, 2, 3, 0, 4, 5] rfl (by decide) rfl dX10_hanging_96 ?_
              refine r_iinc h (j := 5) (v := (x5 + 1)) [1, 2, 3, 4, 5, 0] rfl rfl (by decide) rfl dX10_hanging_97 ?_
              refine r_goto h 28 dX10_hanging_100 (by decide) ?_
              exact ih _ _ _ _ _ _ _ hw
  have L16 : ∀ (n : Nat) (S : St) (a0 : Nat) (x1 : Int32) (x2 : Int32) (x3 : Int32) (x4 : Int32), wl_X10_hanging_16 f n S a0 x1 x2 x3 x4 → pw X 0 0 S 16 [(0, .ref a0), (1, .int x1), (2, .int x2), (3, .int x3), (4, .int x4)] [] := by
    intro n
    induction n with
    | zero => intro S a0 x1 x2 x3 x4 hw; exact hw.elim
    | succ n ih =>
      intro S a0 x1 x2 x3 x4 hw
      unfold wl_X10_hanging_16 at hw
      refine r_iload h 4 rfl dX10_hanging_16 ?_
      refine r_aload_n h 0 rfl rfl dX10_hanging_18 ?_
      obtain ⟨h6, hw⟩ := hw
      refine r_geti h kci11 in11 (k := 27) (by decide) rfl rfl q1199 h6 dX10_hanging_19 ?_
      refine r_icmp_ge h 109 dX10_hanging_22 (by decide) (fun hc => ?_) (fun hc => ?_)
      · replace hw := hw.1 hc
        refine r_iload_n h 3 rfl rfl dX10_hanging_109 ?_
        exact r_iret h hq rfl ⟨_, rfl, hw⟩ (by decide) (by decide) dX10_hanging_110
      · replace hw := hw.2 hc
        refine r_iconst h (v := 0) (by decide) dX10_hanging_25 ?_
        refine r_istore h [1, 2, 3, 4, 5, 0] (by decide) rfl dX10_hanging_26 ?_
        obtain ⟨m, hw⟩ := hw
        exact L28 _ ih m _ _ _ _ _ _ _ hw
  unfold w_X10_hanging at hw
  refine r_aload_n h 0 rfl rfl dX10_hanging_0 ?_
  refine r_iload_n h 1 rfl rfl dX10_hanging_1 ?_
  refine r_iload_n h 2 rfl rfl dX10_hanging_2 ?_
  obtain ⟨h1, hw⟩ := hw
  refine r_callV h (fun l => c_X10_isOff l _ _ _ _ _ hw) q1464 q1466 q52 q64 q1467 nd_X10_isOff ⟨by decide, by decide⟩ rfl rfl ⟨by decide, by decide⟩ kci11 rfl h1 rfl (by first | decide | exact nl rfl) rfl dX10_hanging_3 nxk (kI fun r2 S3 hw => ?_)
  refine r_if_eq h 11 dX10_hanging_6 (by decide) (fun hc => ?_) (fun hc => ?_)
  · replace hw := hw.1 hc
    refine r_iconst h (v := 0) (by decide) dX10_hanging_11 ?_
    refine r_istore_n h [1, 2, 3, 0] rfl (by decide) rfl dX10_hanging_12 ?_
    refine r_iconst h (v := 0) (by decide) dX10_hanging_13 ?_
    refine r_istore h [1, 2, 3, 4, 0] (by decide) rfl dX10_hanging_14 ?_
    obtain ⟨m, hw⟩ := hw
    exact L16 m _ _ _ _ _ _ hw
  · replace hw := hw.2 hc
    refine r_iconst h (v := 0) (by decide) dX10_hanging_9 ?_
    exact r_iret h hq rfl ⟨_, rfl, hw⟩ (by decide) (by decide) dX10_hanging_10

def wl_X10_awayFor_34 (f : Int32 → St → Prop) : Nat → St → Nat → Int32 → Int32 → Int32 → Prop
  | 0, _, _, _, _, _ => False
  | n + 1, S, a0, x1, x2, x3 => ok S a0 11 ∧ ((((sI S a0 27) ≤ x3) → f 0 S) ∧ ((¬ (sI S a0 27) ≤ x3) → (((¬ (sI S a0 23) = 3) → f 0 S) ∧ (((sI S a0 23) = 3) → ∃ b12 : Nat, sP S a0 16 = some b12 ∧ ok S b12 101 ∧ vp_in x3 (sN S b12) ∧ (((¬ (sI S b12 (Int32.toNatClampNeg x3)) = 112) → wl_X10_awayFor_34 f n S a0 x1 x2 (x3 + 1)) ∧ (((sI S b12 (Int32.toNatClampNeg x3)) = 112) → w_X10_includes S a0 x3 x1 (fun (r16 : Int32) (S17 : St) => (((r16 = 0) → wl_X10_awayFor_34 f n S17 a0 x1 x2 (x3 + 1)) ∧ ((¬ r16 = 0) → ok S17 a0 11 ∧ ∃ b20 : Nat, sP S17 a0 13 = some b20 ∧ ok S17 b20 101 ∧ vp_in x3 (sN S17 b20) ∧ w_X10_travelOf S17 a0 x1 (fun (r24 : Int32) (S25 : St) => ok S25 a0 11 ∧ ∃ b28 : Nat, sP S25 a0 14 = some b28 ∧ ok S25 b28 101 ∧ vp_in x3 (sN S25 b28) ∧ w_X10_travelOf S25 a0 x1 (fun (r32 : Int32) (S33 : St) => w_X10_in S33 x2 ((sI S17 b20 (Int32.toNatClampNeg x3)) - r24) ((sI S25 b28 (Int32.toNatClampNeg x3)) + r32) (fun (r35 : Int32) (S36 : St) => (((¬ r35 = 0) → ok S36 a0 11 ∧ let S39 : St := setI S36 a0 23 0; f x3 S39) ∧ ((r35 = 0) → wl_X10_awayFor_34 f n S36 a0 x1 x2 (x3 + 1)))))))))))))))
def w_X10_awayFor (S : St) (a0 : Nat) (x1 : Int32) (x2 : Int32) (f : Int32 → St → Prop) : Prop := ok S a0 11 ∧ w_X10_isWork S a0 x1 (fun (r2 : Int32) (S3 : St) => (((¬ r2 = 0) → w_X10_in S3 x2 (-9) 108 (fun (r5 : Int32) (S6 : St) => (((¬ r5 = 0) → ok S6 a0 11 ∧ let S9 : St := setI S6 a0 23 3; (∃ m : Nat, wl_X10_awayFor_34 f m S9 a0 x1 x2 0)) ∧ ((r5 = 0) → ok S6 a0 11 ∧ let S41 : St := setI S6 a0 23 2; (∃ m : Nat, wl_X10_awayFor_34 f m S41 a0 x1 x2 0))))) ∧ ((r2 = 0) → ok S3 a0 11 ∧ let S43 : St := setI S3 a0 23 1; (∃ m : Nat, wl_X10_awayFor_34 f m S43 a0 x1 x2 0))))
set_option maxRecDepth 100000 in
set_option maxHeartbeats 4000000 in
theorem c_X10_awayFor (l : Launch) (S : St) (a0 : Nat) (x1 : Int32) (x2 : Int32) (f : Int32 → St → Prop) (hw : w_X10_awayFor S a0 x1 x2 f) : Ct l yX10_awayFor (Cond.code yX10_awayFor cX10_awayFor 4 (some .int)) { frames := 2, cells := 0, slots := 0, locals := 43 } 0 0 S [.ref a0, .int x1, .int x2] (pI f) nox := by
  refine entry (by decide +kernel) rfl rfl (by first | decide | exact nl rfl) rfl ?_
  intro X h hq
  have L34 : ∀ (n : Nat) (S : St) (a0 : Nat) (x1 : Int32) (x2 : Int32) (x3 : Int32), wl_X10_awayFor_34 f n S a0 x1 x2 x3 → pw X 0 0 S 34 [(0, .ref a0), (1, .int x1), (2, .int x2), (3, .int x3)] [] := by
    intro n
    induction n with
    | zero => intro S a0 x1 x2 x3 hw; exact hw.elim
    | succ n ih =>
      intro S a0 x1 x2 x3 hw
      unfold wl_X10_awayFor_34 at hw
      refine r_iload_n h 3 rfl rfl dX10_awayFor_34 ?_
      refine r_aload_n h 0 rfl rfl dX10_awayFor_35 ?_
      obtain ⟨h11, hw⟩ := hw
      refine r_geti h kci11 in11 (k := 27) (by decide) rfl rfl q1199 h11 dX10_awayFor_36 ?_
      refine r_icmp_ge h 117 dX10_awayFor_39 (by decide) (fun hc => ?_) (fun hc => ?_)
      · replace hw := hw.1 hc
        refine r_iconst h (v := 0) (by decide) dX10_awayFor_117 ?_
        exact r_iret h hq rfl ⟨_, rfl, hw⟩ (by decide) (by decide) dX10_awayFor_118
      · replace hw := hw.2 hc
        refine r_aload_n h 0 rfl rfl dX10_awayFor_42 ?_
        refine r_geti h kci11 in11 (k := 23) (by decide) rfl rfl q1195 h11 dX10_awayFor_43 ?_
        refine r_iconst h (v := 3) (by decide) dX10_awayFor_46 ?_
        refine r_icmp_ne h 117 dX10_awayFor_47 (by decide) (fun hc => ?_) (fun hc => ?_)
        · replace hw := hw.1 hc
          refine r_iconst h (v := 0) (by decide) dX10_awayFor_117 ?_
          exact r_iret h hq rfl ⟨_, rfl, hw⟩ (by decide) (by decide) dX10_awayFor_118
        · replace hw := hw.2 hc
          refine r_aload_n h 0 rfl rfl dX10_awayFor_50 ?_
          obtain ⟨b12, h13, hw⟩ := hw
          refine r_getr h kci11 in11 (k := 16) (by decide) rfl rfl q1188 h11 h13 dX10_awayFor_51 ?_
          refine r_iload_n h 3 rfl rfl dX10_awayFor_54 ?_
          obtain ⟨h14, hw⟩ := hw
          obtain ⟨h15, hw⟩ := hw
          refine r_iald h h14 h15 dX10_awayFor_55 ?_
          refine r_bipush h (v := 112) (by decide) dX10_awayFor_56 ?_
          refine r_icmp_ne h 111 dX10_awayFor_58 (by decide) (fun hc => ?_) (fun hc => ?_)
          · replace hw := hw.1 hc
            refine r_iinc h (j := 3) (v := (x3 + 1)) [1, 2, 3, 0] rfl rfl (by decide) rfl dX10_awayFor_111 ?_
            refine r_goto h 34 dX10_awayFor_114 (by decide) ?_
            exact ih _ _ _ _ _ hw
          · replace hw := hw.2 hc
            refine r_aload_n h 0 rfl rfl dX10_awayFor_61 ?_
            refine r_iload_n h 3 rfl rfl dX10_awayFor_62 ?_
            refine r_iload_n h 1 rfl rfl dX10_awayFor_63 ?_
            refine r_callV h (fun l => c_X10_includes l _ _ _ _ _ hw) q1295 q1297 q33 q64 q1298 nd_X10_includes ⟨by decide, by decide⟩ rfl rfl ⟨by decide, by decide⟩ kci11 rfl h11 rfl (by first | decide | exact nl rfl) rfl dX10_awayFor_64 nxk (kI fun r16 S17 hw => ?_)
            refine r_if_eq h 111 dX10_awayFor_67 (by decide) (fun hc => ?_) (fun hc => ?_)
            · replace hw := hw.1 hc
              refine r_iinc h (j := 3) (v := (x3 + 1)) [1, 2, 3, 0] rfl rfl (by decide) rfl dX10_awayFor_111 ?_
              refine r_goto h 34 dX10_awayFor_114 (by decide) ?_
              exact ih _ _ _ _ _ hw
            · replace hw := hw.2 hc
              refine r_iload_n h 2 rfl rfl dX10_awayFor_70 ?_
              refine r_aload_n h 0 rfl rfl dX10_awayFor_71 ?_
              obtain ⟨h19, hw⟩ := hw
              obtain ⟨b20, h21, hw⟩ := hw
              refine r_getr h kci11 in11 (k := 13) (by decide) rfl rfl q1185 h19 h21 dX10_awayFor_72 ?_
              refine r_iload_n h 3 rfl rfl dX10_awayFor_75 ?_
              obtain ⟨h22, hw⟩ := hw
              obtain ⟨h23, hw⟩ := hw
              refine r_iald h h22 h23 dX10_awayFor_76 ?_
              refine r_aload_n h 0 rfl rfl dX10_awayFor_77 ?_
              refine r_iload_n h 1 rfl rfl dX10_awayFor_78 ?_
              refine r_callV h (fun l => c_X10_travelOf l _ _ _ _ hw) q1291 q1293 q32 q64 q1294 nd_X10_travelOf ⟨by decide, by decide⟩ rfl rfl ⟨by decide, by decide⟩ kci11 rfl h19 rfl (by first | decide | exact nl rfl) rfl dX10_awayFor_79 nxk (kI fun r24 S25 hw => ?_)
              refine r_isub h dX10_awayFor_82 ?_
              refine r_aload_n h 0 rfl rfl dX10_awayFor_83 ?_
              obtain ⟨h27, hw⟩ := hw
              obtain ⟨b28, h29, hw⟩ := hw
              refine r_getr h kci11 in11 (k := 14) (by decide) rfl rfl q1186 h27 h29 dX10_awayFor_84 ?_
              refine r_iload_n h 3 rfl rfl dX10_awayFor_87 ?_
              obtain ⟨h30, hw⟩ := hw
              obtain ⟨h31, hw⟩ := hw
              refine r_iald h h30 h31 dX10_awayFor_88 ?_
              refine r_aload_n h 0 rfl rfl dX10_awayFor_89 ?_
              refine r_iload_n h 1 rfl rfl dX10_awayFor_90 ?_
              refine r_callV h (fun l => c_X10_travelOf l _ _ _ _ hw) q1291 q1293 q32 q64 q1294 nd_X10_travelOf ⟨by decide, by decide⟩ rfl rfl ⟨by decide, by decide⟩ kci11 rfl h27 rfl (by first | decide | exact nl rfl) rfl dX10_awayFor_91 nxk (kI fun r32 S33 hw => ?_)
              refine r_iadd h dX10_awayFor_94 ?_
              refine r_callS h (fun l => c_X10_in l _ _ _ _ _ hw) q1268 q1269 q64 q1270 nd_X10_in ⟨by decide, by decide⟩ rfl rfl ⟨by decide, by decide⟩ (as := [.int x2, .int ((sI S17 b20 (Int32.toNatClampNeg x3)) - r24), .int ((sI S25 b28 (Int32.toNatClampNeg x3)) + r32)]) rfl (by first | decide | exact nl rfl) rfl dX10_awayFor_95 nxk (kI fun r35 S36 hw => ?_)
              refine r_if_ne h 104 dX10_awayFor_98 (by decide) (fun hc => ?_) (fun hc => ?_)
              · replace hw := hw.1 hc
                refine r_aload_n h 0 rfl rfl dX10_awayFor_104 ?_
                refine r_iconst h (v := 0) (by decide) dX10_awayFor_105 ?_
                obtain ⟨h38, hw⟩ := hw
                refine r_puti h kci11 in11 tyX10_ok nmX10 (k := 23) (by decide) rfl rfl rfl rfl rfl rfl q1195 h38 dX10_awayFor_106 ?_
                refine r_iload_n h 3 rfl rfl dX10_awayFor_109 ?_
                exact r_iret h hq rfl ⟨_, rfl, hw⟩ (by decide) (by decide) dX10_awayFor_110
              · replace hw := hw.2 hc
                refine r_goto h 111 dX10_awayFor_101 (by decide) ?_
                refine r_iinc h (j := 3) (v := (x3 + 1)) [1, 2, 3, 0] rfl rfl (by decide) rfl dX10_awayFor_111 ?_
                refine r_goto h 34 dX10_awayFor_114 (by decide) ?_
                exact ih _ _ _ _ _ hw
  unfold w_X10_awayFor at hw
  refine r_aload_n h 0 rfl rfl dX10_awayFor_0 ?_
  refine r_aload_n h 0 rfl rfl dX10_awayFor_1 ?_
  refine r_iload_n h 1 rfl rfl dX10_awayFor_2 ?_
  obtain ⟨h1, hw⟩ := hw
  refine r_callV h (fun l => c_X10_isWork l _ _ _ _ hw) q1350 q1352 q42 q64 q1353 nd_X10_isWork ⟨by decide, by decide⟩ rfl rfl ⟨by decide, by decide⟩ kci11 rfl h1 rfl (by first | decide | exact nl rfl) rfl dX10_awayFor_3 nxk (kI fun r2 S3 hw => ?_)
  refine r_if_ne h 13 dX10_awayFor_6 (by decide) (fun hc => ?_) (fun hc => ?_)
  · replace hw := hw.1 hc
    refine r_iload_n h 2 rfl rfl dX10_awayFor_13 ?_
    refine r_bipush h (v := (-9)) (by decide) dX10_awayFor_14 ?_
    refine r_bipush h (v := 108) (by decide) dX10_awayFor_16 ?_
    refine r_callS h (fun l => c_X10_in l _ _ _ _ _ hw) q1268 q1269 q64 q1270 nd_X10_in ⟨by decide, by decide⟩ rfl rfl ⟨by decide, by decide⟩ (as := [.int x2, .int (-9), .int 108]) rfl (by first | decide | exact nl rfl) rfl dX10_awayFor_18 nxk (kI fun r5 S6 hw => ?_)
    refine r_if_ne h 28 dX10_awayFor_21 (by decide) (fun hc => ?_) (fun hc => ?_)
    · replace hw := hw.1 hc
      refine r_iconst h (v := 3) (by decide) dX10_awayFor_28 ?_
      obtain ⟨h8, hw⟩ := hw
      refine r_puti h kci11 in11 tyX10_ok nmX10 (k := 23) (by decide) rfl rfl rfl rfl rfl rfl q1195 h8 dX10_awayFor_29 ?_
      refine r_iconst h (v := 0) (by decide) dX10_awayFor_32 ?_
      refine r_istore_n h [1, 2, 3, 0] rfl (by decide) rfl dX10_awayFor_33 ?_
      obtain ⟨m, hw⟩ := hw
      exact L34 m _ _ _ _ _ hw
    · replace hw := hw.2 hc
      refine r_iconst h (v := 2) (by decide) dX10_awayFor_24 ?_
      refine r_goto h 29 dX10_awayFor_25 (by decide) ?_
      obtain ⟨h40, hw⟩ := hw
      refine r_puti h kci11 in11 tyX10_ok nmX10 (k := 23) (by decide) rfl rfl rfl rfl rfl rfl q1195 h40 dX10_awayFor_29 ?_
      refine r_iconst h (v := 0) (by decide) dX10_awayFor_32 ?_
      refine r_istore_n h [1, 2, 3, 0] rfl (by decide) rfl dX10_awayFor_33 ?_
      obtain ⟨m, hw⟩ := hw
      exact L34 m _ _ _ _ _ hw
  · replace hw := hw.2 hc
    refine r_iconst h (v := 1) (by decide) dX10_awayFor_9 ?_
    refine r_goto h 29 dX10_awayFor_10 (by decide) ?_
    obtain ⟨h42, hw⟩ := hw
    refine r_puti h kci11 in11 tyX10_ok nmX10 (k := 23) (by decide) rfl rfl rfl rfl rfl rfl q1195 h42 dX10_awayFor_29 ?_
    refine r_iconst h (v := 0) (by decide) dX10_awayFor_32 ?_
    refine r_istore_n h [1, 2, 3, 0] rfl (by decide) rfl dX10_awayFor_33 ?_
    obtain ⟨m, hw⟩ := hw
    exact L34 m _ _ _ _ _ hw

def w_X10_planned (S : St) (a0 : Nat) (f : Int32 → St → Prop) : Prop := ok S a0 11 ∧ w_X10_plain S a0 (sI S a0 28) (fun (r2 : Int32) (S3 : St) => f r2 S3)
set_option maxRecDepth 100000 in
set_option maxHeartbeats 4000000 in
theorem c_X10_planned (l : Launch) (S : St) (a0 : Nat) (f : Int32 → St → Prop) (hw : w_X10_planned S a0 f) : Ct l yX10_planned (Cond.code yX10_planned cX10_planned 1 (some .int)) { frames := 1, cells := 0, slots := 0, locals := 21 } 0 0 S [.ref a0] (pI f) nox := by
  refine entry (by decide +kernel) rfl rfl (by first | decide | exact nl rfl) rfl ?_
  intro X h hq
  unfold w_X10_planned at hw
  refine r_aload_n h 0 rfl rfl dX10_planned_0 ?_
  refine r_aload_n h 0 rfl rfl dX10_planned_1 ?_
  obtain ⟨h1, hw⟩ := hw
  refine r_geti h kci11 in11 (k := 28) (by decide) rfl rfl q1200 h1 dX10_planned_2 ?_
  refine r_callV h (fun l => c_X10_plain l _ _ _ _ hw) q1366 q1368 q45 q64 q1369 nd_X10_plain ⟨by decide, by decide⟩ rfl rfl ⟨by decide, by decide⟩ kci11 rfl h1 rfl (by first | decide | exact nl rfl) rfl dX10_planned_5 nxk (kI fun r2 S3 hw => ?_)
  exact r_iret h hq rfl ⟨_, rfl, hw⟩ (by decide) (by decide) dX10_planned_8

def wl_X10_insured_20 (f : Int64 → St → Prop) (k9 : St → Nat → Int64 → Int32 → Prop) : Nat → St → Nat → Int64 → Int32 → Int32 → Prop
  | 0, _, _, _, _, _ => False
  | n + 1, S, a0, x1, x3, x4 => ok S a0 11 ∧ ∃ b7 : Nat, sP S a0 17 = some b7 ∧ ok S b7 101 ∧ vp_in x3 (sN S b7) ∧ ((((sI S b7 (Int32.toNatClampNeg x3)) ≤ x4) → k9 S a0 x1 (x3 + 1)) ∧ ((¬ (sI S b7 (Int32.toNatClampNeg x3)) ≤ x4) → ∃ b11 : Nat, sP S a0 18 = some b11 ∧ ok S b11 101 ∧ vp_in ((5 * x3) + x4) (sN S b11) ∧ ∃ b15 : Nat, sP S a0 16 = some b15 ∧ ok S b15 101 ∧ vp_in x3 (sN S b15) ∧ (((¬ (sI S b15 (Int32.toNatClampNeg x3)) = 112) → wl_X10_insured_20 f k9 n S a0 x1 x3 (x4 + 1)) ∧ (((sI S b15 (Int32.toNatClampNeg x3)) = 112) → ∃ b19 : Nat, sP S a0 11 = some b19 ∧ ok S b19 101 ∧ vp_in (sI S b11 (Int32.toNatClampNeg ((5 * x3) + x4))) (sN S b19) ∧ ((((sI S b19 (Int32.toNatClampNeg (sI S b11 (Int32.toNatClampNeg ((5 * x3) + x4))))) < 0) → wl_X10_insured_20 f k9 n S a0 x1 x3 (x4 + 1)) ∧ ((¬ (sI S b19 (Int32.toNatClampNeg (sI S b11 (Int32.toNatClampNeg ((5 * x3) + x4))))) < 0) → ∃ b23 : Nat, sP S a0 10 = some b23 ∧ ok S b23 101 ∧ vp_in (sI S b11 (Int32.toNatClampNeg ((5 * x3) + x4))) (sN S b23) ∧ ∃ b27 : Nat, sP S a0 14 = some b27 ∧ ok S b27 101 ∧ vp_in x3 (sN S b27) ∧ ∃ b31 : Nat, sP S a0 13 = some b31 ∧ ok S b31 101 ∧ vp_in x3 (sN S b31) ∧ w_X10_travelOf S a0 (sI S b11 (Int32.toNatClampNeg ((5 * x3) + x4))) (fun (r35 : Int32) (S36 : St) => wl_X10_insured_20 f k9 n S36 a0 (x1 + ((Int32.toInt64 (sI S b23 (Int32.toNatClampNeg (sI S b11 (Int32.toNatClampNeg ((5 * x3) + x4)))))) * (Int32.toInt64 ((((sI S b27 (Int32.toNatClampNeg x3)) - (sI S b31 (Int32.toNatClampNeg x3))) + 1) + (2 * r35))))) x3 (x4 + 1))))))))
def wl_X10_insured_9 (f : Int64 → St → Prop) : Nat → St → Nat → Int64 → Int32 → Prop
  | 0, _, _, _, _ => False
  | n + 1, S, a0, x1, x3 => ok S a0 11 ∧ ((((sI S a0 27) ≤ x3) → f x1 S) ∧ ((¬ (sI S a0 27) ≤ x3) → (∃ m : Nat, wl_X10_insured_20 f (wl_X10_insured_9 f n) m S a0 x1 x3 0)))
def w_X10_insured (S : St) (a0 : Nat) (f : Int64 → St → Prop) : Prop := ok S a0 11 ∧ let S2 : St := setI S a0 23 0; (∃ m : Nat, wl_X10_insured_9 f m S2 a0 0 0)
set_option maxRecDepth 100000 in
set_option maxHeartbeats 4000000 in
theorem c_X10_insured (l : Launch) (S : St) (a0 : Nat) (f : Int64 → St → Prop) (hw : w_X10_insured S a0 f) : Ct l yX10_insured (Cond.code yX10_insured cX10_insured 6 (some .long)) { frames := 1, cells := 0, slots := 0, locals := 21 } 0 0 S [.ref a0] (pJ f) nox := by
  refine entry (by decide +kernel) rfl rfl (by first | decide | exact nl rfl) rfl ?_
  intro X h hq
  have L20 : ∀ (k9 : St → Nat → Int64 → Int32 → Prop), (∀ (S : St) (a0 : Nat) (x1 : Int64) (x3 : Int32), k9 S a0 x1 x3 → pw X 0 0 S 9 [(0, .ref a0), (1, .long x1), (3, .int x3)] []) → ∀ (n : Nat) (S : St) (a0 : Nat) (x1 : Int64) (x3 : Int32) (x4 : Int32), wl_X10_insured_20 f k9 n S a0 x1 x3 x4 → pw X 0 0 S 20 [(0, .ref a0), (1, .long x1), (3, .int x3), (4, .int x4)] [] := by
    intro k9 hk9 n
    induction n with
    | zero => intro S a0 x1 x3 x4 hw; exact hw.elim
    | succ n ih =>
      intro S a0 x1 x3 x4 hw
      unfold wl_X10_insured_20 at hw
      refine r_iload h 3 rfl dX10_insured_20 ?_
      refine r_aload_n h 0 rfl rfl dX10_insured_22 ?_
      obtain ⟨h6, hw⟩ := hw
      obtain ⟨b7, h8, hw⟩ := hw
      refine r_getr h kci11 in11 (k := 17) (by decide) rfl rfl q1189 h6 h8 dX10_insured_23 ?_
      refine r_iload_n h 2 rfl rfl dX10_insured_26 ?_
      obtain ⟨h9, hw⟩ := hw
      obtain ⟨h10, hw⟩ := hw
      refine r_iald h h9 h10 dX10_insured_27 ?_
      refine r_icmp_ge h 108 dX10_insured_28 (by decide) (fun hc => ?_) (fun hc => ?_)
      · replace hw := hw.1 hc
        refine r_iinc h (j := 2) (v := (x3 + 1)) [1, 2, 0, 3] rfl rfl (by decide) rfl dX10_insured_108 ?_
        refine r_goto h 9 dX10_insured_111 (by decide) ?_
        refine r_vs [0, 1, 2] rfl ?_
        exact hk9 _ _ _ _ hw
      · replace hw := hw.2 hc
        refine r_aload_n h 0 rfl rfl dX10_insured_31 ?_
        obtain ⟨b11, h12, hw⟩ := hw
        refine r_getr h kci11 in11 (k := 18) (by decide) rfl rfl q1190 h6 h12 dX10_insured_32 ?_
        refine r_iconst h (v := 5) (by decide) dX10_insured_35 ?_
        refine r_iload_n h 2 rfl rfl dX10_insured_36 ?_
        refine r_imul h dX10_insured_37 ?_
        refine r_iload h 3 rfl dX10_insured_38 ?_
        refine r_iadd h dX10_insured_40 ?_
        obtain ⟨h13, hw⟩ := hw
        obtain ⟨h14, hw⟩ := hw
        refine r_iald h h13 h14 dX10_insured_41 ?_
        refine r_istore h [1, 2, 3, 4, 0] (by decide) rfl dX10_insured_42 ?_
        refine r_aload_n h 0 rfl rfl dX10_insured_44 ?_
        obtain ⟨b15, h16, hw⟩ := hw
        refine r_getr h kci11 in11 (k := 16) (by decide) rfl rfl q1188 h6 h16 dX10_insured_45 ?_
        refine r_iload_n h 2 rfl rfl dX10_insured_48 ?_
        obtain ⟨h17, hw⟩ := hw
        obtain ⟨h18, hw⟩ := hw
        refine r_iald h h17 h18 dX10_insured_49 ?_
        refine r_bipush h (v := 112) (by decide) dX10_insured_50 ?_
        refine r_icmp_ne h 102 dX10_insured_52 (by decide) (fun hc => ?_) (fun hc => ?_)
        · replace hw := hw.1 hc
          refine r_iinc h (j := 3) (v := (x4 + 1)) [1, 2, 3, 0, 4] rfl rfl (by decide) rfl dX10_insured_102 ?_
          refine r_goto h 20 dX10_insured_105 (by decide) ?_
          refine r_vs [0, 1, 2, 3] rfl ?_
          exact ih _ _ _ _ _ hw
        · replace hw := hw.2 hc
          refine r_aload_n h 0 rfl rfl dX10_insured_55 ?_
          obtain ⟨b19, h20, hw⟩ := hw
          refine r_getr h kci11 in11 (k := 11) (by decide) rfl rfl q1183 h6 h20 dX10_insured_56 ?_
          refine r_iload h 4 rfl dX10_insured_59 ?_
          obtain ⟨h21, hw⟩ := hw
          obtain ⟨h22, hw⟩ := hw
          refine r_iald h h21 h22 dX10_insured_61 ?_
          refine r_if_lt h 102 dX10_insured_62 (by decide) (fun hc => ?_) (fun hc => ?_)
          · replace hw := hw.1 hc
            refine r_iinc h (j := 3) (v := (x4 + 1)) [1, 2, 3, 0, 4] rfl rfl (by decide) rfl dX10_insured_102 ?_
            refine r_goto h 20 dX10_insured_105 (by decide) ?_
            refine r_vs [0, 1, 2, 3] rfl ?_
            exact ih _ _ _ _ _ hw
          · replace hw := hw.2 hc
            refine r_lload_n h 1 rfl rfl dX10_insured_65 ?_
            refine r_aload_n h 0 rfl rfl dX10_insured_66 ?_
            obtain ⟨b23, h24, hw⟩ := hw
            refine r_getr h kci11 in11 (k := 10) (by decide) rfl rfl q1182 h6 h24 dX10_insured_67 ?_
            refine r_iload h 4 rfl dX10_insured_70 ?_
            obtain ⟨h25, hw⟩ := hw
            obtain ⟨h26, hw⟩ := hw
            refine r_iald h h25 h26 dX10_insured_72 ?_
            refine r_i2l h dX10_insured_73 ?_
            refine r_aload_n h 0 rfl rfl dX10_insured_74 ?_
            obtain ⟨b27, h28, hw⟩ := hw
            refine r_getr h kci11 in11 (k := 14) (by decide) rfl rfl q1186 h6 h28 dX10_insured_75 ?_
            refine r_iload_n h 2 rfl rfl dX10_insured_78 ?_
            obtain ⟨h29, hw⟩ := hw
            obtain ⟨h30, hw⟩ := hw
            refine r_iald h h29 h30 dX10_insured_79 ?_
            refine r_aload_n h 0 rfl rfl dX10_insured_80 ?_
            obtain ⟨b31, h32, hw⟩ := hw
            refine r_getr h kci11 in11 (k := 13) (by decide) rfl rfl q1185 h6 h32 dX10_insured_81 ?_
            refine r_iload_n h 2 rfl rfl dX10_insured_84 ?_
            obtain ⟨h33, hw⟩ := hw
            obtain ⟨h34, hw⟩ := hw
            refine r_iald h h33 h34 dX10_insured_85 ?_
            refine r_isub h dX10_insured_86 ?_
            refine r_iconst h (v := 1) (by decide) dX10_insured_87 ?_
            refine r_iadd h dX10_insured_88 ?_
            refine r_iconst h (v := 2) (by decide) dX10_insured_89 ?_
            refine r_aload_n h 0 rfl rfl dX10_insured_90 ?_
            refine r_iload h 4 rfl dX10_insured_91 ?_
            refine r_callV h (fun l => c_X10_travelOf l _ _ _ _ hw) q1291 q1293 q32 q64 q1294 nd_X10_travelOf ⟨by decide, by decide⟩ rfl rfl ⟨by decide, by decide⟩ kci11 rfl h6 rfl (by first | decide | exact nl rfl) rfl dX10_insured_93 nxk (kI fun r35 S36 hw => ?_)
            refine r_imul h dX10_insured_96 ?_
            refine r_iadd h dX10_insured_97 ?_
            refine r_i2l h dX10_insured_98 ?_
            refine r_lmul h dX10_insured_99 ?_
            refine r_ladd h dX10_insured_100 ?_
            refine r_lstore_n h [1, 0, 2, 3] rfl (by decide) rfl dX10_insured_101 ?_
            refine r_iinc h (j := 3) (v := (x4 + 1)) [1, 2, 3, 0] rfl rfl (by decide) rfl dX10_insured_102 ?_
            refine r_goto h 20 dX10_insured_105 (by decide) ?_
            exact ih _ _ _ _ _ hw
  have L9 : ∀ (n : Nat) (S : St) (a0 : Nat) (x1 : Int64) (x3 : Int32), wl_X10_insured_9 f n S a0 x1 x3 → pw X 0 0 S 9 [(0, .ref a0), (1, .long x1), (3, .int x3)] [] := by
    intro n
    induction n with
    | zero => intro S a0 x1 x3 hw; exact hw.elim
    | succ n ih =>
      intro S a0 x1 x3 hw
      unfold wl_X10_insured_9 at hw
      refine r_iload_n h 2 rfl rfl dX10_insured_9 ?_
      refine r_aload_n h 0 rfl rfl dX10_insured_10 ?_
      obtain ⟨h4, hw⟩ := hw
      refine r_geti h kci11 in11 (k := 27) (by decide) rfl rfl q1199 h4 dX10_insured_11 ?_
      refine r_icmp_ge h 114 dX10_insured_14 (by decide) (fun hc => ?_) (fun hc => ?_)
      · replace hw := hw.1 hc
        refine r_lload_n h 1 rfl rfl dX10_insured_114 ?_
        exact r_lret h hq rfl ⟨_, rfl, hw⟩ (by decide) (by decide) dX10_insured_115
      · replace hw := hw.2 hc
        refine r_iconst h (v := 0) (by decide) dX10_insured_17 ?_
        refine r_istore h [1, 2, 3, 0] (by decide) rfl dX10_insured_18 ?_
        obtain ⟨m, hw⟩ := hw
        exact L20 _ ih m _ _ _ _ _ hw
  unfold w_X10_insured at hw
  refine r_aload_n h 0 rfl rfl dX10_insured_0 ?_
  refine r_iconst h (v := 0) (by decide) dX10_insured_1 ?_
  obtain ⟨h1, hw⟩ := hw
  refine r_puti h kci11 in11 tyX10_ok nmX10 (k := 23) (by decide) rfl rfl rfl rfl rfl rfl q1195 h1 dX10_insured_2 ?_
  refine r_lconst h (v := 0) (by decide) dX10_insured_5 ?_
  refine r_lstore_n h [1, 0] rfl (by decide) rfl dX10_insured_6 ?_
  refine r_iconst h (v := 0) (by decide) dX10_insured_7 ?_
  refine r_istore_n h [1, 2, 0] rfl (by decide) rfl dX10_insured_8 ?_
  obtain ⟨m, hw⟩ := hw
  exact L9 m _ _ _ _ hw

def wj_X10_meanWorks_36 (f : UInt64 → St → Prop) (k6 : St → Nat → Int32 → Int32 → Int32 → Prop) (S : St) (a0 : Nat) (x2 : Int32) (x3 : Int32) (t0 : Int32) (t1 : Int32) : Prop := ok S a0 11 ∧ ∃ b17 : Nat, sP S a0 16 = some b17 ∧ ok S b17 101 ∧ vp_in x3 (sN S b17) ∧ (((¬ (sI S b17 (Int32.toNatClampNeg x3)) = 112) → k6 S a0 (t1 + t0) (x2 + 0) (x3 + 1)) ∧ (((sI S b17 (Int32.toNatClampNeg x3)) = 112) → k6 S a0 (t1 + t0) (x2 + 1) (x3 + 1)))
def wl_X10_meanWorks_6 (f : UInt64 → St → Prop) : Nat → St → Nat → Int32 → Int32 → Int32 → Prop
  | 0, _, _, _, _, _ => False
  | n + 1, S, a0, x1, x2, x3 => ok S a0 11 ∧ ((((sI S a0 27) ≤ x3) → (((x2 ≤ 0) → w_X10_checked S a0 0 (fun (r3 : Int32) (S4 : St) => (((r3 ≤ 0) → vf_n64 (FP.ddiv (FP.i2d x1) (FP.i2d x2)) ∧ f (FP.ddiv (FP.i2d x1) (FP.i2d x2)) S4) ∧ ((¬ r3 ≤ 0) → f 0 S4)))) ∧ ((¬ x2 ≤ 0) → w_X10_checked S a0 1 (fun (r7 : Int32) (S8 : St) => (((r7 ≤ 0) → vf_n64 (FP.ddiv (FP.i2d x1) (FP.i2d x2)) ∧ f (FP.ddiv (FP.i2d x1) (FP.i2d x2)) S8) ∧ ((¬ r7 ≤ 0) → f 0 S8)))))) ∧ ((¬ (sI S a0 27) ≤ x3) → ∃ b11 : Nat, sP S a0 16 = some b11 ∧ ok S b11 101 ∧ vp_in x3 (sN S b11) ∧ (((¬ (sI S b11 (Int32.toNatClampNeg x3)) = 112) → wj_X10_meanWorks_36 f (wl_X10_meanWorks_6 f n) S a0 x2 x3 0 x1) ∧ (((sI S b11 (Int32.toNatClampNeg x3)) = 112) → ∃ b21 : Nat, sP S a0 17 = some b21 ∧ ok S b21 101 ∧ vp_in x3 (sN S b21) ∧ wj_X10_meanWorks_36 f (wl_X10_meanWorks_6 f n) S a0 x2 x3 (sI S b21 (Int32.toNatClampNeg x3)) x1))))
def w_X10_meanWorks (S : St) (a0 : Nat) (f : UInt64 → St → Prop) : Prop := (∃ m : Nat, wl_X10_meanWorks_6 f m S a0 0 0 0)
set_option maxRecDepth 100000 in
set_option maxHeartbeats 4000000 in
theorem c_X10_meanWorks (l : Launch) (S : St) (a0 : Nat) (f : UInt64 → St → Prop) (hw : w_X10_meanWorks S a0 f) : Ct l yX10_meanWorks (Cond.code yX10_meanWorks cX10_meanWorks 4 (some .double)) { frames := 1, cells := 0, slots := 0, locals := 21 } 0 0 S [.ref a0] (pD f) nox := by
  refine entry (by decide +kernel) rfl rfl (by first | decide | exact nl rfl) rfl ?_
  intro X h hq
  have L36 : ∀ (k6 : St → Nat → Int32 → Int32 → Int32 → Prop), (∀ (S : St) (a0 : Nat) (x1 : Int32) (x2 : Int32) (x3 : Int32), k6 S a0 x1 x2 x3 → pw X 0 0 S 6 [(0, .ref a0), (1, .int x1), (2, .int x2), (3, .int x3)] []) → ∀ (S : St) (a0 : Nat) (x2 : Int32) (x3 : Int32) (t0 : Int32) (t1 : Int32), wj_X10_meanWorks_36 f k6 S a0 x2 x3 t0 t1 → pw X 0 0 S 36 [(0, .ref a0), (2, .int x2), (3, .int x3)] [.int t0, .int t1] := by
    intro k6 hk6 S a0 x2 x3 t0 t1 hw
    unfold wj_X10_meanWorks_36 at hw
    refine r_iadd h dX10_meanWorks_36 ?_
    refine r_istore_n h [1, 0, 2, 3] rfl (by decide) rfl dX10_meanWorks_37 ?_
    refine r_iload_n h 2 rfl rfl dX10_meanWorks_38 ?_
    refine r_aload_n h 0 rfl rfl dX10_meanWorks_39 ?_
    obtain ⟨h16, hw⟩ := hw
    obtain ⟨b17, h18, hw⟩ := hw
    refine r_getr h kci11 in11 (k := 16) (by decide) rfl rfl q1188 h16 h18 dX10_meanWorks_40 ?_
    refine r_iload_n h 3 rfl rfl dX10_meanWorks_43 ?_
    obtain ⟨h19, hw⟩ := hw
    obtain ⟨h20, hw⟩ := hw
    refine r_iald h h19 h20 dX10_meanWorks_44 ?_
    refine r_bipush h (v := 112) (by decide) dX10_meanWorks_45 ?_
    refine r_icmp_ne h 54 dX10_meanWorks_47 (by decide) (fun hc => ?_) (fun hc => ?_)
    · replace hw := hw.1 hc
      refine r_iconst h (v := 0) (by decide) dX10_meanWorks_54 ?_
      refine r_iadd h dX10_meanWorks_55 ?_
      refine r_istore_n h [1, 2, 0, 3] rfl (by decide) rfl dX10_meanWorks_56 ?_
      refine r_iinc h (j := 3) (v := (x3 + 1)) [1, 2, 3, 0] rfl rfl (by decide) rfl dX10_meanWorks_57 ?_
      refine r_goto h 6 dX10_meanWorks_60 (by decide) ?_
      exact hk6 _ _ _ _ _ hw
    · replace hw := hw.2 hc
      refine r_iconst h (v := 1) (by decide) dX10_meanWorks_50 ?_
      refine r_goto h 55 dX10_meanWorks_51 (by decide) ?_
      refine r_iadd h dX10_meanWorks_55 ?_
      refine r_istore_n h [1, 2, 0, 3] rfl (by decide) rfl dX10_meanWorks_56 ?_
      refine r_iinc h (j := 3) (v := (x3 + 1)) [1, 2, 3, 0] rfl rfl (by decide) rfl dX10_meanWorks_57 ?_
      refine r_goto h 6 dX10_meanWorks_60 (by decide) ?_
      exact hk6 _ _ _ _ _ hw
  have L6 : ∀ (n : Nat) (S : St) (a0 : Nat) (x1 : Int32) (x2 : Int32) (x3 : Int32), wl_X10_meanWorks_6 f n S a0 x1 x2 x3 → pw X 0 0 S 6 [(0, .ref a0), (1, .int x1), (2, .int x2), (3, .int x3)] [] := by
    intro n
    induction n with
    | zero => intro S a0 x1 x2 x3 hw; exact hw.elim
    | succ n ih =>
      intro S a0 x1 x2 x3 hw
      unfold wl_X10_meanWorks_6 at hw
      refine r_iload_n h 3 rfl rfl dX10_meanWorks_6 ?_
      refine r_aload_n h 0 rfl rfl dX10_meanWorks_7 ?_
      obtain ⟨h2, hw⟩ := hw
      refine r_geti h kci11 in11 (k := 27) (by decide) rfl rfl q1199 h2 dX10_meanWorks_8 ?_
      refine r_icmp_ge h 63 dX10_meanWorks_11 (by decide) (fun hc => ?_) (fun hc => ?_)
      · replace hw := hw.1 hc
        refine r_aload_n h 0 rfl rfl dX10_meanWorks_63 ?_
        refine r_iload_n h 2 rfl rfl dX10_meanWorks_64 ?_
        refine r_if_le h 72 dX10_meanWorks_65 (by decide) (fun hc => ?_) (fun hc => ?_)
        · replace hw := hw.1 hc
          refine r_iconst h (v := 0) (by decide) dX10_meanWorks_72 ?_
          refine r_callV h (fun l => c_X10_checked l _ _ _ _ hw) q1378 q1380 q46 q64 q1381 nd_X10_checked ⟨by decide, by decide⟩ rfl rfl ⟨by decide, by decide⟩ kci11 rfl h2 rfl (by first | decide | exact nl rfl) rfl dX10_meanWorks_73 nxk (kI fun r3 S4 hw => ?_)
          refine r_if_le h 83 dX10_meanWorks_76 (by decide) (fun hc => ?_) (fun hc => ?_)
          · replace hw := hw.1 hc
            refine r_iload_n h 1 rfl rfl dX10_meanWorks_83 ?_
            refine r_i2d h dX10_meanWorks_84 ?_
            refine r_iload_n h 2 rfl rfl dX10_meanWorks_85 ?_
            refine r_i2d h dX10_meanWorks_86 ?_
            obtain ⟨h6, hw⟩ := hw
            refine r_ddiv h h6 dX10_meanWorks_87 ?_
            exact r_dret h hq rfl ⟨_, rfl, hw⟩ (by decide) (by decide) dX10_meanWorks_88
          · replace hw := hw.2 hc
            refine r_dconst0 h dX10_meanWorks_79 ?_
            refine r_goto h 88 dX10_meanWorks_80 (by decide) ?_
            exact r_dret h hq rfl ⟨_, rfl, hw⟩ (by decide) (by decide) dX10_meanWorks_88
        · replace hw := hw.2 hc
          refine r_iconst h (v := 1) (by decide) dX10_meanWorks_68 ?_
          refine r_goto h 73 dX10_meanWorks_69 (by decide) ?_
          refine r_callV h (fun l => c_X10_checked l _ _ _ _ hw) q1378 q1380 q46 q64 q1381 nd_X10_checked ⟨by decide, by decide⟩ rfl rfl ⟨by decide, by decide⟩ kci11 rfl h2 rfl (by first | decide | exact nl rfl) rfl dX10_meanWorks_73 nxk (kI fun r7 S8 hw => ?_)
          refine r_if_le h 83 dX10_meanWorks_76 (by decide) (fun hc => ?_) (fun hc => ?_)
          · replace hw := hw.1 hc
            refine r_iload_n h 1 rfl rfl dX10_meanWorks_83 ?_
            refine r_i2d h dX10_meanWorks_84 ?_
            refine r_iload_n h 2 rfl rfl dX10_meanWorks_85 ?_
            refine r_i2d h dX10_meanWorks_86 ?_
            obtain ⟨h10, hw⟩ := hw
            refine r_ddiv h h10 dX10_meanWorks_87 ?_
            exact r_dret h hq rfl ⟨_, rfl, hw⟩ (by decide) (by decide) dX10_meanWorks_88
          · replace hw := hw.2 hc
            refine r_dconst0 h dX10_meanWorks_79 ?_
            refine r_goto h 88 dX10_meanWorks_80 (by decide) ?_
            exact r_dret h hq rfl ⟨_, rfl, hw⟩ (by decide) (by decide) dX10_meanWorks_88
      · replace hw := hw.2 hc
        refine r_iload_n h 1 rfl rfl dX10_meanWorks_14 ?_
        refine r_aload_n h 0 rfl rfl dX10_meanWorks_15 ?_
        obtain ⟨b11, h12, hw⟩ := hw
        refine r_getr h kci11 in11 (k := 16) (by decide) rfl rfl q1188 h2 h12 dX10_meanWorks_16 ?_
        refine r_iload_n h 3 rfl rfl dX10_meanWorks_19 ?_
        obtain ⟨h13, hw⟩ := hw
        obtain ⟨h14, hw⟩ := hw
        refine r_iald h h13 h14 dX10_meanWorks_20 ?_
        refine r_bipush h (v := 112) (by decide) dX10_meanWorks_21 ?_
        refine r_icmp_ne h 35 dX10_meanWorks_23 (by decide) (fun hc => ?_) (fun hc => ?_)
        · replace hw := hw.1 hc
          refine r_iconst h (v := 0) (by decide) dX10_meanWorks_35 ?_
          refine r_vs [0, 2, 3] rfl ?_
          exact L36 _ ih _ _ _ _ _ _ hw
        · replace hw := hw.2 hc
          refine r_aload_n h 0 rfl rfl dX10_meanWorks_26 ?_
          obtain ⟨b21, h22, hw⟩ := hw
          refine r_getr h kci11 in11 (k := 17) (by decide) rfl rfl q1189 h2 h22 dX10_meanWorks_27 ?_
          refine r_iload_n h 3 rfl rfl dX10_meanWorks_30 ?_
          obtain ⟨h23, hw⟩ := hw
          obtain ⟨h24, hw⟩ := hw
          refine r_iald h h23 h24 dX10_meanWorks_31 ?_
          refine r_goto h 36 dX10_meanWorks_32 (by decide) ?_
          refine r_vs [0, 2, 3] rfl ?_
          exact L36 _ ih _ _ _ _ _ _ hw
  unfold w_X10_meanWorks at hw
  refine r_iconst h (v := 0) (by decide) dX10_meanWorks_0 ?_
  refine r_istore_n h [1, 0] rfl (by decide) rfl dX10_meanWorks_1 ?_
  refine r_iconst h (v := 0) (by decide) dX10_meanWorks_2 ?_
  refine r_istore_n h [1, 2, 0] rfl (by decide) rfl dX10_meanWorks_3 ?_
  refine r_iconst h (v := 0) (by decide) dX10_meanWorks_4 ?_
  refine r_istore_n h [1, 2, 3, 0] rfl (by decide) rfl dX10_meanWorks_5 ?_
  obtain ⟨m, hw⟩ := hw
  exact L6 m _ _ _ _ _ hw

def w_X10_share (S : St) (a0 : Nat) (x1 : Int32) (x2 : Int32) (f : UInt32 → St → Prop) : Prop := ok S a0 11 ∧ w_X10_isOff S a0 x1 x2 (fun (r2 : Int32) (S3 : St) => (((r2 = 0) → ok S3 a0 11 ∧ w_X10_takenOn S3 a0 x1 x2 (-1) (fun (r6 : Int32) (S7 : St) => ok S7 a0 11 ∧ ∃ b10 : Nat, sP S7 a0 2 = some b10 ∧ ok S7 b10 101 ∧ vp_in x1 (sN S7 b10) ∧ vf_n32 (FP.fdiv (FP.i2f r6) (FP.i2f (sI S7 b10 (Int32.toNatClampNeg x1)))) ∧ f (FP.fdiv (FP.i2f r6) (FP.i2f (sI S7 b10 (Int32.toNatClampNeg x1)))) S7)) ∧ ((¬ r2 = 0) → f 0 S3)))
set_option maxRecDepth 100000 in
set_option maxHeartbeats 4000000 in
theorem c_X10_share (l : Launch) (S : St) (a0 : Nat) (x1 : Int32) (x2 : Int32) (f : UInt32 → St → Prop) (hw : w_X10_share S a0 x1 x2 f) : Ct l yX10_share (Cond.code yX10_share cX10_share 3 (some .float)) { frames := 2, cells := 0, slots := 0, locals := 48 } 0 0 S [.ref a0, .int x1, .int x2] (pF f) nox := by
  refine entry (by decide +kernel) rfl rfl (by first | decide | exact nl rfl) rfl ?_
  intro X h hq
  unfold w_X10_share at hw
  refine r_aload_n h 0 rfl rfl dX10_share_0 ?_
  refine r_iload_n h 1 rfl rfl dX10_share_1 ?_
  refine r_iload_n h 2 rfl rfl dX10_share_2 ?_
  obtain ⟨h1, hw⟩ := hw
  refine r_callV h (fun l => c_X10_isOff l _ _ _ _ _ hw) q1464 q1466 q52 q64 q1467 nd_X10_isOff ⟨by decide, by decide⟩ rfl rfl ⟨by decide, by decide⟩ kci11 rfl h1 rfl (by first | decide | exact nl rfl) rfl dX10_share_3 nxk (kI fun r2 S3 hw => ?_)
  refine r_if_eq h 13 dX10_share_6 (by decide) (fun hc => ?_) (fun hc => ?_)
  · replace hw := hw.1 hc
    refine r_aload_n h 0 rfl rfl dX10_share_13 ?_
    refine r_iload_n h 1 rfl rfl dX10_share_14 ?_
    refine r_iload_n h 2 rfl rfl dX10_share_15 ?_
    refine r_iconst h (v := (-1)) (by decide) dX10_share_16 ?_
    obtain ⟨h5, hw⟩ := hw
    refine r_callV h (fun l => c_X10_takenOn l _ _ _ _ _ _ hw) q1322 q1324 q39 q64 q1325 nd_X10_takenOn ⟨by decide, by decide⟩ rfl rfl ⟨by decide, by decide⟩ kci11 rfl h5 rfl (by first | decide | exact nl rfl) rfl dX10_share_17 nxk (kI fun r6 S7 hw => ?_)
    refine r_i2f h dX10_share_20 ?_
    refine r_aload_n h 0 rfl rfl dX10_share_21 ?_
    obtain ⟨h9, hw⟩ := hw
    obtain ⟨b10, h11, hw⟩ := hw
    refine r_getr h kci11 in11 (k := 2) (by decide) rfl rfl q1174 h9 h11 dX10_share_22 ?_
    refine r_iload_n h 1 rfl rfl dX10_share_25 ?_
    obtain ⟨h12, hw⟩ := hw
    obtain ⟨h13, hw⟩ := hw
    refine r_iald h h12 h13 dX10_share_26 ?_
    refine r_i2f h dX10_share_27 ?_
    obtain ⟨h14, hw⟩ := hw
    refine r_fdiv h h14 dX10_share_28 ?_
    exact r_fret h hq rfl ⟨_, rfl, hw⟩ (by decide) (by decide) dX10_share_29
  · replace hw := hw.2 hc
    refine r_fconst0 h dX10_share_9 ?_
    refine r_goto h 29 dX10_share_10 (by decide) ?_
    exact r_fret h hq rfl ⟨_, rfl, hw⟩ (by decide) (by decide) dX10_share_29

def wl_X10_isRight_70 (f : Int32 → St → Prop) (k12 : St → Nat → Int32 → Int32 → Prop) : Nat → St → Nat → Int32 → Int32 → Int32 → Int32 → Int32 → Prop
  | 0, _, _, _, _, _, _, _ => False
  | n + 1, S, a0, x1, x2, x3, x4, x5 => (((x2 ≤ x5) → k12 S a0 x1 (x2 + 1)) ∧ ((¬ x2 ≤ x5) → ok S a0 11 ∧ ∃ b28 : Nat, sP S a0 12 = some b28 ∧ ∃ b30 : Nat, sP S a0 18 = some b30 ∧ ok S b30 101 ∧ vp_in ((5 * x1) + x5) (sN S b30) ∧ ok S b28 101 ∧ vp_in ((12 * x3) + (sI S b30 (Int32.toNatClampNeg ((5 * x1) + x5)))) (sN S b28) ∧ ∃ b36 : Nat, sP S a0 19 = some b36 ∧ ok S b36 101 ∧ vp_in ((5 * x1) + x5) (sN S b36) ∧ w_X10_isBroken S (sI S b28 (Int32.toNatClampNeg ((12 * x3) + (sI S b30 (Int32.toNatClampNeg ((5 * x1) + x5)))))) x4 (sI S b36 (Int32.toNatClampNeg ((5 * x1) + x5))) (fun (r40 : Int32) (S41 : St) => (((r40 = 0) → wl_X10_isRight_70 f k12 n S41 a0 x1 x2 x3 x4 (x5 + 1)) ∧ ((¬ r40 = 0) → f 0 S41)))))
def wl_X10_isRight_12 (f : Int32 → St → Prop) : Nat → St → Nat → Int32 → Int32 → Prop
  | 0, _, _, _, _ => False
  | n + 1, S, a0, x1, x2 => ok S a0 11 ∧ ∃ b7 : Nat, sP S a0 17 = some b7 ∧ ok S b7 101 ∧ vp_in x1 (sN S b7) ∧ ((((sI S b7 (Int32.toNatClampNeg x1)) ≤ x2) → f 1 S) ∧ ((¬ (sI S b7 (Int32.toNatClampNeg x1)) ≤ x2) → ∃ b11 : Nat, sP S a0 18 = some b11 ∧ ok S b11 101 ∧ vp_in ((5 * x1) + x2) (sN S b11) ∧ ∃ b15 : Nat, sP S a0 19 = some b15 ∧ ok S b15 101 ∧ vp_in ((5 * x1) + x2) (sN S b15) ∧ w_X10_isElsewhere S a0 x1 (sI S b11 (Int32.toNatClampNeg ((5 * x1) + x2))) (fun (r19 : Int32) (S20 : St) => (((¬ r19 = 0) → f 0 S20) ∧ ((r19 = 0) → ok S20 a0 11 ∧ w_X10_breaksOthers S20 a0 x1 (sI S b11 (Int32.toNatClampNeg ((5 * x1) + x2))) (sI S b15 (Int32.toNatClampNeg ((5 * x1) + x2))) (fun (r23 : Int32) (S24 : St) => (((r23 = 0) → (∃ m : Nat, wl_X10_isRight_70 f (wl_X10_isRight_12 f n) m S24 a0 x1 x2 (sI S b11 (Int32.toNatClampNeg ((5 * x1) + x2))) (sI S b15 (Int32.toNatClampNeg ((5 * x1) + x2))) 0)) ∧ ((¬ r23 = 0) → f 0 S24))))))))
def w_X10_isRight (S : St) (a0 : Nat) (x1 : Int32) (f : Int32 → St → Prop) : Prop := ok S a0 11 ∧ w_X10_isSpoiled S a0 x1 (fun (r2 : Int32) (S3 : St) => (((r2 = 0) → (∃ m : Nat, wl_X10_isRight_12 f m S3 a0 x1 0)) ∧ ((¬ r2 = 0) → f 0 S3)))
set_option maxRecDepth 100000 in
set_option maxHeartbeats 4000000 in
theorem c_X10_isRight (l : Launch) (S : St) (a0 : Nat) (x1 : Int32) (f : Int32 → St → Prop) (hw : w_X10_isRight S a0 x1 f) : Ct l yX10_isRight (Cond.code yX10_isRight cX10_isRight 6 (some .boolean)) { frames := 3, cells := 0, slots := 0, locals := 66 } 0 0 S [.ref a0, .int x1] (pI f) nox := by
  refine entry (by decide +kernel) rfl rfl (by first | decide | exact nl rfl) rfl ?_
  intro X h hq
  have L70 : ∀ (k12 : St → Nat → Int32 → Int32 → Prop), (∀ (S : St) (a0 : Nat) (x1 : Int32) (x2 : Int32), k12 S a0 x1 x2 → pw X 0 0 S 12 [(0, .ref a0), (1, .int x1), (2, .int x2)] []) → ∀ (n : Nat) (S : St) (a0 : Nat) (x1 : Int32) (x2 : Int32) (x3 : Int32) (x4 : Int32) (x5 : Int32), wl_X10_isRight_70 f k12 n S a0 x1 x2 x3 x4 x5 → pw X 0 0 S 70 [(0, .ref a0), (1, .int x1), (2, .int x2), (3, .int x3), (4, .int x4), (5, .int x5)] [] := by
    intro k12 hk12 n
    induction n with
    | zero => intro S a0 x1 x2 x3 x4 x5 hw; exact hw.elim
    | succ n ih =>
      intro S a0 x1 x2 x3 x4 x5 hw
      unfold wl_X10_isRight_70 at hw
      refine r_iload h 5 rfl dX10_isRight_70 ?_
      refine r_iload_n h 2 rfl rfl dX10_isRight_72 ?_
      refine r_icmp_ge h 124 dX10_isRight_73 (by decide) (fun hc => ?_) (fun hc => ?_)
      · replace hw := hw.1 hc
        refine r_iinc h (j := 2) (v := (x2 + 1)) [1, 2, 0, 3, 4, 5] rfl rfl (by decide) rfl dX10_isRight_124 ?_
        refine r_goto h 12 dX10_isRight_127 (by decide) ?_
        refine r_vs [0, 1, 2] rfl ?_
        exact hk12 _ _ _ _ hw
      · replace hw := hw.2 hc
        refine r_aload_n h 0 rfl rfl dX10_isRight_76 ?_
        obtain ⟨h27, hw⟩ := hw
        obtain ⟨b28, h29, hw⟩ := hw
        refine r_getr h kci11 in11 (k := 12) (by decide) rfl rfl q1184 h27 h29 dX10_isRight_77 ?_
        refine r_bipush h (v := 12) (by decide) dX10_isRight_80 ?_
        refine r_iload_n h 3 rfl rfl dX10_isRight_82 ?_
        refine r_imul h dX10_isRight_83 ?_
        refine r_aload_n h 0 rfl rfl dX10_isRight_84 ?_
        obtain ⟨b30, h31, hw⟩ := hw
        refine r_getr h kci11 in11 (k := 18) (by decide) rfl rfl q1190 h27 h31 dX10_isRight_85 ?_
        refine r_iconst h (v := 5) (by decide) dX10_isRight_88 ?_
        refine r_iload_n h 1 rfl rfl dX10_isRight_89 ?_
        refine r_imul h dX10_isRight_90 ?_
        refine r_iload h 5 rfl dX10_isRight_91 ?_
        refine r_iadd h dX10_isRight_93 ?_
        obtain ⟨h32, hw⟩ := hw
        obtain ⟨h33, hw⟩ := hw
        refine r_iald h h32 h33 dX10_isRight_94 ?_
        refine r_iadd h dX10_isRight_95 ?_
        obtain ⟨h34, hw⟩ := hw
        obtain ⟨h35, hw⟩ := hw
        refine r_iald h h34 h35 dX10_isRight_96 ?_
        refine r_iload h 4 rfl dX10_isRight_97 ?_
        refine r_aload_n h 0 rfl rfl dX10_isRight_99 ?_
        obtain ⟨b36, h37, hw⟩ := hw
        refine r_getr h kci11 in11 (k := 19) (by decide) rfl rfl q1191 h27 h37 dX10_isRight_100 ?_
        refine r_iconst h (v := 5) (by decide) dX10_isRight_103 ?_
        refine r_iload_n h 1 rfl rfl dX10_isRight_104 ?_
        refine r_imul h dX10_isRight_105 ?_
        refine r_iload h 5 rfl dX10_isRight_106 ?_
        refine r_iadd h dX10_isRight_108 ?_
        obtain ⟨h38, hw⟩ := hw
        obtain ⟨h39, hw⟩ := hw
        refine r_iald h h38 h39 dX10_isRight_109 ?_
        refine r_callS h (fun l => c_X10_isBroken l _ _ _ _ _ hw) q1315 q1316 q64 q1317 nd_X10_isBroken ⟨by decide, by decide⟩ rfl rfl ⟨by decide, by decide⟩ (as := [.int (sI S b28 (Int32.toNatClampNeg ((12 * x3) + (sI S b30 (Int32.toNatClampNeg ((5 * x1) + x5)))))), .int x4, .int (sI S b36 (Int32.toNatClampNeg ((5 * x1) + x5)))]) rfl (by first | decide | exact nl rfl) rfl dX10_isRight_110 nxk (kI fun r40 S41 hw => ?_)
        refine r_if_eq h 118 dX10_isRight_113 (by decide) (fun hc => ?_) (fun hc => ?_)
        · replace hw := hw.1 hc
          refine r_iinc h (j := 5) (v := (x5 + 1)) [1, 2, 3, 4, 5, 0] rfl rfl (by decide) rfl dX10_isRight_118 ?_
          refine r_goto h 70 dX10_isRight_121 (by decide) ?_
          exact ih _ _ _ _ _ _ _ hw
        · replace hw := hw.2 hc
          refine r_iconst h (v := 0) (by decide) dX10_isRight_116 ?_
          exact r_zret h hq (ty := .boolean) rfl rfl ⟨_, rfl, hw⟩ (by decide) (by decide) dX10_isRight_117
  have L12 : ∀ (n : Nat) (S : St) (a0 : Nat) (x1 : Int32) (x2 : Int32), wl_X10_isRight_12 f n S a0 x1 x2 → pw X 0 0 S 12 [(0, .ref a0), (1, .int x1), (2, .int x2)] [] := by
    intro n
    induction n with
    | zero => intro S a0 x1 x2 hw; exact hw.elim
    | succ n ih =>
      intro S a0 x1 x2 hw
      unfold wl_X10_isRight_12 at hw
      refine r_iload_n h 2 rfl rfl dX10_isRight_12 ?_
      refine r_aload_n h 0 rfl rfl dX10_isRight_13 ?_
      obtain ⟨h6, hw⟩ := hw
      obtain ⟨b7, h8, hw⟩ := hw
      refine r_getr h kci11 in11 (k := 17) (by decide) rfl rfl q1189 h6 h8 dX10_isRight_14 ?_
      refine r_iload_n h 1 rfl rfl dX10_isRight_17 ?_
      obtain ⟨h9, hw⟩ := hw
      obtain ⟨h10, hw⟩ := hw
      refine r_iald h h9 h10 dX10_isRight_18 ?_
      refine r_icmp_ge h 130 dX10_isRight_19 (by decide) (fun hc => ?_) (fun hc => ?_)
      · replace hw := hw.1 hc
        refine r_iconst h (v := 1) (by decide) dX10_isRight_130 ?_
        exact r_zret h hq (ty := .boolean) rfl rfl ⟨_, rfl, hw⟩ (by decide) (by decide) dX10_isRight_131
      · replace hw := hw.2 hc
        refine r_aload_n h 0 rfl rfl dX10_isRight_22 ?_
        obtain ⟨b11, h12, hw⟩ := hw
        refine r_getr h kci11 in11 (k := 18) (by decide) rfl rfl q1190 h6 h12 dX10_isRight_23 ?_
        refine r_iconst h (v := 5) (by decide) dX10_isRight_26 ?_
        refine r_iload_n h 1 rfl rfl dX10_isRight_27 ?_
        refine r_imul h dX10_isRight_28 ?_
        refine r_iload_n h 2 rfl rfl dX10_isRight_29 ?_
        refine r_iadd h dX10_isRight_30 ?_
        obtain ⟨h13, hw⟩ := hw
        obtain ⟨h14, hw⟩ := hw
        refine r_iald h h13 h14 dX10_isRight_31 ?_
        refine r_istore_n h [1, 2, 3, 0] rfl (by decide) rfl dX10_isRight_32 ?_
        refine r_aload_n h 0 rfl rfl dX10_isRight_33 ?_
        obtain ⟨b15, h16, hw⟩ := hw
        refine r_getr h kci11 in11 (k := 19) (by decide) rfl rfl q1191 h6 h16 dX10_isRight_34 ?_
        refine r_iconst h (v := 5) (by decide) dX10_isRight_37 ?_
        refine r_iload_n h 1 rfl rfl dX10_isRight_38 ?_
        refine r_imul h dX10_isRight_39 ?_
        refine r_iload_n h 2 rfl rfl dX10_isRight_40 ?_
        refine r_iadd h dX10_isRight_41 ?_
        obtain ⟨h17, hw⟩ := hw
        obtain ⟨h18, hw⟩ := hw
        refine r_iald h h17 h18 dX10_isRight_42 ?_
        refine r_istore h [1, 2, 3, 4, 0] (by decide) rfl dX10_isRight_43 ?_
        refine r_aload_n h 0 rfl rfl dX10_isRight_45 ?_
        refine r_iload_n h 1 rfl rfl dX10_isRight_46 ?_
        refine r_iload_n h 3 rfl rfl dX10_isRight_47 ?_
        refine r_callV h (fun l => c_X10_isElsewhere l _ _ _ _ _ hw) q1287 q1289 q31 q64 q1290 nd_X10_isElsewhere ⟨by decide, by decide⟩ rfl rfl ⟨by decide, by decide⟩ kci11 rfl h6 rfl (by first | decide | exact nl rfl) rfl dX10_isRight_48 nxk (kI fun r19 S20 hw => ?_)
        refine r_if_ne h 65 dX10_isRight_51 (by decide) (fun hc => ?_) (fun hc => ?_)
        · replace hw := hw.1 hc
          refine r_iconst h (v := 0) (by decide) dX10_isRight_65 ?_
          exact r_zret h hq (ty := .boolean) rfl rfl ⟨_, rfl, hw⟩ (by decide) (by decide) dX10_isRight_66
        · replace hw := hw.2 hc
          refine r_aload_n h 0 rfl rfl dX10_isRight_54 ?_
          refine r_iload_n h 1 rfl rfl dX10_isRight_55 ?_
          refine r_iload_n h 3 rfl rfl dX10_isRight_56 ?_
          refine r_iload h 4 rfl dX10_isRight_57 ?_
          obtain ⟨h22, hw⟩ := hw
          refine r_callV h (fun l => c_X10_breaksOthers l _ _ _ _ _ _ hw) q1307 q1309 q36 q64 q1310 nd_X10_breaksOthers ⟨by decide, by decide⟩ rfl rfl ⟨by decide, by decide⟩ kci11 rfl h22 rfl (by first | decide | exact nl rfl) rfl dX10_isRight_59 nxk (kI fun r23 S24 hw => ?_)
          refine r_if_eq h 67 dX10_isRight_62 (by decide) (fun hc => ?_) (fun hc => ?_)
          · replace hw := hw.1 hc
            refine r_iconst h (v := 0) (by decide) dX10_isRight_67 ?_
            refine r_istore h [1, 2, 3, 4, 5, 0] (by decide) rfl dX10_isRight_68 ?_
            obtain ⟨m, hw⟩ := hw
            exact L70 _ ih m _ _ _ _ _ _ _ hw
          · replace hw := hw.2 hc
            refine r_iconst h (v := 0) (by decide) dX10_isRight_65 ?_
            exact r_zret h hq (ty := .boolean) rfl rfl ⟨_, rfl, hw⟩ (by decide) (by decide) dX10_isRight_66
  unfold w_X10_isRight at hw
  refine r_aload_n h 0 rfl rfl dX10_isRight_0 ?_
  refine r_iload_n h 1 rfl rfl dX10_isRight_1 ?_
  obtain ⟨h1, hw⟩ := hw
  refine r_callV h (fun l => c_X10_isSpoiled l _ _ _ _ hw) q1334 q1336 q41 q64 q1337 nd_X10_isSpoiled ⟨by decide, by decide⟩ rfl rfl ⟨by decide, by decide⟩ kci11 rfl h1 rfl (by first | decide | exact nl rfl) rfl dX10_isRight_2 nxk (kI fun r2 S3 hw => ?_)
  refine r_if_eq h 10 dX10_isRight_5 (by decide) (fun hc => ?_) (fun hc => ?_)
  · replace hw := hw.1 hc
    refine r_iconst h (v := 0) (by decide) dX10_isRight_10 ?_
    refine r_istore_n h [1, 2, 0] rfl (by decide) rfl dX10_isRight_11 ?_
    obtain ⟨m, hw⟩ := hw
    exact L12 m _ _ _ _ hw
  · replace hw := hw.2 hc
    refine r_iconst h (v := 0) (by decide) dX10_isRight_8 ?_
    exact r_zret h hq (ty := .boolean) rfl rfl ⟨_, rfl, hw⟩ (by decide) (by decide) dX10_isRight_9

def wl_X10_isSafe_75 (f : Int32 → St → Prop) (k63 : St → Nat → Int32 → Prop) : Nat → St → Nat → Int32 → Int32 → Prop
  | 0, _, _, _, _ => False
  | n + 1, S, a0, x1, x2 => (((100 ≤ x2) → k63 S a0 (x1 + 1)) ∧ ((¬ 100 ≤ x2) → ok S a0 11 ∧ w_X10_takenOn S a0 x1 x2 (-1) (fun (r9 : Int32) (S10 : St) => ok S10 a0 11 ∧ ∃ b13 : Nat, sP S10 a0 2 = some b13 ∧ ok S10 b13 101 ∧ vp_in x1 (sN S10 b13) ∧ (((r9 ≤ (sI S10 b13 (Int32.toNatClampNeg x1))) → wl_X10_isSafe_75 f k63 n S10 a0 x1 (x2 + 1)) ∧ ((¬ r9 ≤ (sI S10 b13 (Int32.toNatClampNeg x1))) → f 0 S10)))))
def wl_X10_isSafe_63 (f : Int32 → St → Prop) : Nat → St → Nat → Int32 → Prop
  | 0, _, _, _ => False
  | n + 1, S, a0, x1 => ok S a0 11 ∧ ((((2 * (sI S a0 24)) ≤ x1) → f 1 S) ∧ ((¬ (2 * (sI S a0 24)) ≤ x1) → (∃ m : Nat, wl_X10_isSafe_75 f (wl_X10_isSafe_63 f n) m S a0 x1 0)))
def wj_X10_isSafe_34 (f : Int32 → St → Prop) (k7 : St → Nat → Int32 → Prop) (S : St) (a0 : Nat) (x1 : Int32) : Prop := ok S a0 11 ∧ ∃ b23 : Nat, sP S a0 16 = some b23 ∧ ok S b23 101 ∧ vp_in x1 (sN S b23) ∧ (((¬ (sI S b23 (Int32.toNatClampNeg x1)) = 119) → k7 S a0 (x1 + 1)) ∧ (((sI S b23 (Int32.toNatClampNeg x1)) = 119) → w_X10_plans S a0 x1 (fun (r27 : Int32) (S28 : St) => (((r27 = 0) → k7 S28 a0 (x1 + 1)) ∧ ((¬ r27 = 0) → f 0 S28)))))
def wl_X10_isSafe_7 (f : Int32 → St → Prop) : Nat → St → Nat → Int32 → Prop
  | 0, _, _, _ => False
  | n + 1, S, a0, x1 => ok S a0 11 ∧ ((((sI S a0 27) ≤ x1) → (∃ m : Nat, wl_X10_isSafe_63 f m S a0 0)) ∧ ((¬ (sI S a0 27) ≤ x1) → ∃ b17 : Nat, sP S a0 16 = some b17 ∧ ok S b17 101 ∧ vp_in x1 (sN S b17) ∧ (((¬ (sI S b17 (Int32.toNatClampNeg x1)) = 112) → wj_X10_isSafe_34 f (wl_X10_isSafe_7 f n) S a0 x1) ∧ (((sI S b17 (Int32.toNatClampNeg x1)) = 112) → w_X10_isRight S a0 x1 (fun (r30 : Int32) (S31 : St) => (((r30 = 0) → f 0 S31) ∧ ((¬ r30 = 0) → wj_X10_isSafe_34 f (wl_X10_isSafe_7 f n) S31 a0 x1)))))))
def w_X10_isSafe (S : St) (a0 : Nat) (f : Int32 → St → Prop) : Prop := ok S a0 11 ∧ let S2 : St := setI S a0 23 0; (∃ m : Nat, wl_X10_isSafe_7 f m S2 a0 0)
set_option maxRecDepth 100000 in
set_option maxHeartbeats 4000000 in
theorem c_X10_isSafe (l : Launch) (S : St) (a0 : Nat) (f : Int32 → St → Prop) (hw : w_X10_isSafe S a0 f) : Ct l yX10_isSafe (Cond.code yX10_isSafe cX10_isSafe 3 (some .boolean)) { frames := 5, cells := 0, slots := 0, locals := 120 } 0 0 S [.ref a0] (pI f) nox := by
  refine entry (by decide +kernel) rfl rfl (by first | decide | exact nl rfl) rfl ?_
  intro X h hq
  have L75 : ∀ (k63 : St → Nat → Int32 → Prop), (∀ (S : St) (a0 : Nat) (x1 : Int32), k63 S a0 x1 → pw X 0 0 S 63 [(0, .ref a0), (1, .int x1)] []) → ∀ (n : Nat) (S : St) (a0 : Nat) (x1 : Int32) (x2 : Int32), wl_X10_isSafe_75 f k63 n S a0 x1 x2 → pw X 0 0 S 75 [(0, .ref a0), (1, .int x1), (2, .int x2)] [] := by
    intro k63 hk63 n
    induction n with
    | zero => intro S a0 x1 x2 hw; exact hw.elim
    | succ n ih =>
      intro S a0 x1 x2 hw
      unfold wl_X10_isSafe_75 at hw
      refine r_iload_n h 2 rfl rfl dX10_isSafe_75 ?_
      refine r_bipush h (v := 100) (by decide) dX10_isSafe_76 ?_
      refine r_icmp_ge h 105 dX10_isSafe_78 (by decide) (fun hc => ?_) (fun hc => ?_)
      · replace hw := hw.1 hc
        refine r_iinc h (j := 1) (v := (x1 + 1)) [1, 0, 2] rfl rfl (by decide) rfl dX10_isSafe_105 ?_
        refine r_goto h 63 dX10_isSafe_108 (by decide) ?_
        refine r_vs [0, 1] rfl ?_
        exact hk63 _ _ _ hw
      · replace hw := hw.2 hc
        refine r_aload_n h 0 rfl rfl dX10_isSafe_81 ?_
        refine r_iload_n h 1 rfl rfl dX10_isSafe_82 ?_
        refine r_iload_n h 2 rfl rfl dX10_isSafe_83 ?_
        refine r_iconst h (v := (-1)) (by decide) dX10_isSafe_84 ?_
        obtain ⟨h8, hw⟩ := hw
        refine r_callV h (fun l => c_X10_takenOn l _ _ _ _ _ _ hw) q1322 q1324 q39 q64 q1325 nd_X10_takenOn ⟨by decide, by decide⟩ rfl rfl ⟨by decide, by decide⟩ kci11 rfl h8 rfl (by first | decide | exact nl rfl) rfl dX10_isSafe_85 nxk (kI fun r9 S10 hw => ?_)
        refine r_aload_n h 0 rfl rfl dX10_isSafe_88 ?_
        obtain ⟨h12, hw⟩ := hw
        obtain ⟨b13, h14, hw⟩ := hw
        refine r_getr h kci11 in11 (k := 2) (by decide) rfl rfl q1174 h12 h14 dX10_isSafe_89 ?_
        refine r_iload_n h 1 rfl rfl dX10_isSafe_92 ?_
        obtain ⟨h15, hw⟩ := hw
        obtain ⟨h16, hw⟩ := hw
        refine r_iald h h15 h16 dX10_isSafe_93 ?_
        refine r_icmp_le h 99 dX10_isSafe_94 (by decide) (fun hc => ?_) (fun hc => ?_)
        · replace hw := hw.1 hc
          refine r_iinc h (j := 2) (v := (x2 + 1)) [1, 2, 0] rfl rfl (by decide) rfl dX10_isSafe_99 ?_
          refine r_goto h 75 dX10_isSafe_102 (by decide) ?_
          exact ih _ _ _ _ hw
        · replace hw := hw.2 hc
          refine r_iconst h (v := 0) (by decide) dX10_isSafe_97 ?_
          exact r_zret h hq (ty := .boolean) rfl rfl ⟨_, rfl, hw⟩ (by decide) (by decide) dX10_isSafe_98
  have L63 : ∀ (n : Nat) (S : St) (a0 : Nat) (x1 : Int32), wl_X10_isSafe_63 f n S a0 x1 → pw X 0 0 S 63 [(0, .ref a0), (1, .int x1)] [] := by
    intro n
    induction n with
    | zero => intro S a0 x1 hw; exact hw.elim
    | succ n ih =>
      intro S a0 x1 hw
      unfold wl_X10_isSafe_63 at hw
      refine r_iload_n h 1 rfl rfl dX10_isSafe_63 ?_
      refine r_iconst h (v := 2) (by decide) dX10_isSafe_64 ?_
      refine r_aload_n h 0 rfl rfl dX10_isSafe_65 ?_
      obtain ⟨h6, hw⟩ := hw
      refine r_geti h kci11 in11 (k := 24) (by decide) rfl rfl q1196 h6 dX10_isSafe_66 ?_
      refine r_imul h dX10_isSafe_69 ?_
      refine r_icmp_ge h 111 dX10_isSafe_70 (by decide) (fun hc => ?_) (fun hc => ?_)
      · replace hw := hw.1 hc
        refine r_iconst h (v := 1) (by decide) dX10_isSafe_111 ?_
        exact r_zret h hq (ty := .boolean) rfl rfl ⟨_, rfl, hw⟩ (by decide) (by decide) dX10_isSafe_112
      · replace hw := hw.2 hc
        refine r_iconst h (v := 0) (by decide) dX10_isSafe_73 ?_
        refine r_istore_n h [1, 2, 0] rfl (by decide) rfl dX10_isSafe_74 ?_
        obtain ⟨m, hw⟩ := hw
        exact L75 _ ih m _ _ _ _ hw
  have L34 : ∀ (k7 : St → Nat → Int32 → Prop), (∀ (S : St) (a0 : Nat) (x1 : Int32), k7 S a0 x1 → pw X 0 0 S 7 [(0, .ref a0), (1, .int x1)] []) → ∀ (S : St) (a0 : Nat) (x1 : Int32), wj_X10_isSafe_34 f k7 S a0 x1 → pw X 0 0 S 34 [(0, .ref a0), (1, .int x1)] [] := by
    intro k7 hk7 S a0 x1 hw
    unfold wj_X10_isSafe_34 at hw
    refine r_aload_n h 0 rfl rfl dX10_isSafe_34 ?_
    obtain ⟨h22, hw⟩ := hw
    obtain ⟨b23, h24, hw⟩ := hw
    refine r_getr h kci11 in11 (k := 16) (by decide) rfl rfl q1188 h22 h24 dX10_isSafe_35 ?_
    refine r_iload_n h 1 rfl rfl dX10_isSafe_38 ?_
    obtain ⟨h25, hw⟩ := hw
    obtain ⟨h26, hw⟩ := hw
    refine r_iald h h25 h26 dX10_isSafe_39 ?_
    refine r_bipush h (v := 119) (by decide) dX10_isSafe_40 ?_
    refine r_icmp_ne h 55 dX10_isSafe_42 (by decide) (fun hc => ?_) (fun hc => ?_)
    · replace hw := hw.1 hc
      refine r_iinc h (j := 1) (v := (x1 + 1)) [1, 0] rfl rfl (by decide) rfl dX10_isSafe_55 ?_
      refine r_goto h 7 dX10_isSafe_58 (by decide) ?_
      exact hk7 _ _ _ hw
    · replace hw := hw.2 hc
      refine r_aload_n h 0 rfl rfl dX10_isSafe_45 ?_
      refine r_iload_n h 1 rfl rfl dX10_isSafe_46 ?_
      refine r_callV h (fun l => c_X10_plans l _ _ _ _ hw) q1279 q1281 q29 q64 q1282 nd_X10_plans ⟨by decide, by decide⟩ rfl rfl ⟨by decide, by decide⟩ kci11 rfl h22 rfl (by first | decide | exact nl rfl) rfl dX10_isSafe_47 nxk (kI fun r27 S28 hw => ?_)
      refine r_if_eq h 55 dX10_isSafe_50 (by decide) (fun hc => ?_) (fun hc => ?_)
      · replace hw := hw.1 hc
        refine r_iinc h (j := 1) (v := (x1 + 1)) [1, 0] rfl rfl (by decide) rfl dX10_isSafe_55 ?_
        refine r_goto h 7 dX10_isSafe_58 (by decide) ?_
        exact hk7 _ _ _ hw
      · replace hw := hw.2 hc
        refine r_iconst h (v := 0) (by decide) dX10_isSafe_53 ?_
        exact r_zret h hq (ty := .boolean) rfl rfl ⟨_, rfl, hw⟩ (by decide) (by decide) dX10_isSafe_54
  have L7 : ∀ (n : Nat) (S : St) (a0 : Nat) (x1 : Int32), wl_X10_isSafe_7 f n S a0 x1 → pw X 0 0 S 7 [(0, .ref a0), (1, .int x1)] [] := by
    intro n
    induction n with
    | zero => intro S a0 x1 hw; exact hw.elim
    | succ n ih =>
      intro S a0 x1 hw
      unfold wl_X10_isSafe_7 at hw
      refine r_iload_n h 1 rfl rfl dX10_isSafe_7 ?_
      refine r_aload_n h 0 rfl rfl dX10_isSafe_8 ?_
      obtain ⟨h4, hw⟩ := hw
      refine r_geti h kci11 in11 (k := 27) (by decide) rfl rfl q1199 h4 dX10_isSafe_9 ?_
      refine r_icmp_ge h 61 dX10_isSafe_12 (by decide) (fun hc => ?_) (fun hc => ?_)
      · replace hw := hw.1 hc
        refine r_iconst h (v := 0) (by decide) dX10_isSafe_61 ?_
        refine r_istore_n h [1, 0] rfl (by decide) rfl dX10_isSafe_62 ?_
        obtain ⟨m, hw⟩ := hw
        exact L63 m _ _ _ hw
      · replace hw := hw.2 hc
        refine r_aload_n h 0 rfl rfl dX10_isSafe_15 ?_
        obtain ⟨b17, h18, hw⟩ := hw
        refine r_getr h kci11 in11 (k := 16) (by decide) rfl rfl q1188 h4 h18 dX10_isSafe_16 ?_
        refine r_iload_n h 1 rfl rfl dX10_isSafe_19 ?_
        obtain ⟨h19, hw⟩ := hw
        obtain ⟨h20, hw⟩ := hw
        refine r_iald h h19 h20 dX10_isSafe_20 ?_
        refine r_bipush h (v := 112) (by decide) dX10_isSafe_21 ?_
        refine r_icmp_ne h 34 dX10_isSafe_23 (by decide) (fun hc => ?_) (fun hc => ?_)
        · replace hw := hw.1 hc
          exact L34 _ ih _ _ _ hw
        · replace hw := hw.2 hc
          refine r_aload_n h 0 rfl rfl dX10_isSafe_26 ?_
          refine r_iload_n h 1 rfl rfl dX10_isSafe_27 ?_
          refine r_callV h (fun l => c_X10_isRight l _ _ _ _ hw) q1496 q1498 q53 q64 q1499 nd_X10_isRight ⟨by decide, by decide⟩ rfl rfl ⟨by decide, by decide⟩ kci11 rfl h4 rfl (by first | decide | exact nl rfl) rfl dX10_isSafe_28 nxk (kI fun r30 S31 hw => ?_)
          refine r_if_eq h 53 dX10_isSafe_31 (by decide) (fun hc => ?_) (fun hc => ?_)
          · replace hw := hw.1 hc
            refine r_iconst h (v := 0) (by decide) dX10_isSafe_53 ?_
            exact r_zret h hq (ty := .boolean) rfl rfl ⟨_, rfl, hw⟩ (by decide) (by decide) dX10_isSafe_54
          · replace hw := hw.2 hc
            exact L34 _ ih _ _ _ hw
  unfold w_X10_isSafe at hw
  refine r_aload_n h 0 rfl rfl dX10_isSafe_0 ?_
  refine r_iconst h (v := 0) (by decide) dX10_isSafe_1 ?_
  obtain ⟨h1, hw⟩ := hw
  refine r_puti h kci11 in11 tyX10_ok nmX10 (k := 23) (by decide) rfl rfl rfl rfl rfl rfl q1195 h1 dX10_isSafe_2 ?_
  refine r_iconst h (v := 0) (by decide) dX10_isSafe_5 ?_
  refine r_istore_n h [1, 0] rfl (by decide) rfl dX10_isSafe_6 ?_
  obtain ⟨m, hw⟩ := hw
  exact L7 m _ _ _ hw
