/-! ===== the law's loop ===== -/
set_option maxRecDepth 100000 in
set_option maxHeartbeats 4000000 in
theorem law_loop {X : XE} {b L : Nat} {xs : Nat → Int32} (h : cy X RL "law" cL_law 9 (some .boolean) room_1 []) (hsc : scr X b L xs) (hL : L ≤ 3584) {a1 a2 a3 a4 : Nat} (hend : ∀ (cells slots : Nat) (S : St) (vs : List (Nat × Value)), cells ≤ 603072 → slots ≤ 7186538 → pw X cells slots S 2061 vs []) : ∀ (n j : Nat) (S : St), 7 * j ≤ L → L < 7 * j + 7 * n → LI a1 a2 a3 a4 S → pw X (45 + 8 * j) (741 + 64 * j) S 28 [(0, .ref b), (1, .ref a1), (2, .ref a2), (3, .ref a3), (4, .ref a4), (5, .int (z (7 * j)))] [] := by
  intro n
  induction n with
  | zero => intro j S h1 h2; omega
  | succ n ih =>
    intro j S h1 h2 hl
    have hj : j ≤ 512 := by omega
    refine r_iload h 5 rfl dL_law_28 ?_
    refine r_aload_n h 0 rfl rfl dL_law_30 ?_
    refine r_slen h hsc dL_law_31 ?_
    refine r_bipush h (v := 7) (by decide) dL_law_32 ?_
    refine r_isub h dL_law_34 ?_
    have h7 : (7 : Int32).toInt = 7 := by decide
    have hz : (Int32.ofNat L).toInt = (L : Int) := z_i (by omega)
    have e1 : (Int32.ofNat L - 7).toInt = (L : Int) - 7 := by rw [ti_sub (by rw [hz, h7]; omega) (by rw [hz, h7]; omega), hz, h7]
    have e2 : (z (7 * j)).toInt = ((7 * j : Nat) : Int) := z_i (by omega)
    refine r_icmp_gt h 2061 dL_law_35 (by decide) (fun hc => ?_) (fun hc => ?_)
    · exact hend _ _ _ _ (by omega) (by omega)
    · have h3 : 7 * j + 7 ≤ L := by
        rw [Int32.lt_iff_toInt_lt, e1, e2] at hc
        omega
      refine r_aload_n h 0 rfl rfl dL_law_38 ?_
      refine r_iload h 5 rfl dL_law_39 ?_
      refine r_sld h hsc (z_vp (by omega) (by omega)) dL_law_41 ?_
      refine r_bipush h (v := 31) (by decide) dL_law_42 ?_
      refine r_iand h dL_law_44 ?_
      obtain ⟨t, ht, et⟩ := pk_andE (xs (z (7 * j)).toNatClampNeg) (m := 31) 5 (by decide)
      rw [et]
      have hv : ∀ c : Nat, c < 7 → vp_in (z (7 * j) + z c) L := fun c hc => by
        rw [z_add]
        exact z_vp (by omega) (by omega)
      have hcs : 45 + 8 * j + 8 ≤ room_1.cells ∧ 741 + 64 * j + 64 ≤ room_1.slots := ⟨show 45 + 8 * j + 8 ≤ 603072 by omega, show 741 + 64 * j + 64 ≤ 7186538 by omega⟩
      have hk : ∀ S : St, LI a1 a2 a3 a4 S → pw X (45 + 8 * j + 8) (741 + 64 * j + 64) S 2055 [(0, .ref b), (1, .ref a1), (2, .ref a2), (3, .ref a3), (4, .ref a4), (5, .int (z (7 * j)))] [] := fun S hl => by
        have e3 : z (7 * j) + 7 = z (7 * (j + 1)) := z_add (7 * j) 7
        refine r_iinc h (j := 5) (v := z (7 * j) + 7) [1, 2, 3, 4, 5, 0] rfl rfl (by decide) rfl dL_law_2055 ?_
        refine r_goto h 28 dL_law_2058 (by decide) ?_
        rw [e3]
        exact ih (j + 1) S (by omega) (by omega) hl
      rcases (show t = 0 ∨ t = 1 ∨ t = 2 ∨ t = 3 ∨ t = 4 ∨ t = 5 ∨ t = 6 ∨ t = 7 ∨ t = 8 ∨ t = 9 ∨ t = 10 ∨ t = 11 ∨ t = 12 ∨ t = 13 ∨ t = 14 ∨ t = 15 ∨ t = 16 ∨ t = 17 ∨ t = 18 ∨ t = 19 ∨ t = 20 ∨ t = 21 ∨ t = 22 ∨ t = 23 ∨ t = 24 ∨ t = 25 ∨ t = 26 ∨ t = 27 ∨ t = 28 ∨ t = 29 ∨ t = 30 ∨ t = 31 by omega) with rfl | rfl | rfl | rfl | rfl | rfl | rfl | rfl | rfl | rfl | rfl | rfl | rfl | rfl | rfl | rfl | rfl | rfl | rfl | rfl | rfl | rfl | rfl | rfl | rfl | rfl | rfl | rfl | rfl | rfl | rfl | rfl
      · exact r_tabIn h 135 180 dL_law_45 (by decide) (by decide) (by decide) (by decide) (lc_0 h hsc (hv 1 (by decide)) (hv 2 (by decide)) (hv 3 (by decide)) (hv 4 (by decide)) (hv 5 (by decide)) (hv 6 (by decide)) hcs hk (cs_0 hl))
      · exact r_tabIn h 227 272 dL_law_45 (by decide) (by decide) (by decide) (by decide) (lc_1 h hsc (hv 1 (by decide)) (hv 2 (by decide)) (hv 3 (by decide)) (hv 4 (by decide)) (hv 5 (by decide)) (hv 6 (by decide)) hcs hk (cs_1 hl))
      · exact r_tabIn h 307 352 dL_law_45 (by decide) (by decide) (by decide) (by decide) (lc_2 h hsc (hv 1 (by decide)) (hv 2 (by decide)) (hv 3 (by decide)) (hv 4 (by decide)) (hv 5 (by decide)) (hv 6 (by decide)) hcs hk (cs_2 hl))
      · exact r_tabIn h 387 432 dL_law_45 (by decide) (by decide) (by decide) (by decide) (lc_3 h hsc (hv 1 (by decide)) (hv 2 (by decide)) (hv 3 (by decide)) (hv 4 (by decide)) (hv 5 (by decide)) (hv 6 (by decide)) hcs hk (cs_3 hl))
      · exact r_tabIn h 505 550 dL_law_45 (by decide) (by decide) (by decide) (by decide) (lc_4 h hsc (hv 1 (by decide)) (hv 2 (by decide)) (hv 3 (by decide)) (hv 4 (by decide)) (hv 5 (by decide)) (hv 6 (by decide)) hcs hk (cs_4 hl))
      · exact r_tabIn h 587 632 dL_law_45 (by decide) (by decide) (by decide) (by decide) (lc_5 h hsc (hv 1 (by decide)) (hv 2 (by decide)) (hv 3 (by decide)) (hv 4 (by decide)) (hv 5 (by decide)) (hv 6 (by decide)) hcs hk (cs_5 hl))
      · exact r_tabIn h 600 645 dL_law_45 (by decide) (by decide) (by decide) (by decide) (lc_6 h hsc (hv 1 (by decide)) (hv 2 (by decide)) (hv 3 (by decide)) (hv 4 (by decide)) (hv 5 (by decide)) (hv 6 (by decide)) hcs hk (cs_6 hl))
      · exact r_tabIn h 613 658 dL_law_45 (by decide) (by decide) (by decide) (by decide) (lc_7 h hsc (hv 1 (by decide)) (hv 2 (by decide)) (hv 3 (by decide)) (hv 4 (by decide)) (hv 5 (by decide)) (hv 6 (by decide)) hcs hk (cs_7 hl))
      · exact r_tabIn h 681 726 dL_law_45 (by decide) (by decide) (by decide) (by decide) (lc_8 h hsc (hv 1 (by decide)) (hv 2 (by decide)) (hv 3 (by decide)) (hv 4 (by decide)) (hv 5 (by decide)) (hv 6 (by decide)) hcs hk (cs_8 hl))
      · exact r_tabIn h 756 801 dL_law_45 (by decide) (by decide) (by decide) (by decide) (lc_9 h hsc (hv 1 (by decide)) (hv 2 (by decide)) (hv 3 (by decide)) (hv 4 (by decide)) (hv 5 (by decide)) (hv 6 (by decide)) hcs hk (cs_9 hl))
      · exact r_tabIn h 836 881 dL_law_45 (by decide) (by decide) (by decide) (by decide) (lc_10 h hsc (hv 1 (by decide)) (hv 2 (by decide)) (hv 3 (by decide)) (hv 4 (by decide)) (hv 5 (by decide)) (hv 6 (by decide)) hcs hk (cs_10 hl))
      · exact r_tabIn h 904 949 dL_law_45 (by decide) (by decide) (by decide) (by decide) (lc_11 h hsc (hv 1 (by decide)) (hv 2 (by decide)) (hv 3 (by decide)) (hv 4 (by decide)) (hv 5 (by decide)) (hv 6 (by decide)) hcs hk (cs_11 hl))
      · exact r_tabIn h 960 1005 dL_law_45 (by decide) (by decide) (by decide) (by decide) (lc_12 h hsc (hv 1 (by decide)) (hv 2 (by decide)) (hv 3 (by decide)) (hv 4 (by decide)) (hv 5 (by decide)) (hv 6 (by decide)) hcs hk (cs_12 hl))
      · exact r_tabIn h 1016 1061 dL_law_45 (by decide) (by decide) (by decide) (by decide) (lc_13 h hsc (hv 1 (by decide)) (hv 2 (by decide)) (hv 3 (by decide)) (hv 4 (by decide)) (hv 5 (by decide)) (hv 6 (by decide)) hcs hk (cs_13 hl))
      · exact r_tabIn h 1072 1117 dL_law_45 (by decide) (by decide) (by decide) (by decide) (lc_14 h hsc (hv 1 (by decide)) (hv 2 (by decide)) (hv 3 (by decide)) (hv 4 (by decide)) (hv 5 (by decide)) (hv 6 (by decide)) hcs hk (cs_14 hl))
      · exact r_tabIn h 1128 1173 dL_law_45 (by decide) (by decide) (by decide) (by decide) (lc_15 h hsc (hv 1 (by decide)) (hv 2 (by decide)) (hv 3 (by decide)) (hv 4 (by decide)) (hv 5 (by decide)) (hv 6 (by decide)) hcs hk (cs_15 hl))
      · exact r_tabIn h 1196 1241 dL_law_45 (by decide) (by decide) (by decide) (by decide) (lc_16 h hsc (hv 1 (by decide)) (hv 2 (by decide)) (hv 3 (by decide)) (hv 4 (by decide)) (hv 5 (by decide)) (hv 6 (by decide)) hcs hk (cs_16 hl))
      · exact r_tabIn h 1264 1309 dL_law_45 (by decide) (by decide) (by decide) (by decide) (lc_17 h hsc (hv 1 (by decide)) (hv 2 (by decide)) (hv 3 (by decide)) (hv 4 (by decide)) (hv 5 (by decide)) (hv 6 (by decide)) hcs hk (cs_17 hl))
      · exact r_tabIn h 1339 1384 dL_law_45 (by decide) (by decide) (by decide) (by decide) (lc_18 h hsc (hv 1 (by decide)) (hv 2 (by decide)) (hv 3 (by decide)) (hv 4 (by decide)) (hv 5 (by decide)) (hv 6 (by decide)) hcs hk (cs_18 hl))
      · exact r_tabIn h 1407 1452 dL_law_45 (by decide) (by decide) (by decide) (by decide) (lc_19 h hsc (hv 1 (by decide)) (hv 2 (by decide)) (hv 3 (by decide)) (hv 4 (by decide)) (hv 5 (by decide)) (hv 6 (by decide)) hcs hk (cs_19 hl))
      · exact r_tabIn h 1475 1520 dL_law_45 (by decide) (by decide) (by decide) (by decide) (lc_20 h hsc (hv 1 (by decide)) (hv 2 (by decide)) (hv 3 (by decide)) (hv 4 (by decide)) (hv 5 (by decide)) (hv 6 (by decide)) hcs hk (cs_20 hl))
      · exact r_tabIn h 1543 1588 dL_law_45 (by decide) (by decide) (by decide) (by decide) (lc_21 h hsc (hv 1 (by decide)) (hv 2 (by decide)) (hv 3 (by decide)) (hv 4 (by decide)) (hv 5 (by decide)) (hv 6 (by decide)) hcs hk (cs_21 hl))
      · exact r_tabIn h 1611 1656 dL_law_45 (by decide) (by decide) (by decide) (by decide) (lc_22 h hsc (hv 1 (by decide)) (hv 2 (by decide)) (hv 3 (by decide)) (hv 4 (by decide)) (hv 5 (by decide)) (hv 6 (by decide)) hcs hk (cs_22 hl))
      · exact r_tabIn h 1679 1724 dL_law_45 (by decide) (by decide) (by decide) (by decide) (lc_23 h hsc (hv 1 (by decide)) (hv 2 (by decide)) (hv 3 (by decide)) (hv 4 (by decide)) (hv 5 (by decide)) (hv 6 (by decide)) hcs hk (cs_23 hl))
      · exact r_tabIn h 1747 1792 dL_law_45 (by decide) (by decide) (by decide) (by decide) (lc_24 h hsc (hv 1 (by decide)) (hv 2 (by decide)) (hv 3 (by decide)) (hv 4 (by decide)) (hv 5 (by decide)) (hv 6 (by decide)) hcs hk (cs_24 hl))
      · exact r_tabIn h 1815 1860 dL_law_45 (by decide) (by decide) (by decide) (by decide) (lc_25 h hsc (hv 1 (by decide)) (hv 2 (by decide)) (hv 3 (by decide)) (hv 4 (by decide)) (hv 5 (by decide)) (hv 6 (by decide)) hcs hk (cs_25 hl))
      · exact r_tabIn h 1828 1873 dL_law_45 (by decide) (by decide) (by decide) (by decide) (lc_26 h hsc (hv 1 (by decide)) (hv 2 (by decide)) (hv 3 (by decide)) (hv 4 (by decide)) (hv 5 (by decide)) (hv 6 (by decide)) hcs hk (cs_26 hl))
      · exact r_tabIn h 1842 1887 dL_law_45 (by decide) (by decide) (by decide) (by decide) (lc_27 h hsc (hv 1 (by decide)) (hv 2 (by decide)) (hv 3 (by decide)) (hv 4 (by decide)) (hv 5 (by decide)) (hv 6 (by decide)) hcs hk (cs_27 hl))
      · exact r_tabIn h 1907 1952 dL_law_45 (by decide) (by decide) (by decide) (by decide) (lc_28 h hsc (hv 1 (by decide)) (hv 2 (by decide)) (hv 3 (by decide)) (hv 4 (by decide)) (hv 5 (by decide)) (hv 6 (by decide)) hcs hk (cs_28 hl))
      · exact r_tabIn h 1997 2042 dL_law_45 (by decide) (by decide) (by decide) (by decide) (lc_29 h hsc (hv 1 (by decide)) (hv 2 (by decide)) (hv 3 (by decide)) (hv 4 (by decide)) (hv 5 (by decide)) (hv 6 (by decide)) hcs hk (cs_29 hl))
      · exact r_tabOut h 2055 dL_law_45 (Or.inr (by decide)) (by decide) (r_widen (by omega) (by omega) (hk S hl))
      · exact r_tabOut h 2055 dL_law_45 (Or.inr (by decide)) (by decide) (r_widen (by omega) (by omega) (hk S hl))
