/-! ===== a list grows by one ===== -/
theorem sI_setP (S : St) (a k : Nat) (v : Option Nat) : sI (setP S a k v) = sI S := rfl
theorem sI_setPs (S : St) (a : Nat) (f : Nat → Option Nat) : sI (setPs S a f) = sI S := rfl
theorem sI_newA (S : St) (q c n b : Nat) : sI (newA S q c n) b = if b = q then (fun _ => 0) else sI S b := rfl
theorem sI_newO (S : St) (q c b : Nat) : sI (newO S q c) b = if b = q then (fun _ => 0) else sI S b := rfl
theorem sP_setI (S : St) (a k : Nat) (v : Int32) : sP (setI S a k v) = sP S := rfl
theorem sP_setP (S : St) (a k : Nat) (v : Option Nat) (b : Nat) : sP (setP S a k v) b = if b = a then va_up (sP S a) k v else sP S b := rfl
theorem sP_setPs (S : St) (a : Nat) (f : Nat → Option Nat) (b : Nat) : sP (setPs S a f) b = if b = a then f else sP S b := rfl
theorem sP_newA (S : St) (q c n b : Nat) : sP (newA S q c n) b = if b = q then (fun _ => none) else sP S b := rfl
theorem sP_newO (S : St) (q c b : Nat) : sP (newO S q c) b = if b = q then (fun _ => none) else sP S b := rfl
theorem sN_setI (S : St) (a k : Nat) (v : Int32) : sN (setI S a k v) = sN S := rfl
theorem sN_setP (S : St) (a k : Nat) (v : Option Nat) : sN (setP S a k v) = sN S := rfl
theorem sN_setPs (S : St) (a : Nat) (f : Nat → Option Nat) : sN (setPs S a f) = sN S := rfl
theorem sN_newA (S : St) (q c n b : Nat) : sN (newA S q c n) b = if b = q then n else sN S b := rfl
theorem sN_newO (S : St) (q c : Nat) : sN (newO S q c) = sN S := rfl
theorem sL_newA (S : St) (q c n : Nat) : sL (newA S q c n) = sL S ++ [q] := rfl
theorem sL_newO (S : St) (q c : Nat) : sL (newO S q c) = sL S ++ [q] := rfl
theorem up_ap {α : Type} (f : Nat → α) (k j : Nat) (v : α) : va_up f k v j = if j = k then v else f j := rfl
def Ap (S S' : St) (a d' n b : Nat) (D : Nat → Option Nat) (m : Int32) : Prop :=
  (∀ x c, ok S x c → ok S' x c) ∧ ok S' d' 102 ∧ sN S' d' = cp (n + 1) ∧ (∀ x, x ∈ sL S → x ≠ d' → sN S' x = sN S x) ∧
  (∀ x, x ∈ sL S → x ≠ d' → sI S' x = if x = a then upd (upd (sI S a) 0 m) 2 (z (n + 1)) else sI S x) ∧
  (∀ x, x ∈ sL S → x ≠ d' → sP S' x = if x = a then va_up (sP S a) 1 (some d') else sP S x) ∧
  sP S' d' = (fun k => if k < n then D k else if k = n then some b else none) ∧ sT S' = sT S ∧ sM S' = sM S ∧ (∀ x, x ∈ sL S → x ∈ sL S')
theorem isO_newa {S : St} {q c n b : Nat} (hq : q ∉ sL S) (h : isO S b) : isO (newA S q c n) b := by
  obtain ⟨ci, r, h1, h2⟩ := h
  exact ⟨ci, r, h1, ok_newa hq h2⟩
theorem s_add {S : St} {a b d n : Nat} {D : Nat → Option Nat} {f : Int32 → St → Prop} (ha : ok S a 0) (h2 : sI S a 2 = z n) (hn : n ≤ 12) (hp : sP S a 1 = some (if n = 0 then sT S else d)) (hd : 0 < n → ok S d 102 ∧ sN S d = cp n ∧ d ≠ a ∧ sP S d = (fun k => if k < n then D k else none) ∧ ∀ k y, k < n → D k = some y → isO S y) (hb : isO S b)
    (hf : ∀ S' d' m, Ap S S' a d' n b D m → ((0 < n ∧ d' = d) ∨ d' ∉ sL S) → f 1 S') : w_Jx4a65c_add_9ea2d S a b f := by
  unfold w_Jx4a65c_add_9ea2d w_Jx4a65c_add_72be8
  have e2 : sI (setI S a 0 (sI S a 0 + 1)) a 2 = z n := by
    rw [sI_setI, if_pos rfl, upd_n _ _ (by decide), h2]
  refine ⟨ha, _, hp, ?_⟩
  rcases Nat.eq_zero_or_pos n with h0 | h0
  · subst h0
    refine ⟨0, Or.inl ⟨rfl, rfl⟩, ?_⟩
    rw [e2]
    refine ⟨fun hc => absurd rfl hc, fun _ => ⟨ha, ?_⟩⟩
    unfold w_Jx4a65c_grow_d5877 w_Jx4a65c_grow_92f84
    refine ⟨ha, ha, _, hp, 0, Or.inl ⟨rfl, rfl⟩, fun hc => absurd hc (by decide), fun _ => ⟨fun _ => ?_, fun hc => absurd rfl hc⟩⟩
    rw [e2]
    refine ⟨by decide, by decide, fun q hq => ?_⟩
    have hqS : q ∉ sL S := hq
    have hqa : a ≠ q := fun e => hqS (e ▸ ha.1)
    have hl : Int32.toNatClampNeg (if 10 < z 0 + 1 then z 0 + 1 else 10) = 10 := by decide
    rw [hl]
    refine ⟨⟨List.mem_append_right _ List.mem_cons_self, va_up_self _ _ _⟩, ?_, isO_newa (S := setI S a 0 (sI S a 0 + 1)) (c := 102) (n := 10) hq hb, ok_newa (S := setI S a 0 (sI S a 0 + 1)) (c := 102) (n := 10) hq ha, ?_⟩
    · show vp_in (z 0) (sN (newA (setI S a 0 (sI S a 0 + 1)) q 102 10) q)
      rw [sN_newA, if_pos rfl]
      exact z_vp (by decide) (by decide)
    · refine hf _ q (sI S a 0 + 1) ⟨fun x c h => ok_newa (S := setI S a 0 (sI S a 0 + 1)) (c := 102) (n := 10) hq h, ⟨List.mem_append_right _ List.mem_cons_self, va_up_self _ _ _⟩, ?_, fun x hx hne => ?_, fun x hx hne => ?_, fun x hx hne => ?_, ?_, rfl, rfl, fun x hx => List.mem_append_left _ hx⟩ (Or.inr hqS)
      · rw [sN_setI, sN_setP, sN_setP, sN_newA, if_pos rfl]
        rfl
      · rw [sN_setI, sN_setP, sN_setP, sN_newA, if_neg hne]
        rfl
      · by_cases e : x = a
        · rw [if_pos e, sI_setI, if_pos e]
          show upd (sI (newA (setI S a 0 (sI S a 0 + 1)) q 102 10) a) 2 (z 0 + 1) = _
          rw [sI_newA, if_neg hqa, sI_setI, if_pos rfl, z_s]
        · rw [if_neg e, sI_setI, if_neg e]
          show sI (newA (setI S a 0 (sI S a 0 + 1)) q 102 10) x = _
          rw [sI_newA, if_neg hne, sI_setI, if_neg e]
      · rw [sP_setI, sP_setP, if_neg hne, sP_setP, sP_newA, if_neg hqa, sP_newA, if_neg hne]
        rfl
      · rw [sP_setI, sP_setP, if_pos rfl, sP_setP, if_neg (Ne.symm hqa), sP_newA, if_pos rfl]
        funext k
        rw [up_ap, if_neg (show ¬ k < 0 by omega)]
        rfl
  · obtain ⟨d1, d2, d3, d4, d5⟩ := hd h0
    have hp' : sP S a 1 = some d := by rw [hp, if_neg (by omega)]
    have hc := cp_le hn
    rw [if_neg (by omega)]
    refine ⟨cp n, Or.inr ⟨d1, d2⟩, ?_⟩
    rw [e2]
    refine ⟨fun hx => ?_, fun hx => ?_⟩
    · have hlt : n < cp n := by
        rcases Nat.lt_or_ge n (cp n) with h | h
        · exact h
        · have e9 : n = cp n := by omega
          exact absurd (show z n = z (cp n) by rw [← e9]) hx
      have hcp : cp (n + 1) = cp n := by
        unfold cp at hlt ⊢
        split at hlt <;> split <;> omega
      refine ⟨d1, ?_, hb, ha, ?_⟩
      · show vp_in (z n) (sN S d)
        rw [d2]
        exact z_vp hlt (by omega)
      · rw [z_c (by omega), z_s]
        refine hf _ d (sI S a 0 + 1) ⟨fun x c h => h, d1, by rw [hcp]; exact d2, fun x hx hne => rfl, fun x hx hne => ?_, fun x hx hne => ?_, ?_, rfl, rfl, fun x hx => hx⟩ (Or.inl ⟨h0, rfl⟩)
        · by_cases e : x = a
          · rw [if_pos e, sI_setI, if_pos e]
            show upd (sI (setI S a 0 (sI S a 0 + 1)) a) 2 (z (n + 1)) = _
            rw [sI_setI, if_pos rfl]
          · rw [if_neg e, sI_setI, if_neg e]
            show sI (setI S a 0 (sI S a 0 + 1)) x = _
            rw [sI_setI, if_neg e]
        · rw [sP_setI, sP_setP, if_neg hne, sP_setI]
          by_cases e : x = a
          · rw [if_pos e, e]
            funext k
            rw [up_ap]
            by_cases e3 : k = 1
            · rw [if_pos e3, e3, hp, if_neg (by omega)]
            · rw [if_neg e3]
          · rw [if_neg e]
        · rw [sP_setI, sP_setP, if_pos rfl, sP_setI, d4]
          funext k
          rw [up_ap]
          by_cases e3 : k = n
          · rw [if_pos e3, if_neg (by omega), if_pos e3]
          · rw [if_neg e3]
            by_cases e4 : k < n
            · rw [if_pos e4, if_pos e4]
            · rw [if_neg e4, if_neg e4, if_neg e3]
    · have hn10 : n = 10 := by
        have h := (z_eq (by omega) (show cp n < 2147483648 by omega)).1 hx
        unfold cp at h
        split at h <;> omega
      subst hn10
      refine ⟨ha, ?_⟩
      unfold w_Jx4a65c_grow_d5877 w_Jx4a65c_grow_92f84
      refine ⟨ha, ha, _, hp', 10, Or.inr ⟨d1, d2⟩, fun _ => ?_, fun hc => absurd (by decide) hc⟩
      rw [e2]
      unfold wj_Jx4a65c_grow_92f84_20 w_J8_newLength_cabcc
      have hl : (Int32.ofNat 10 + (if z 10 + 1 - Int32.ofNat 10 < Int32.ofNat 10 >>> ((1 : Int32) &&& 31) then Int32.ofNat 10 >>> ((1 : Int32) &&& 31) else z 10 + 1 - Int32.ofNat 10)) = z 15 := by decide
      rw [hl]
      refine ⟨fun hc => absurd hc (by decide), fun _ => ⟨fun hc => absurd hc (by decide), fun _ => ⟨ha, _, hp', ?_⟩⟩⟩
      unfold w_J7_copyOf_1904c w_J7_copyOf_6403c
      refine ⟨d1, fun hc => absurd rfl hc, fun _ => ⟨by decide, by decide, fun q hq => ?_⟩⟩
      have hqS : q ∉ sL S := hq
      have hqa : a ≠ q := fun e => hqS (e ▸ ha.1)
      have hqd : d ≠ q := fun e => hqS (e ▸ d1.1)
      have hl2 : Int32.toNatClampNeg (z 15) = 15 := by decide
      have hl3 : (if z 15 < Int32.ofNat 10 then z 15 else Int32.ofNat 10) = z 10 := by decide
      have hl4 : Int32.toNatClampNeg (z 10) = 10 := by decide
      rw [hl2]
      refine ⟨10, Or.inr ⟨ok_newa (S := setI S a 0 (sI S a 0 + 1)) (c := 102) (n := 15) hq d1, ?_⟩, ?_⟩
      · rw [sN_newA, if_neg hqd]
        exact d2
      · rw [hl3, hl4]
        refine ⟨ok_newa (S := setI S a 0 (sI S a 0 + 1)) (c := 102) (n := 15) hq d1, by decide, ?_, ?_, fun i hi y hy => ?_, ?_⟩
        · rw [sN_newA, if_neg hqd, sN_setI, d2]
          decide
        · rw [sN_newA, if_pos rfl]
          decide
        · rw [sP_newA, if_neg hqd, sP_setI, d4] at hy
          dsimp only at hy
          rw [if_pos hi] at hy
          exact isO_newa (S := setI S a 0 (sI S a 0 + 1)) (c := 102) (n := 15) hq (d5 i y hi hy)
        · refine ⟨ok_newa (S := setI S a 0 (sI S a 0 + 1)) (c := 102) (n := 15) hq ha, ⟨List.mem_append_right _ List.mem_cons_self, va_up_self _ _ _⟩, ?_, isO_newa (S := setI S a 0 (sI S a 0 + 1)) (c := 102) (n := 15) hq hb, ok_newa (S := setI S a 0 (sI S a 0 + 1)) (c := 102) (n := 15) hq ha, ?_⟩
          · show vp_in (z 10) (sN (newA (setI S a 0 (sI S a 0 + 1)) q 102 15) q)
            rw [sN_newA, if_pos rfl]
            exact z_vp (by decide) (by decide)
          · refine hf _ q (sI S a 0 + 1) ⟨fun x c h => ok_newa (S := setI S a 0 (sI S a 0 + 1)) (c := 102) (n := 15) hq h, ⟨List.mem_append_right _ List.mem_cons_self, va_up_self _ _ _⟩, ?_, fun x hx hne => ?_, fun x hx hne => ?_, fun x hx hne => ?_, ?_, rfl, rfl, fun x hx => List.mem_append_left _ hx⟩ (Or.inr hqS)
            · rw [sN_setI, sN_setP, sN_setP, sN_setPs, sN_newA, if_pos rfl]
              rfl
            · rw [sN_setI, sN_setP, sN_setP, sN_setPs, sN_newA, if_neg hne]
              rfl
            · by_cases e : x = a
              · rw [if_pos e, sI_setI, if_pos e]
                show upd (sI (newA (setI S a 0 (sI S a 0 + 1)) q 102 15) a) 2 (z 10 + 1) = _
                rw [sI_newA, if_neg hqa, sI_setI, if_pos rfl, z_s]
              · rw [if_neg e, sI_setI, if_neg e]
                show sI (newA (setI S a 0 (sI S a 0 + 1)) q 102 15) x = _
                rw [sI_newA, if_neg hne, sI_setI, if_neg e]
            · rw [sP_setI, sP_setP, if_neg hne, sP_setP, sP_setPs, if_neg hqa, sP_newA, if_neg hqa, sP_setPs, if_neg hne, sP_newA, if_neg hne]
              rfl
            · rw [sP_setI, sP_setP, if_pos rfl, sP_setP, if_neg (Ne.symm hqa), sP_setPs, if_pos rfl, sP_newA, if_neg hqd, sP_newA, if_pos rfl, sP_setI, d4]
              funext k
              rw [up_ap]
              unfold va_cpy
              by_cases e3 : k = 10
              · rw [if_pos e3, if_neg (by omega), if_pos e3]
              · rw [if_neg e3]
                by_cases e4 : k < 10
                · rw [if_pos ⟨Nat.zero_le _, by omega⟩, if_pos e4]
                  show (if 0 + (k - 0) < 10 then D (0 + (k - 0)) else none) = D k
                  rw [if_pos (by omega)]
                  congr 1
                  omega
                · rw [if_neg (by omega), if_neg e4, if_neg e3]
