def lw_0 (S : St) (a1 a2 a3 a4 : Nat) (xs : Nat → Int32) (i : Int32) (K : St → Prop) : Prop := w_L_addRoom S a1 (xs (Int32.toNatClampNeg (i + 1))) (xs (Int32.toNatClampNeg (i + 2))) (xs (Int32.toNatClampNeg (i + 3))) (xs (Int32.toNatClampNeg (i + 4))) a3 (fun (r1 : Int32) (S2 : St) => ok S2 a2 11 ∧ w_X10_addRoom S2 a2 (xs (Int32.toNatClampNeg (i + 1))) (xs (Int32.toNatClampNeg (i + 2))) (xs (Int32.toNatClampNeg (i + 3))) (xs (Int32.toNatClampNeg (i + 4))) (fun (r5 : Int32) (S6 : St) => ok S6 a2 11 ∧ w_X10_thrown S6 a2 (fun (r9 : Int32) (S10 : St) => (((r9 = r1) → (((¬ r1 = 0) → K S10) ∧ ((r1 = 0) → ok S10 a3 103 ∧ vp_in 0 (sN S10 a3) ∧ ((((lg_cmp (sJ S10 a3 (Int32.toNatClampNeg 0)) (Int32.toInt64 r5)) = 0) → K S10) ∧ ((¬ (lg_cmp (sJ S10 a3 (Int32.toNatClampNeg 0)) (Int32.toInt64 r5)) = 0) → False))))) ∧ ((¬ r9 = r1) → False)))))
set_option maxRecDepth 100000 in
set_option maxHeartbeats 4000000 in
theorem lc_0 {X : XE} {b L : Nat} {xs : Nat → Int32} (h : cy X RL "law" cL_law 9 (some .boolean) room_1 []) (hsc : scr X b L xs) {i : Int32} (hv1 : vp_in (i + 1) L) (hv2 : vp_in (i + 2) L) (hv3 : vp_in (i + 3) L) (hv4 : vp_in (i + 4) L) (hv5 : vp_in (i + 5) L) (hv6 : vp_in (i + 6) L) {cells slots : Nat} (hcs : cells + 8 ≤ room_1.cells ∧ slots + 64 ≤ room_1.slots) {K : St → Prop} {a1 a2 a3 a4 : Nat} (hk : ∀ S : St, K S → pw X (cells + 8) (slots + 64) S 2055 [(0, .ref b), (1, .ref a1), (2, .ref a2), (3, .ref a3), (4, .ref a4), (5, .int i)] []) {S : St} (hw : lw_0 S a1 a2 a3 a4 xs i K) : pw X cells slots S 180 [(0, .ref b), (1, .ref a1), (2, .ref a2), (3, .ref a3), (4, .ref a4), (5, .int i)] [] := by
  unfold lw_0 at hw
  refine r_aload_n h 1 rfl rfl dL_law_180 ?_
  refine r_aload_n h 0 rfl rfl dL_law_181 ?_
  refine r_iload h 5 rfl dL_law_182 ?_
  refine r_iconst h (v := 1) (by decide) dL_law_184 ?_
  refine r_iadd h dL_law_185 ?_
  refine r_sld h hsc hv1 dL_law_186 ?_
  refine r_aload_n h 0 rfl rfl dL_law_187 ?_
  refine r_iload h 5 rfl dL_law_188 ?_
  refine r_iconst h (v := 2) (by decide) dL_law_190 ?_
  refine r_iadd h dL_law_191 ?_
  refine r_sld h hsc hv2 dL_law_192 ?_
  refine r_aload_n h 0 rfl rfl dL_law_193 ?_
  refine r_iload h 5 rfl dL_law_194 ?_
  refine r_iconst h (v := 3) (by decide) dL_law_196 ?_
  refine r_iadd h dL_law_197 ?_
  refine r_sld h hsc hv3 dL_law_198 ?_
  refine r_aload_n h 0 rfl rfl dL_law_199 ?_
  refine r_iload h 5 rfl dL_law_200 ?_
  refine r_iconst h (v := 4) (by decide) dL_law_202 ?_
  refine r_iadd h dL_law_203 ?_
  refine r_sld h hsc hv4 dL_law_204 ?_
  refine r_aload_n h 3 rfl rfl dL_law_205 ?_
  refine r_callSW h (fun l => c_L_addRoom l _ _ _ _ _ _ _ _ hw) q460 q461 q54 q462 nd_L_addRoom ⟨by decide, by decide⟩ rfl rfl ⟨Nat.le_trans (by omega) hcs.1, Nat.le_trans (by omega) hcs.2⟩ (as := [.ref a1, .int (xs (Int32.toNatClampNeg (i + 1))), .int (xs (Int32.toNatClampNeg (i + 2))), .int (xs (Int32.toNatClampNeg (i + 3))), .int (xs (Int32.toNatClampNeg (i + 4))), .ref a3]) rfl (by first | decide | exact nl rfl) rfl dL_law_206 nxk (kI fun r1 S2 hw => ?_)
  refine r_istore h [1, 2, 3, 4, 5, 6, 0] (by decide) rfl dL_law_209 ?_
  refine r_aload_n h 2 rfl rfl dL_law_211 ?_
  refine r_aload_n h 0 rfl rfl dL_law_212 ?_
  refine r_iload h 5 rfl dL_law_213 ?_
  refine r_iconst h (v := 1) (by decide) dL_law_215 ?_
  refine r_iadd h dL_law_216 ?_
  refine r_sld h hsc hv1 dL_law_217 ?_
  refine r_aload_n h 0 rfl rfl dL_law_218 ?_
  refine r_iload h 5 rfl dL_law_219 ?_
  refine r_iconst h (v := 2) (by decide) dL_law_221 ?_
  refine r_iadd h dL_law_222 ?_
  refine r_sld h hsc hv2 dL_law_223 ?_
  refine r_aload_n h 0 rfl rfl dL_law_224 ?_
  refine r_iload h 5 rfl dL_law_225 ?_
  refine r_iconst h (v := 3) (by decide) dL_law_227 ?_
  refine r_iadd h dL_law_228 ?_
  refine r_sld h hsc hv3 dL_law_229 ?_
  refine r_aload_n h 0 rfl rfl dL_law_230 ?_
  refine r_iload h 5 rfl dL_law_231 ?_
  refine r_iconst h (v := 4) (by decide) dL_law_233 ?_
  refine r_iadd h dL_law_234 ?_
  refine r_sld h hsc hv4 dL_law_235 ?_
  obtain ⟨h4, hw⟩ := hw
  refine r_callV h (fun l => c_X10_addRoom l _ _ _ _ _ _ _ hw) q1264 q1265 q1266 q64 q1267 nd_X10_addRoom ⟨by decide, by decide⟩ rfl rfl ⟨Nat.le_trans (by omega) hcs.1, Nat.le_trans (by omega) hcs.2⟩ kci11 rfl h4 rfl (by first | decide | exact nl rfl) rfl dL_law_236 nxk (kI fun r5 S6 hw => ?_)
  refine r_istore h [1, 2, 3, 4, 5, 6, 7, 0] (by decide) rfl dL_law_239 ?_
  refine r_aload_n h 2 rfl rfl dL_law_241 ?_
  obtain ⟨h8, hw⟩ := hw
  refine r_callV h (fun l => c_X10_thrown l _ _ _ hw) q1260 q1261 q1262 q64 q1263 nd_X10_thrown ⟨by decide, by decide⟩ rfl rfl ⟨Nat.le_trans (by omega) hcs.1, Nat.le_trans (by omega) hcs.2⟩ kci11 rfl h8 rfl (by first | decide | exact nl rfl) rfl dL_law_242 nxk (kI fun r9 S10 hw => ?_)
  refine r_iload h 6 rfl dL_law_245 ?_
  refine r_icmp_eq h 252 dL_law_247 (by decide) (fun hc => ?_) (fun hc => ?_)
  · replace hw := hw.1 hc
    refine r_iload h 6 rfl dL_law_252 ?_
    refine r_if_ne h 269 dL_law_254 (by decide) (fun hc => ?_) (fun hc => ?_)
    · replace hw := hw.1 hc
      refine r_goto h 2055 dL_law_269 (by decide) ?_
      refine r_vs [0, 1, 2, 3, 4, 5] rfl ?_
      refine r_widen (k := cells + 8) (n := slots + 64) (by omega) (by omega) ?_
      exact hk _ hw
    · replace hw := hw.2 hc
      refine r_aload_n h 3 rfl rfl dL_law_257 ?_
      refine r_iconst h (v := 0) (by decide) dL_law_258 ?_
      obtain ⟨h12, hw⟩ := hw
      obtain ⟨h13, hw⟩ := hw
      refine r_lald h h12 h13 dL_law_259 ?_
      refine r_iload h 7 rfl dL_law_260 ?_
      refine r_i2l h dL_law_262 ?_
      refine r_lcmp h dL_law_263 ?_
      refine r_if_eq h 269 dL_law_264 (by decide) (fun hc => ?_) (fun hc => ?_)
      · replace hw := hw.1 hc
        refine r_goto h 2055 dL_law_269 (by decide) ?_
        refine r_vs [0, 1, 2, 3, 4, 5] rfl ?_
        refine r_widen (k := cells + 8) (n := slots + 64) (by omega) (by omega) ?_
        exact hk _ hw
      · replace hw := hw.2 hc
        exact hw.elim
  · replace hw := hw.2 hc
    exact hw.elim
def lw_1 (S : St) (a1 a2 a3 a4 : Nat) (xs : Nat → Int32) (i : Int32) (K : St → Prop) : Prop := w_L_setClimate S a1 (xs (Int32.toNatClampNeg (i + 1))) (xs (Int32.toNatClampNeg (i + 2))) (xs (Int32.toNatClampNeg (i + 3))) a3 (fun (r1 : Int32) (S2 : St) => ok S2 a2 11 ∧ w_X10_setClimate S2 a2 (xs (Int32.toNatClampNeg (i + 1))) (xs (Int32.toNatClampNeg (i + 2))) (xs (Int32.toNatClampNeg (i + 3))) (fun (r5 : Int32) (S6 : St) => ok S6 a2 11 ∧ w_X10_thrown S6 a2 (fun (r9 : Int32) (S10 : St) => (((r9 = r1) → (((¬ r1 = 0) → K S10) ∧ ((r1 = 0) → ok S10 a3 103 ∧ vp_in 0 (sN S10 a3) ∧ ((((lg_cmp (sJ S10 a3 (Int32.toNatClampNeg 0)) (Int32.toInt64 r5)) = 0) → K S10) ∧ ((¬ (lg_cmp (sJ S10 a3 (Int32.toNatClampNeg 0)) (Int32.toInt64 r5)) = 0) → False))))) ∧ ((¬ r9 = r1) → False)))))
set_option maxRecDepth 100000 in
set_option maxHeartbeats 4000000 in
theorem lc_1 {X : XE} {b L : Nat} {xs : Nat → Int32} (h : cy X RL "law" cL_law 9 (some .boolean) room_1 []) (hsc : scr X b L xs) {i : Int32} (hv1 : vp_in (i + 1) L) (hv2 : vp_in (i + 2) L) (hv3 : vp_in (i + 3) L) (hv4 : vp_in (i + 4) L) (hv5 : vp_in (i + 5) L) (hv6 : vp_in (i + 6) L) {cells slots : Nat} (hcs : cells + 8 ≤ room_1.cells ∧ slots + 64 ≤ room_1.slots) {K : St → Prop} {a1 a2 a3 a4 : Nat} (hk : ∀ S : St, K S → pw X (cells + 8) (slots + 64) S 2055 [(0, .ref b), (1, .ref a1), (2, .ref a2), (3, .ref a3), (4, .ref a4), (5, .int i)] []) {S : St} (hw : lw_1 S a1 a2 a3 a4 xs i K) : pw X cells slots S 272 [(0, .ref b), (1, .ref a1), (2, .ref a2), (3, .ref a3), (4, .ref a4), (5, .int i)] [] := by
  unfold lw_1 at hw
  refine r_aload_n h 1 rfl rfl dL_law_272 ?_
  refine r_aload_n h 0 rfl rfl dL_law_273 ?_
  refine r_iload h 5 rfl dL_law_274 ?_
  refine r_iconst h (v := 1) (by decide) dL_law_276 ?_
  refine r_iadd h dL_law_277 ?_
  refine r_sld h hsc hv1 dL_law_278 ?_
  refine r_aload_n h 0 rfl rfl dL_law_279 ?_
  refine r_iload h 5 rfl dL_law_280 ?_
  refine r_iconst h (v := 2) (by decide) dL_law_282 ?_
  refine r_iadd h dL_law_283 ?_
  refine r_sld h hsc hv2 dL_law_284 ?_
  refine r_aload_n h 0 rfl rfl dL_law_285 ?_
  refine r_iload h 5 rfl dL_law_286 ?_
  refine r_iconst h (v := 3) (by decide) dL_law_288 ?_
  refine r_iadd h dL_law_289 ?_
  refine r_sld h hsc hv3 dL_law_290 ?_
  refine r_aload_n h 3 rfl rfl dL_law_291 ?_
  refine r_callSW h (fun l => c_L_setClimate l _ _ _ _ _ _ _ hw) q664 q665 q54 q666 nd_L_setClimate ⟨by decide, by decide⟩ rfl rfl ⟨Nat.le_trans (by omega) hcs.1, Nat.le_trans (by omega) hcs.2⟩ (as := [.ref a1, .int (xs (Int32.toNatClampNeg (i + 1))), .int (xs (Int32.toNatClampNeg (i + 2))), .int (xs (Int32.toNatClampNeg (i + 3))), .ref a3]) rfl (by first | decide | exact nl rfl) rfl dL_law_292 nxk (kI fun r1 S2 hw => ?_)
  refine r_istore h [1, 2, 3, 4, 5, 6, 0] (by decide) rfl dL_law_295 ?_
  refine r_aload_n h 2 rfl rfl dL_law_297 ?_
  refine r_aload_n h 0 rfl rfl dL_law_298 ?_
  refine r_iload h 5 rfl dL_law_299 ?_
  refine r_iconst h (v := 1) (by decide) dL_law_301 ?_
  refine r_iadd h dL_law_302 ?_
  refine r_sld h hsc hv1 dL_law_303 ?_
  refine r_aload_n h 0 rfl rfl dL_law_304 ?_
  refine r_iload h 5 rfl dL_law_305 ?_
  refine r_iconst h (v := 2) (by decide) dL_law_307 ?_
  refine r_iadd h dL_law_308 ?_
  refine r_sld h hsc hv2 dL_law_309 ?_
  refine r_aload_n h 0 rfl rfl dL_law_310 ?_
  refine r_iload h 5 rfl dL_law_311 ?_
  refine r_iconst h (v := 3) (by decide) dL_law_313 ?_
  refine r_iadd h dL_law_314 ?_
  refine r_sld h hsc hv3 dL_law_315 ?_
  obtain ⟨h4, hw⟩ := hw
  refine r_callV h (fun l => c_X10_setClimate l _ _ _ _ _ _ hw) q1326 q1327 q1328 q64 q1329 nd_X10_setClimate ⟨by decide, by decide⟩ rfl rfl ⟨Nat.le_trans (by omega) hcs.1, Nat.le_trans (by omega) hcs.2⟩ kci11 rfl h4 rfl (by first | decide | exact nl rfl) rfl dL_law_316 nxk (kI fun r5 S6 hw => ?_)
  refine r_istore h [1, 2, 3, 4, 5, 6, 7, 0] (by decide) rfl dL_law_319 ?_
  refine r_aload_n h 2 rfl rfl dL_law_321 ?_
  obtain ⟨h8, hw⟩ := hw
  refine r_callV h (fun l => c_X10_thrown l _ _ _ hw) q1260 q1261 q1262 q64 q1263 nd_X10_thrown ⟨by decide, by decide⟩ rfl rfl ⟨Nat.le_trans (by omega) hcs.1, Nat.le_trans (by omega) hcs.2⟩ kci11 rfl h8 rfl (by first | decide | exact nl rfl) rfl dL_law_322 nxk (kI fun r9 S10 hw => ?_)
  refine r_iload h 6 rfl dL_law_325 ?_
  refine r_icmp_eq h 332 dL_law_327 (by decide) (fun hc => ?_) (fun hc => ?_)
  · replace hw := hw.1 hc
    refine r_iload h 6 rfl dL_law_332 ?_
    refine r_if_ne h 349 dL_law_334 (by decide) (fun hc => ?_) (fun hc => ?_)
    · replace hw := hw.1 hc
      refine r_goto h 2055 dL_law_349 (by decide) ?_
      refine r_vs [0, 1, 2, 3, 4, 5] rfl ?_
      refine r_widen (k := cells + 8) (n := slots + 64) (by omega) (by omega) ?_
      exact hk _ hw
    · replace hw := hw.2 hc
      refine r_aload_n h 3 rfl rfl dL_law_337 ?_
      refine r_iconst h (v := 0) (by decide) dL_law_338 ?_
      obtain ⟨h12, hw⟩ := hw
      obtain ⟨h13, hw⟩ := hw
      refine r_lald h h12 h13 dL_law_339 ?_
      refine r_iload h 7 rfl dL_law_340 ?_
      refine r_i2l h dL_law_342 ?_
      refine r_lcmp h dL_law_343 ?_
      refine r_if_eq h 349 dL_law_344 (by decide) (fun hc => ?_) (fun hc => ?_)
      · replace hw := hw.1 hc
        refine r_goto h 2055 dL_law_349 (by decide) ?_
        refine r_vs [0, 1, 2, 3, 4, 5] rfl ?_
        refine r_widen (k := cells + 8) (n := slots + 64) (by omega) (by omega) ?_
        exact hk _ hw
      · replace hw := hw.2 hc
        exact hw.elim
  · replace hw := hw.2 hc
    exact hw.elim
def lw_2 (S : St) (a1 a2 a3 a4 : Nat) (xs : Nat → Int32) (i : Int32) (K : St → Prop) : Prop := w_L_addLender S a1 (xs (Int32.toNatClampNeg (i + 1))) (xs (Int32.toNatClampNeg (i + 2))) (xs (Int32.toNatClampNeg (i + 3))) a3 (fun (r1 : Int32) (S2 : St) => ok S2 a2 11 ∧ w_X10_addLender S2 a2 (xs (Int32.toNatClampNeg (i + 1))) (xs (Int32.toNatClampNeg (i + 2))) (xs (Int32.toNatClampNeg (i + 3))) (fun (r5 : Int32) (S6 : St) => ok S6 a2 11 ∧ w_X10_thrown S6 a2 (fun (r9 : Int32) (S10 : St) => (((r9 = r1) → (((¬ r1 = 0) → K S10) ∧ ((r1 = 0) → ok S10 a3 103 ∧ vp_in 0 (sN S10 a3) ∧ ((((lg_cmp (sJ S10 a3 (Int32.toNatClampNeg 0)) (Int32.toInt64 r5)) = 0) → K S10) ∧ ((¬ (lg_cmp (sJ S10 a3 (Int32.toNatClampNeg 0)) (Int32.toInt64 r5)) = 0) → False))))) ∧ ((¬ r9 = r1) → False)))))
set_option maxRecDepth 100000 in
set_option maxHeartbeats 4000000 in
theorem lc_2 {X : XE} {b L : Nat} {xs : Nat → Int32} (h : cy X RL "law" cL_law 9 (some .boolean) room_1 []) (hsc : scr X b L xs) {i : Int32} (hv1 : vp_in (i + 1) L) (hv2 : vp_in (i + 2) L) (hv3 : vp_in (i + 3) L) (hv4 : vp_in (i + 4) L) (hv5 : vp_in (i + 5) L) (hv6 : vp_in (i + 6) L) {cells slots : Nat} (hcs : cells + 8 ≤ room_1.cells ∧ slots + 64 ≤ room_1.slots) {K : St → Prop} {a1 a2 a3 a4 : Nat} (hk : ∀ S : St, K S → pw X (cells + 8) (slots + 64) S 2055 [(0, .ref b), (1, .ref a1), (2, .ref a2), (3, .ref a3), (4, .ref a4), (5, .int i)] []) {S : St} (hw : lw_2 S a1 a2 a3 a4 xs i K) : pw X cells slots S 352 [(0, .ref b), (1, .ref a1), (2, .ref a2), (3, .ref a3), (4, .ref a4), (5, .int i)] [] := by
  unfold lw_2 at hw
  refine r_aload_n h 1 rfl rfl dL_law_352 ?_
  refine r_aload_n h 0 rfl rfl dL_law_353 ?_
  refine r_iload h 5 rfl dL_law_354 ?_
  refine r_iconst h (v := 1) (by decide) dL_law_356 ?_
  refine r_iadd h dL_law_357 ?_
  refine r_sld h hsc hv1 dL_law_358 ?_
  refine r_aload_n h 0 rfl rfl dL_law_359 ?_
  refine r_iload h 5 rfl dL_law_360 ?_
  refine r_iconst h (v := 2) (by decide) dL_law_362 ?_
  refine r_iadd h dL_law_363 ?_
  refine r_sld h hsc hv2 dL_law_364 ?_
  refine r_aload_n h 0 rfl rfl dL_law_365 ?_
  refine r_iload h 5 rfl dL_law_366 ?_
  refine r_iconst h (v := 3) (by decide) dL_law_368 ?_
  refine r_iadd h dL_law_369 ?_
  refine r_sld h hsc hv3 dL_law_370 ?_
  refine r_aload_n h 3 rfl rfl dL_law_371 ?_
  refine r_callSW h (fun l => c_L_addLender l _ _ _ _ _ _ _ hw) q716 q717 q54 q718 nd_L_addLender ⟨by decide, by decide⟩ rfl rfl ⟨Nat.le_trans (by omega) hcs.1, Nat.le_trans (by omega) hcs.2⟩ (as := [.ref a1, .int (xs (Int32.toNatClampNeg (i + 1))), .int (xs (Int32.toNatClampNeg (i + 2))), .int (xs (Int32.toNatClampNeg (i + 3))), .ref a3]) rfl (by first | decide | exact nl rfl) rfl dL_law_372 nxk (kI fun r1 S2 hw => ?_)
  refine r_istore h [1, 2, 3, 4, 5, 6, 0] (by decide) rfl dL_law_375 ?_
  refine r_aload_n h 2 rfl rfl dL_law_377 ?_
  refine r_aload_n h 0 rfl rfl dL_law_378 ?_
  refine r_iload h 5 rfl dL_law_379 ?_
  refine r_iconst h (v := 1) (by decide) dL_law_381 ?_
  refine r_iadd h dL_law_382 ?_
  refine r_sld h hsc hv1 dL_law_383 ?_
  refine r_aload_n h 0 rfl rfl dL_law_384 ?_
  refine r_iload h 5 rfl dL_law_385 ?_
  refine r_iconst h (v := 2) (by decide) dL_law_387 ?_
  refine r_iadd h dL_law_388 ?_
  refine r_sld h hsc hv2 dL_law_389 ?_
  refine r_aload_n h 0 rfl rfl dL_law_390 ?_
  refine r_iload h 5 rfl dL_law_391 ?_
  refine r_iconst h (v := 3) (by decide) dL_law_393 ?_
  refine r_iadd h dL_law_394 ?_
  refine r_sld h hsc hv3 dL_law_395 ?_
  obtain ⟨h4, hw⟩ := hw
  refine r_callV h (fun l => c_X10_addLender l _ _ _ _ _ _ hw) q1338 q1339 q1340 q64 q1341 nd_X10_addLender ⟨by decide, by decide⟩ rfl rfl ⟨Nat.le_trans (by omega) hcs.1, Nat.le_trans (by omega) hcs.2⟩ kci11 rfl h4 rfl (by first | decide | exact nl rfl) rfl dL_law_396 nxk (kI fun r5 S6 hw => ?_)
  refine r_istore h [1, 2, 3, 4, 5, 6, 7, 0] (by decide) rfl dL_law_399 ?_
  refine r_aload_n h 2 rfl rfl dL_law_401 ?_
  obtain ⟨h8, hw⟩ := hw
  refine r_callV h (fun l => c_X10_thrown l _ _ _ hw) q1260 q1261 q1262 q64 q1263 nd_X10_thrown ⟨by decide, by decide⟩ rfl rfl ⟨Nat.le_trans (by omega) hcs.1, Nat.le_trans (by omega) hcs.2⟩ kci11 rfl h8 rfl (by first | decide | exact nl rfl) rfl dL_law_402 nxk (kI fun r9 S10 hw => ?_)
  refine r_iload h 6 rfl dL_law_405 ?_
  refine r_icmp_eq h 412 dL_law_407 (by decide) (fun hc => ?_) (fun hc => ?_)
  · replace hw := hw.1 hc
    refine r_iload h 6 rfl dL_law_412 ?_
    refine r_if_ne h 429 dL_law_414 (by decide) (fun hc => ?_) (fun hc => ?_)
    · replace hw := hw.1 hc
      refine r_goto h 2055 dL_law_429 (by decide) ?_
      refine r_vs [0, 1, 2, 3, 4, 5] rfl ?_
      refine r_widen (k := cells + 8) (n := slots + 64) (by omega) (by omega) ?_
      exact hk _ hw
    · replace hw := hw.2 hc
      refine r_aload_n h 3 rfl rfl dL_law_417 ?_
      refine r_iconst h (v := 0) (by decide) dL_law_418 ?_
      obtain ⟨h12, hw⟩ := hw
      obtain ⟨h13, hw⟩ := hw
      refine r_lald h h12 h13 dL_law_419 ?_
      refine r_iload h 7 rfl dL_law_420 ?_
      refine r_i2l h dL_law_422 ?_
      refine r_lcmp h dL_law_423 ?_
      refine r_if_eq h 429 dL_law_424 (by decide) (fun hc => ?_) (fun hc => ?_)
      · replace hw := hw.1 hc
        refine r_goto h 2055 dL_law_429 (by decide) ?_
        refine r_vs [0, 1, 2, 3, 4, 5] rfl ?_
        refine r_widen (k := cells + 8) (n := slots + 64) (by omega) (by omega) ?_
        exact hk _ hw
      · replace hw := hw.2 hc
        exact hw.elim
  · replace hw := hw.2 hc
    exact hw.elim
def lw_3 (S : St) (a1 a2 a3 a4 : Nat) (xs : Nat → Int32) (i : Int32) (K : St → Prop) : Prop := w_L_addWork S a1 (xs (Int32.toNatClampNeg (i + 1))) (xs (Int32.toNatClampNeg (i + 2))) (xs (Int32.toNatClampNeg (i + 3))) (xs (Int32.toNatClampNeg (i + 4))) (xs (Int32.toNatClampNeg (i + 5))) (xs (Int32.toNatClampNeg (i + 6))) a3 (fun (r1 : Int32) (S2 : St) => ok S2 a2 11 ∧ w_X10_addWork S2 a2 (xs (Int32.toNatClampNeg (i + 1))) (xs (Int32.toNatClampNeg (i + 2))) (xs (Int32.toNatClampNeg (i + 3))) (xs (Int32.toNatClampNeg (i + 4))) (xs (Int32.toNatClampNeg (i + 5))) (xs (Int32.toNatClampNeg (i + 6))) (fun (r5 : Int32) (S6 : St) => ok S6 a2 11 ∧ w_X10_thrown S6 a2 (fun (r9 : Int32) (S10 : St) => (((r9 = r1) → (((¬ r1 = 0) → K S10) ∧ ((r1 = 0) → ok S10 a3 103 ∧ vp_in 0 (sN S10 a3) ∧ ((((lg_cmp (sJ S10 a3 (Int32.toNatClampNeg 0)) (Int32.toInt64 r5)) = 0) → K S10) ∧ ((¬ (lg_cmp (sJ S10 a3 (Int32.toNatClampNeg 0)) (Int32.toInt64 r5)) = 0) → False))))) ∧ ((¬ r9 = r1) → False)))))
set_option maxRecDepth 100000 in
set_option maxHeartbeats 4000000 in
theorem lc_3 {X : XE} {b L : Nat} {xs : Nat → Int32} (h : cy X RL "law" cL_law 9 (some .boolean) room_1 []) (hsc : scr X b L xs) {i : Int32} (hv1 : vp_in (i + 1) L) (hv2 : vp_in (i + 2) L) (hv3 : vp_in (i + 3) L) (hv4 : vp_in (i + 4) L) (hv5 : vp_in (i + 5) L) (hv6 : vp_in (i + 6) L) {cells slots : Nat} (hcs : cells + 8 ≤ room_1.cells ∧ slots + 64 ≤ room_1.slots) {K : St → Prop} {a1 a2 a3 a4 : Nat} (hk : ∀ S : St, K S → pw X (cells + 8) (slots + 64) S 2055 [(0, .ref b), (1, .ref a1), (2, .ref a2), (3, .ref a3), (4, .ref a4), (5, .int i)] []) {S : St} (hw : lw_3 S a1 a2 a3 a4 xs i K) : pw X cells slots S 432 [(0, .ref b), (1, .ref a1), (2, .ref a2), (3, .ref a3), (4, .ref a4), (5, .int i)] [] := by
  unfold lw_3 at hw
  refine r_aload_n h 1 rfl rfl dL_law_432 ?_
  refine r_aload_n h 0 rfl rfl dL_law_433 ?_
  refine r_iload h 5 rfl dL_law_434 ?_
  refine r_iconst h (v := 1) (by decide) dL_law_436 ?_
  refine r_iadd h dL_law_437 ?_
  refine r_sld h hsc hv1 dL_law_438 ?_
  refine r_aload_n h 0 rfl rfl dL_law_439 ?_
  refine r_iload h 5 rfl dL_law_440 ?_
  refine r_iconst h (v := 2) (by decide) dL_law_442 ?_
  refine r_iadd h dL_law_443 ?_
  refine r_sld h hsc hv2 dL_law_444 ?_
  refine r_aload_n h 0 rfl rfl dL_law_445 ?_
  refine r_iload h 5 rfl dL_law_446 ?_
  refine r_iconst h (v := 3) (by decide) dL_law_448 ?_
  refine r_iadd h dL_law_449 ?_
  refine r_sld h hsc hv3 dL_law_450 ?_
  refine r_aload_n h 0 rfl rfl dL_law_451 ?_
  refine r_iload h 5 rfl dL_law_452 ?_
  refine r_iconst h (v := 4) (by decide) dL_law_454 ?_
  refine r_iadd h dL_law_455 ?_
  refine r_sld h hsc hv4 dL_law_456 ?_
  refine r_aload_n h 0 rfl rfl dL_law_457 ?_
  refine r_iload h 5 rfl dL_law_458 ?_
  refine r_iconst h (v := 5) (by decide) dL_law_460 ?_
  refine r_iadd h dL_law_461 ?_
  refine r_sld h hsc hv5 dL_law_462 ?_
  refine r_aload_n h 0 rfl rfl dL_law_463 ?_
  refine r_iload h 5 rfl dL_law_464 ?_
  refine r_bipush h (v := 6) (by decide) dL_law_466 ?_
  refine r_iadd h dL_law_468 ?_
  refine r_sld h hsc hv6 dL_law_469 ?_
  refine r_aload_n h 3 rfl rfl dL_law_470 ?_
  refine r_callSW h (fun l => c_L_addWork l _ _ _ _ _ _ _ _ _ _ hw) q749 q750 q54 q751 nd_L_addWork ⟨by decide, by decide⟩ rfl rfl ⟨Nat.le_trans (by omega) hcs.1, Nat.le_trans (by omega) hcs.2⟩ (as := [.ref a1, .int (xs (Int32.toNatClampNeg (i + 1))), .int (xs (Int32.toNatClampNeg (i + 2))), .int (xs (Int32.toNatClampNeg (i + 3))), .int (xs (Int32.toNatClampNeg (i + 4))), .int (xs (Int32.toNatClampNeg (i + 5))), .int (xs (Int32.toNatClampNeg (i + 6))), .ref a3]) rfl (by first | decide | exact nl rfl) rfl dL_law_471 nxk (kI fun r1 S2 hw => ?_)
  refine r_istore h [1, 2, 3, 4, 5, 6, 0] (by decide) rfl dL_law_474 ?_
  refine r_aload_n h 2 rfl rfl dL_law_476 ?_
  refine r_aload_n h 0 rfl rfl dL_law_477 ?_
  refine r_iload h 5 rfl dL_law_478 ?_
  refine r_iconst h (v := 1) (by decide) dL_law_480 ?_
  refine r_iadd h dL_law_481 ?_
  refine r_sld h hsc hv1 dL_law_482 ?_
  refine r_aload_n h 0 rfl rfl dL_law_483 ?_
  refine r_iload h 5 rfl dL_law_484 ?_
  refine r_iconst h (v := 2) (by decide) dL_law_486 ?_
  refine r_iadd h dL_law_487 ?_
  refine r_sld h hsc hv2 dL_law_488 ?_
  refine r_aload_n h 0 rfl rfl dL_law_489 ?_
  refine r_iload h 5 rfl dL_law_490 ?_
  refine r_iconst h (v := 3) (by decide) dL_law_492 ?_
  refine r_iadd h dL_law_493 ?_
  refine r_sld h hsc hv3 dL_law_494 ?_
  refine r_aload_n h 0 rfl rfl dL_law_495 ?_
  refine r_iload h 5 rfl dL_law_496 ?_
  refine r_iconst h (v := 4) (by decide) dL_law_498 ?_
  refine r_iadd h dL_law_499 ?_
  refine r_sld h hsc hv4 dL_law_500 ?_
  refine r_aload_n h 0 rfl rfl dL_law_501 ?_
  refine r_iload h 5 rfl dL_law_502 ?_
  refine r_iconst h (v := 5) (by decide) dL_law_504 ?_
  refine r_iadd h dL_law_505 ?_
  refine r_sld h hsc hv5 dL_law_506 ?_
  refine r_aload_n h 0 rfl rfl dL_law_507 ?_
  refine r_iload h 5 rfl dL_law_508 ?_
  refine r_bipush h (v := 6) (by decide) dL_law_510 ?_
  refine r_iadd h dL_law_512 ?_
  refine r_sld h hsc hv6 dL_law_513 ?_
  obtain ⟨h4, hw⟩ := hw
  refine r_callV h (fun l => c_X10_addWork l _ _ _ _ _ _ _ _ _ hw) q1342 q1343 q1344 q64 q1345 nd_X10_addWork ⟨by decide, by decide⟩ rfl rfl ⟨Nat.le_trans (by omega) hcs.1, Nat.le_trans (by omega) hcs.2⟩ kci11 rfl h4 rfl (by first | decide | exact nl rfl) rfl dL_law_514 nxk (kI fun r5 S6 hw => ?_)
  refine r_istore h [1, 2, 3, 4, 5, 6, 7, 0] (by decide) rfl dL_law_517 ?_
  refine r_aload_n h 2 rfl rfl dL_law_519 ?_
  obtain ⟨h8, hw⟩ := hw
  refine r_callV h (fun l => c_X10_thrown l _ _ _ hw) q1260 q1261 q1262 q64 q1263 nd_X10_thrown ⟨by decide, by decide⟩ rfl rfl ⟨Nat.le_trans (by omega) hcs.1, Nat.le_trans (by omega) hcs.2⟩ kci11 rfl h8 rfl (by first | decide | exact nl rfl) rfl dL_law_520 nxk (kI fun r9 S10 hw => ?_)
  refine r_iload h 6 rfl dL_law_523 ?_
  refine r_icmp_eq h 530 dL_law_525 (by decide) (fun hc => ?_) (fun hc => ?_)
  · replace hw := hw.1 hc
    refine r_iload h 6 rfl dL_law_530 ?_
    refine r_if_ne h 547 dL_law_532 (by decide) (fun hc => ?_) (fun hc => ?_)
    · replace hw := hw.1 hc
      refine r_goto h 2055 dL_law_547 (by decide) ?_
      refine r_vs [0, 1, 2, 3, 4, 5] rfl ?_
      refine r_widen (k := cells + 8) (n := slots + 64) (by omega) (by omega) ?_
      exact hk _ hw
    · replace hw := hw.2 hc
      refine r_aload_n h 3 rfl rfl dL_law_535 ?_
      refine r_iconst h (v := 0) (by decide) dL_law_536 ?_
      obtain ⟨h12, hw⟩ := hw
      obtain ⟨h13, hw⟩ := hw
      refine r_lald h h12 h13 dL_law_537 ?_
      refine r_iload h 7 rfl dL_law_538 ?_
      refine r_i2l h dL_law_540 ?_
      refine r_lcmp h dL_law_541 ?_
      refine r_if_eq h 547 dL_law_542 (by decide) (fun hc => ?_) (fun hc => ?_)
      · replace hw := hw.1 hc
        refine r_goto h 2055 dL_law_547 (by decide) ?_
        refine r_vs [0, 1, 2, 3, 4, 5] rfl ?_
        refine r_widen (k := cells + 8) (n := slots + 64) (by omega) (by omega) ?_
        exact hk _ hw
      · replace hw := hw.2 hc
        exact hw.elim
  · replace hw := hw.2 hc
    exact hw.elim
def lw_4 (S : St) (a1 a2 a3 a4 : Nat) (xs : Nat → Int32) (i : Int32) (K : St → Prop) : Prop := w_L_separate S a1 (xs (Int32.toNatClampNeg (i + 1))) (xs (Int32.toNatClampNeg (i + 2))) (cof (xs (Int32.toNatClampNeg (i + 3)))) a3 (fun (r1 : Int32) (S2 : St) => ok S2 a2 11 ∧ w_X10_separate S2 a2 (xs (Int32.toNatClampNeg (i + 1))) (xs (Int32.toNatClampNeg (i + 2))) (cof (xs (Int32.toNatClampNeg (i + 3)))) (fun (r5 : Int32) (S6 : St) => ok S6 a2 11 ∧ w_X10_thrown S6 a2 (fun (r9 : Int32) (S10 : St) => (((r9 = r1) → (((¬ r1 = 0) → K S10) ∧ ((r1 = 0) → ok S10 a3 103 ∧ vp_in 0 (sN S10 a3) ∧ ((((lg_cmp (sJ S10 a3 (Int32.toNatClampNeg 0)) (Int32.toInt64 r5)) = 0) → K S10) ∧ ((¬ (lg_cmp (sJ S10 a3 (Int32.toNatClampNeg 0)) (Int32.toInt64 r5)) = 0) → False))))) ∧ ((¬ r9 = r1) → False)))))
set_option maxRecDepth 100000 in
set_option maxHeartbeats 4000000 in
theorem lc_4 {X : XE} {b L : Nat} {xs : Nat → Int32} (h : cy X RL "law" cL_law 9 (some .boolean) room_1 []) (hsc : scr X b L xs) {i : Int32} (hv1 : vp_in (i + 1) L) (hv2 : vp_in (i + 2) L) (hv3 : vp_in (i + 3) L) (hv4 : vp_in (i + 4) L) (hv5 : vp_in (i + 5) L) (hv6 : vp_in (i + 6) L) {cells slots : Nat} (hcs : cells + 8 ≤ room_1.cells ∧ slots + 64 ≤ room_1.slots) {K : St → Prop} {a1 a2 a3 a4 : Nat} (hk : ∀ S : St, K S → pw X (cells + 8) (slots + 64) S 2055 [(0, .ref b), (1, .ref a1), (2, .ref a2), (3, .ref a3), (4, .ref a4), (5, .int i)] []) {S : St} (hw : lw_4 S a1 a2 a3 a4 xs i K) : pw X cells slots S 550 [(0, .ref b), (1, .ref a1), (2, .ref a2), (3, .ref a3), (4, .ref a4), (5, .int i)] [] := by
  unfold lw_4 at hw
  refine r_aload_n h 1 rfl rfl dL_law_550 ?_
  refine r_aload_n h 0 rfl rfl dL_law_551 ?_
  refine r_iload h 5 rfl dL_law_552 ?_
  refine r_iconst h (v := 1) (by decide) dL_law_554 ?_
  refine r_iadd h dL_law_555 ?_
  refine r_sld h hsc hv1 dL_law_556 ?_
  refine r_aload_n h 0 rfl rfl dL_law_557 ?_
  refine r_iload h 5 rfl dL_law_558 ?_
  refine r_iconst h (v := 2) (by decide) dL_law_560 ?_
  refine r_iadd h dL_law_561 ?_
  refine r_sld h hsc hv2 dL_law_562 ?_
  refine r_aload_n h 0 rfl rfl dL_law_563 ?_
  refine r_iload h 5 rfl dL_law_564 ?_
  refine r_iconst h (v := 3) (by decide) dL_law_566 ?_
  refine r_iadd h dL_law_567 ?_
  refine r_sld h hsc hv3 dL_law_568 ?_
  refine r_i2c h dL_law_569 ?_
  refine r_aload_n h 3 rfl rfl dL_law_570 ?_
  refine r_callSW h (fun l => c_L_separate l _ _ _ _ _ _ _ hw) q795 q796 q54 q797 nd_L_separate ⟨by decide, by decide⟩ rfl rfl ⟨Nat.le_trans (by omega) hcs.1, Nat.le_trans (by omega) hcs.2⟩ (as := [.ref a1, .int (xs (Int32.toNatClampNeg (i + 1))), .int (xs (Int32.toNatClampNeg (i + 2))), .int (cof (xs (Int32.toNatClampNeg (i + 3)))), .ref a3]) rfl (by first | decide | exact nl rfl) rfl dL_law_571 nxk (kI fun r1 S2 hw => ?_)
  refine r_istore h [1, 2, 3, 4, 5, 6, 0] (by decide) rfl dL_law_574 ?_
  refine r_aload_n h 2 rfl rfl dL_law_576 ?_
  refine r_aload_n h 0 rfl rfl dL_law_577 ?_
  refine r_iload h 5 rfl dL_law_578 ?_
  refine r_iconst h (v := 1) (by decide) dL_law_580 ?_
  refine r_iadd h dL_law_581 ?_
  refine r_sld h hsc hv1 dL_law_582 ?_
  refine r_aload_n h 0 rfl rfl dL_law_583 ?_
  refine r_iload h 5 rfl dL_law_584 ?_
  refine r_iconst h (v := 2) (by decide) dL_law_586 ?_
  refine r_iadd h dL_law_587 ?_
  refine r_sld h hsc hv2 dL_law_588 ?_
  refine r_aload_n h 0 rfl rfl dL_law_589 ?_
  refine r_iload h 5 rfl dL_law_590 ?_
  refine r_iconst h (v := 3) (by decide) dL_law_592 ?_
  refine r_iadd h dL_law_593 ?_
  refine r_sld h hsc hv3 dL_law_594 ?_
  refine r_i2c h dL_law_595 ?_
  obtain ⟨h4, hw⟩ := hw
  refine r_callV h (fun l => c_X10_separate l _ _ _ _ _ _ hw) q1346 q1347 q1348 q64 q1349 nd_X10_separate ⟨by decide, by decide⟩ rfl rfl ⟨Nat.le_trans (by omega) hcs.1, Nat.le_trans (by omega) hcs.2⟩ kci11 rfl h4 rfl (by first | decide | exact nl rfl) rfl dL_law_596 nxk (kI fun r5 S6 hw => ?_)
  refine r_istore h [1, 2, 3, 4, 5, 6, 7, 0] (by decide) rfl dL_law_599 ?_
  refine r_aload_n h 2 rfl rfl dL_law_601 ?_
  obtain ⟨h8, hw⟩ := hw
  refine r_callV h (fun l => c_X10_thrown l _ _ _ hw) q1260 q1261 q1262 q64 q1263 nd_X10_thrown ⟨by decide, by decide⟩ rfl rfl ⟨Nat.le_trans (by omega) hcs.1, Nat.le_trans (by omega) hcs.2⟩ kci11 rfl h8 rfl (by first | decide | exact nl rfl) rfl dL_law_602 nxk (kI fun r9 S10 hw => ?_)
  refine r_iload h 6 rfl dL_law_605 ?_
  refine r_icmp_eq h 612 dL_law_607 (by decide) (fun hc => ?_) (fun hc => ?_)
  · replace hw := hw.1 hc
    refine r_iload h 6 rfl dL_law_612 ?_
    refine r_if_ne h 629 dL_law_614 (by decide) (fun hc => ?_) (fun hc => ?_)
    · replace hw := hw.1 hc
      refine r_goto h 2055 dL_law_629 (by decide) ?_
      refine r_vs [0, 1, 2, 3, 4, 5] rfl ?_
      refine r_widen (k := cells + 8) (n := slots + 64) (by omega) (by omega) ?_
      exact hk _ hw
    · replace hw := hw.2 hc
      refine r_aload_n h 3 rfl rfl dL_law_617 ?_
      refine r_iconst h (v := 0) (by decide) dL_law_618 ?_
      obtain ⟨h12, hw⟩ := hw
      obtain ⟨h13, hw⟩ := hw
      refine r_lald h h12 h13 dL_law_619 ?_
      refine r_iload h 7 rfl dL_law_620 ?_
      refine r_i2l h dL_law_622 ?_
      refine r_lcmp h dL_law_623 ?_
      refine r_if_eq h 629 dL_law_624 (by decide) (fun hc => ?_) (fun hc => ?_)
      · replace hw := hw.1 hc
        refine r_goto h 2055 dL_law_629 (by decide) ?_
        refine r_vs [0, 1, 2, 3, 4, 5] rfl ?_
        refine r_widen (k := cells + 8) (n := slots + 64) (by omega) (by omega) ?_
        exact hk _ hw
      · replace hw := hw.2 hc
        exact hw.elim
  · replace hw := hw.2 hc
    exact hw.elim
def lw_5 (S : St) (a1 a2 a3 a4 : Nat) (xs : Nat → Int32) (i : Int32) (K : St → Prop) : Prop := ok S a1 10 ∧ w_X9_rooms S a1 (fun (r2 : Int32) (S3 : St) => ok S3 a2 11 ∧ w_X10_rooms S3 a2 (fun (r6 : Int32) (S7 : St) => (((r2 = r6) → K S7) ∧ ((¬ r2 = r6) → False))))
set_option maxRecDepth 100000 in
set_option maxHeartbeats 4000000 in
theorem lc_5 {X : XE} {b L : Nat} {xs : Nat → Int32} (h : cy X RL "law" cL_law 9 (some .boolean) room_1 []) (hsc : scr X b L xs) {i : Int32} (hv1 : vp_in (i + 1) L) (hv2 : vp_in (i + 2) L) (hv3 : vp_in (i + 3) L) (hv4 : vp_in (i + 4) L) (hv5 : vp_in (i + 5) L) (hv6 : vp_in (i + 6) L) {cells slots : Nat} (hcs : cells + 8 ≤ room_1.cells ∧ slots + 64 ≤ room_1.slots) {K : St → Prop} {a1 a2 a3 a4 : Nat} (hk : ∀ S : St, K S → pw X (cells + 8) (slots + 64) S 2055 [(0, .ref b), (1, .ref a1), (2, .ref a2), (3, .ref a3), (4, .ref a4), (5, .int i)] []) {S : St} (hw : lw_5 S a1 a2 a3 a4 xs i K) : pw X cells slots S 632 [(0, .ref b), (1, .ref a1), (2, .ref a2), (3, .ref a3), (4, .ref a4), (5, .int i)] [] := by
  unfold lw_5 at hw
  refine r_aload_n h 1 rfl rfl dL_law_632 ?_
  obtain ⟨h1, hw⟩ := hw
  refine r_callV h (fun l => c_X9_rooms l _ _ _ hw) q234 q235 q236 q55 q237 nd_X9_rooms ⟨by decide, by decide⟩ rfl rfl ⟨Nat.le_trans (by omega) hcs.1, Nat.le_trans (by omega) hcs.2⟩ kci10 rfl h1 rfl (by first | decide | exact nl rfl) rfl dL_law_633 nxk (kI fun r2 S3 hw => ?_)
  refine r_aload_n h 2 rfl rfl dL_law_636 ?_
  obtain ⟨h5, hw⟩ := hw
  refine r_callV h (fun l => c_X10_rooms l _ _ _ hw) q1362 q1363 q1364 q64 q1365 nd_X10_rooms ⟨by decide, by decide⟩ rfl rfl ⟨Nat.le_trans (by omega) hcs.1, Nat.le_trans (by omega) hcs.2⟩ kci11 rfl h5 rfl (by first | decide | exact nl rfl) rfl dL_law_637 nxk (kI fun r6 S7 hw => ?_)
  refine r_icmp_eq h 2055 dL_law_640 (by decide) (fun hc => ?_) (fun hc => ?_)
  · replace hw := hw.1 hc
    refine r_widen (k := cells + 8) (n := slots + 64) (by omega) (by omega) ?_
    exact hk _ hw
  · replace hw := hw.2 hc
    exact hw.elim
def lw_6 (S : St) (a1 a2 a3 a4 : Nat) (xs : Nat → Int32) (i : Int32) (K : St → Prop) : Prop := ok S a1 10 ∧ w_X9_works S a1 (fun (r2 : Int32) (S3 : St) => ok S3 a2 11 ∧ w_X10_works S3 a2 (fun (r6 : Int32) (S7 : St) => (((r2 = r6) → K S7) ∧ ((¬ r2 = r6) → False))))
set_option maxRecDepth 100000 in
set_option maxHeartbeats 4000000 in
theorem lc_6 {X : XE} {b L : Nat} {xs : Nat → Int32} (h : cy X RL "law" cL_law 9 (some .boolean) room_1 []) (hsc : scr X b L xs) {i : Int32} (hv1 : vp_in (i + 1) L) (hv2 : vp_in (i + 2) L) (hv3 : vp_in (i + 3) L) (hv4 : vp_in (i + 4) L) (hv5 : vp_in (i + 5) L) (hv6 : vp_in (i + 6) L) {cells slots : Nat} (hcs : cells + 8 ≤ room_1.cells ∧ slots + 64 ≤ room_1.slots) {K : St → Prop} {a1 a2 a3 a4 : Nat} (hk : ∀ S : St, K S → pw X (cells + 8) (slots + 64) S 2055 [(0, .ref b), (1, .ref a1), (2, .ref a2), (3, .ref a3), (4, .ref a4), (5, .int i)] []) {S : St} (hw : lw_6 S a1 a2 a3 a4 xs i K) : pw X cells slots S 645 [(0, .ref b), (1, .ref a1), (2, .ref a2), (3, .ref a3), (4, .ref a4), (5, .int i)] [] := by
  unfold lw_6 at hw
  refine r_aload_n h 1 rfl rfl dL_law_645 ?_
  obtain ⟨h1, hw⟩ := hw
  refine r_callV h (fun l => c_X9_works l _ _ _ hw) q242 q243 q244 q55 q245 nd_X9_works ⟨by decide, by decide⟩ rfl rfl ⟨Nat.le_trans (by omega) hcs.1, Nat.le_trans (by omega) hcs.2⟩ kci10 rfl h1 rfl (by first | decide | exact nl rfl) rfl dL_law_646 nxk (kI fun r2 S3 hw => ?_)
  refine r_aload_n h 2 rfl rfl dL_law_649 ?_
  obtain ⟨h5, hw⟩ := hw
  refine r_callV h (fun l => c_X10_works l _ _ _ hw) q1370 q1371 q1372 q64 q1373 nd_X10_works ⟨by decide, by decide⟩ rfl rfl ⟨Nat.le_trans (by omega) hcs.1, Nat.le_trans (by omega) hcs.2⟩ kci11 rfl h5 rfl (by first | decide | exact nl rfl) rfl dL_law_650 nxk (kI fun r6 S7 hw => ?_)
  refine r_icmp_eq h 2055 dL_law_653 (by decide) (fun hc => ?_) (fun hc => ?_)
  · replace hw := hw.1 hc
    refine r_widen (k := cells + 8) (n := slots + 64) (by omega) (by omega) ?_
    exact hk _ hw
  · replace hw := hw.2 hc
    exact hw.elim
def lw_7 (S : St) (a1 a2 a3 a4 : Nat) (xs : Nat → Int32) (i : Int32) (K : St → Prop) : Prop := w_L_separation S a1 (xs (Int32.toNatClampNeg (i + 1))) (xs (Int32.toNatClampNeg (i + 2))) a3 (fun (r1 : Int32) (S2 : St) => ok S2 a2 11 ∧ w_X10_separation S2 a2 (xs (Int32.toNatClampNeg (i + 1))) (xs (Int32.toNatClampNeg (i + 2))) (fun (r5 : Int32) (S6 : St) => ok S6 a2 11 ∧ w_X10_thrown S6 a2 (fun (r9 : Int32) (S10 : St) => (((r9 = r1) → (((¬ r1 = 0) → K S10) ∧ ((r1 = 0) → ok S10 a3 103 ∧ vp_in 0 (sN S10 a3) ∧ ((((lg_cmp (sJ S10 a3 (Int32.toNatClampNeg 0)) (Int32.toInt64 r5)) = 0) → K S10) ∧ ((¬ (lg_cmp (sJ S10 a3 (Int32.toNatClampNeg 0)) (Int32.toInt64 r5)) = 0) → False))))) ∧ ((¬ r9 = r1) → False)))))
set_option maxRecDepth 100000 in
set_option maxHeartbeats 4000000 in
theorem lc_7 {X : XE} {b L : Nat} {xs : Nat → Int32} (h : cy X RL "law" cL_law 9 (some .boolean) room_1 []) (hsc : scr X b L xs) {i : Int32} (hv1 : vp_in (i + 1) L) (hv2 : vp_in (i + 2) L) (hv3 : vp_in (i + 3) L) (hv4 : vp_in (i + 4) L) (hv5 : vp_in (i + 5) L) (hv6 : vp_in (i + 6) L) {cells slots : Nat} (hcs : cells + 8 ≤ room_1.cells ∧ slots + 64 ≤ room_1.slots) {K : St → Prop} {a1 a2 a3 a4 : Nat} (hk : ∀ S : St, K S → pw X (cells + 8) (slots + 64) S 2055 [(0, .ref b), (1, .ref a1), (2, .ref a2), (3, .ref a3), (4, .ref a4), (5, .int i)] []) {S : St} (hw : lw_7 S a1 a2 a3 a4 xs i K) : pw X cells slots S 658 [(0, .ref b), (1, .ref a1), (2, .ref a2), (3, .ref a3), (4, .ref a4), (5, .int i)] [] := by
  unfold lw_7 at hw
  refine r_aload_n h 1 rfl rfl dL_law_658 ?_
  refine r_aload_n h 0 rfl rfl dL_law_659 ?_
  refine r_iload h 5 rfl dL_law_660 ?_
  refine r_iconst h (v := 1) (by decide) dL_law_662 ?_
  refine r_iadd h dL_law_663 ?_
  refine r_sld h hsc hv1 dL_law_664 ?_
  refine r_aload_n h 0 rfl rfl dL_law_665 ?_
  refine r_iload h 5 rfl dL_law_666 ?_
  refine r_iconst h (v := 2) (by decide) dL_law_668 ?_
  refine r_iadd h dL_law_669 ?_
  refine r_sld h hsc hv2 dL_law_670 ?_
  refine r_aload_n h 3 rfl rfl dL_law_671 ?_
  refine r_callSW h (fun l => c_L_separation l _ _ _ _ _ _ hw) q831 q832 q54 q833 nd_L_separation ⟨by decide, by decide⟩ rfl rfl ⟨Nat.le_trans (by omega) hcs.1, Nat.le_trans (by omega) hcs.2⟩ (as := [.ref a1, .int (xs (Int32.toNatClampNeg (i + 1))), .int (xs (Int32.toNatClampNeg (i + 2))), .ref a3]) rfl (by first | decide | exact nl rfl) rfl dL_law_672 nxk (kI fun r1 S2 hw => ?_)
  refine r_istore h [1, 2, 3, 4, 5, 6, 0] (by decide) rfl dL_law_675 ?_
  refine r_aload_n h 2 rfl rfl dL_law_677 ?_
  refine r_aload_n h 0 rfl rfl dL_law_678 ?_
  refine r_iload h 5 rfl dL_law_679 ?_
  refine r_iconst h (v := 1) (by decide) dL_law_681 ?_
  refine r_iadd h dL_law_682 ?_
  refine r_sld h hsc hv1 dL_law_683 ?_
  refine r_aload_n h 0 rfl rfl dL_law_684 ?_
  refine r_iload h 5 rfl dL_law_685 ?_
  refine r_iconst h (v := 2) (by decide) dL_law_687 ?_
  refine r_iadd h dL_law_688 ?_
  refine r_sld h hsc hv2 dL_law_689 ?_
  obtain ⟨h4, hw⟩ := hw
  refine r_callV h (fun l => c_X10_separation l _ _ _ _ _ hw) q1374 q1375 q1376 q64 q1377 nd_X10_separation ⟨by decide, by decide⟩ rfl rfl ⟨Nat.le_trans (by omega) hcs.1, Nat.le_trans (by omega) hcs.2⟩ kci11 rfl h4 rfl (by first | decide | exact nl rfl) rfl dL_law_690 nxk (kI fun r5 S6 hw => ?_)
  refine r_istore h [1, 2, 3, 4, 5, 6, 7, 0] (by decide) rfl dL_law_693 ?_
  refine r_aload_n h 2 rfl rfl dL_law_695 ?_
  obtain ⟨h8, hw⟩ := hw
  refine r_callV h (fun l => c_X10_thrown l _ _ _ hw) q1260 q1261 q1262 q64 q1263 nd_X10_thrown ⟨by decide, by decide⟩ rfl rfl ⟨Nat.le_trans (by omega) hcs.1, Nat.le_trans (by omega) hcs.2⟩ kci11 rfl h8 rfl (by first | decide | exact nl rfl) rfl dL_law_696 nxk (kI fun r9 S10 hw => ?_)
  refine r_iload h 6 rfl dL_law_699 ?_
  refine r_icmp_eq h 706 dL_law_701 (by decide) (fun hc => ?_) (fun hc => ?_)
  · replace hw := hw.1 hc
    refine r_iload h 6 rfl dL_law_706 ?_
    refine r_if_ne h 723 dL_law_708 (by decide) (fun hc => ?_) (fun hc => ?_)
    · replace hw := hw.1 hc
      refine r_goto h 2055 dL_law_723 (by decide) ?_
      refine r_vs [0, 1, 2, 3, 4, 5] rfl ?_
      refine r_widen (k := cells + 8) (n := slots + 64) (by omega) (by omega) ?_
      exact hk _ hw
    · replace hw := hw.2 hc
      refine r_aload_n h 3 rfl rfl dL_law_711 ?_
      refine r_iconst h (v := 0) (by decide) dL_law_712 ?_
      obtain ⟨h12, hw⟩ := hw
      obtain ⟨h13, hw⟩ := hw
      refine r_lald h h12 h13 dL_law_713 ?_
      refine r_iload h 7 rfl dL_law_714 ?_
      refine r_i2l h dL_law_716 ?_
      refine r_lcmp h dL_law_717 ?_
      refine r_if_eq h 723 dL_law_718 (by decide) (fun hc => ?_) (fun hc => ?_)
      · replace hw := hw.1 hc
        refine r_goto h 2055 dL_law_723 (by decide) ?_
        refine r_vs [0, 1, 2, 3, 4, 5] rfl ?_
        refine r_widen (k := cells + 8) (n := slots + 64) (by omega) (by omega) ?_
        exact hk _ hw
      · replace hw := hw.2 hc
        exact hw.elim
  · replace hw := hw.2 hc
    exact hw.elim
def lw_8 (S : St) (a1 a2 a3 a4 : Nat) (xs : Nat → Int32) (i : Int32) (K : St → Prop) : Prop := w_L_canHang S a1 (xs (Int32.toNatClampNeg (i + 1))) (xs (Int32.toNatClampNeg (i + 2))) a3 (fun (r1 : Int32) (S2 : St) => ok S2 a2 11 ∧ w_X10_canHang S2 a2 (xs (Int32.toNatClampNeg (i + 1))) (xs (Int32.toNatClampNeg (i + 2))) (fun (r5 : Int32) (S6 : St) => ok S6 a2 11 ∧ w_X10_thrown S6 a2 (fun (r9 : Int32) (S10 : St) => (((r9 = r1) → (((¬ r1 = 0) → K S10) ∧ ((r1 = 0) → ok S10 a3 103 ∧ vp_in 0 (sN S10 a3) ∧ (((r5 = 0) → ((((lg_cmp (sJ S10 a3 (Int32.toNatClampNeg 0)) 0) = 0) → K S10) ∧ ((¬ (lg_cmp (sJ S10 a3 (Int32.toNatClampNeg 0)) 0) = 0) → False))) ∧ ((¬ r5 = 0) → ((((lg_cmp (sJ S10 a3 (Int32.toNatClampNeg 0)) 1) = 0) → K S10) ∧ ((¬ (lg_cmp (sJ S10 a3 (Int32.toNatClampNeg 0)) 1) = 0) → False))))))) ∧ ((¬ r9 = r1) → False)))))
set_option maxRecDepth 100000 in
set_option maxHeartbeats 4000000 in
theorem lc_8 {X : XE} {b L : Nat} {xs : Nat → Int32} (h : cy X RL "law" cL_law 9 (some .boolean) room_1 []) (hsc : scr X b L xs) {i : Int32} (hv1 : vp_in (i + 1) L) (hv2 : vp_in (i + 2) L) (hv3 : vp_in (i + 3) L) (hv4 : vp_in (i + 4) L) (hv5 : vp_in (i + 5) L) (hv6 : vp_in (i + 6) L) {cells slots : Nat} (hcs : cells + 8 ≤ room_1.cells ∧ slots + 64 ≤ room_1.slots) {K : St → Prop} {a1 a2 a3 a4 : Nat} (hk : ∀ S : St, K S → pw X (cells + 8) (slots + 64) S 2055 [(0, .ref b), (1, .ref a1), (2, .ref a2), (3, .ref a3), (4, .ref a4), (5, .int i)] []) {S : St} (hw : lw_8 S a1 a2 a3 a4 xs i K) : pw X cells slots S 726 [(0, .ref b), (1, .ref a1), (2, .ref a2), (3, .ref a3), (4, .ref a4), (5, .int i)] [] := by
  unfold lw_8 at hw
  refine r_aload_n h 1 rfl rfl dL_law_726 ?_
  refine r_aload_n h 0 rfl rfl dL_law_727 ?_
  refine r_iload h 5 rfl dL_law_728 ?_
  refine r_iconst h (v := 1) (by decide) dL_law_730 ?_
  refine r_iadd h dL_law_731 ?_
  refine r_sld h hsc hv1 dL_law_732 ?_
  refine r_aload_n h 0 rfl rfl dL_law_733 ?_
  refine r_iload h 5 rfl dL_law_734 ?_
  refine r_iconst h (v := 2) (by decide) dL_law_736 ?_
  refine r_iadd h dL_law_737 ?_
  refine r_sld h hsc hv2 dL_law_738 ?_
  refine r_aload_n h 3 rfl rfl dL_law_739 ?_
  refine r_callSW h (fun l => c_L_canHang l _ _ _ _ _ _ hw) q839 q840 q54 q841 nd_L_canHang ⟨by decide, by decide⟩ rfl rfl ⟨Nat.le_trans (by omega) hcs.1, Nat.le_trans (by omega) hcs.2⟩ (as := [.ref a1, .int (xs (Int32.toNatClampNeg (i + 1))), .int (xs (Int32.toNatClampNeg (i + 2))), .ref a3]) rfl (by first | decide | exact nl rfl) rfl dL_law_740 nxk (kI fun r1 S2 hw => ?_)
  refine r_istore h [1, 2, 3, 4, 5, 6, 0] (by decide) rfl dL_law_743 ?_
  refine r_aload_n h 2 rfl rfl dL_law_745 ?_
  refine r_aload_n h 0 rfl rfl dL_law_746 ?_
  refine r_iload h 5 rfl dL_law_747 ?_
  refine r_iconst h (v := 1) (by decide) dL_law_749 ?_
  refine r_iadd h dL_law_750 ?_
  refine r_sld h hsc hv1 dL_law_751 ?_
  refine r_aload_n h 0 rfl rfl dL_law_752 ?_
  refine r_iload h 5 rfl dL_law_753 ?_
  refine r_iconst h (v := 2) (by decide) dL_law_755 ?_
  refine r_iadd h dL_law_756 ?_
  refine r_sld h hsc hv2 dL_law_757 ?_
  obtain ⟨h4, hw⟩ := hw
  refine r_callV h (fun l => c_X10_canHang l _ _ _ _ _ hw) q1382 q1383 q1384 q64 q1385 nd_X10_canHang ⟨by decide, by decide⟩ rfl rfl ⟨Nat.le_trans (by omega) hcs.1, Nat.le_trans (by omega) hcs.2⟩ kci11 rfl h4 rfl (by first | decide | exact nl rfl) rfl dL_law_758 nxk (kI fun r5 S6 hw => ?_)
  refine r_istore h [1, 2, 3, 4, 5, 6, 7, 0] (by decide) rfl dL_law_761 ?_
  refine r_aload_n h 2 rfl rfl dL_law_763 ?_
  obtain ⟨h8, hw⟩ := hw
  refine r_callV h (fun l => c_X10_thrown l _ _ _ hw) q1260 q1261 q1262 q64 q1263 nd_X10_thrown ⟨by decide, by decide⟩ rfl rfl ⟨Nat.le_trans (by omega) hcs.1, Nat.le_trans (by omega) hcs.2⟩ kci11 rfl h8 rfl (by first | decide | exact nl rfl) rfl dL_law_764 nxk (kI fun r9 S10 hw => ?_)
  refine r_iload h 6 rfl dL_law_767 ?_
  refine r_icmp_eq h 774 dL_law_769 (by decide) (fun hc => ?_) (fun hc => ?_)
  · replace hw := hw.1 hc
    refine r_iload h 6 rfl dL_law_774 ?_
    refine r_if_ne h 798 dL_law_776 (by decide) (fun hc => ?_) (fun hc => ?_)
    · replace hw := hw.1 hc
      refine r_goto h 2055 dL_law_798 (by decide) ?_
      refine r_vs [0, 1, 2, 3, 4, 5] rfl ?_
      refine r_widen (k := cells + 8) (n := slots + 64) (by omega) (by omega) ?_
      exact hk _ hw
    · replace hw := hw.2 hc
      refine r_aload_n h 3 rfl rfl dL_law_779 ?_
      refine r_iconst h (v := 0) (by decide) dL_law_780 ?_
      obtain ⟨h12, hw⟩ := hw
      obtain ⟨h13, hw⟩ := hw
      refine r_lald h h12 h13 dL_law_781 ?_
      refine r_iload h 7 rfl dL_law_782 ?_
      refine r_if_eq h 791 dL_law_784 (by decide) (fun hc => ?_) (fun hc => ?_)
      · replace hw := hw.1 hc
        refine r_lconst h (v := 0) (by decide) dL_law_791 ?_
        refine r_lcmp h dL_law_792 ?_
        refine r_if_eq h 798 dL_law_793 (by decide) (fun hc => ?_) (fun hc => ?_)
        · replace hw := hw.1 hc
          refine r_goto h 2055 dL_law_798 (by decide) ?_
          refine r_vs [0, 1, 2, 3, 4, 5] rfl ?_
          refine r_widen (k := cells + 8) (n := slots + 64) (by omega) (by omega) ?_
          exact hk _ hw
        · replace hw := hw.2 hc
          exact hw.elim
      · replace hw := hw.2 hc
        refine r_lconst h (v := 1) (by decide) dL_law_787 ?_
        refine r_goto h 792 dL_law_788 (by decide) ?_
        refine r_lcmp h dL_law_792 ?_
        refine r_if_eq h 798 dL_law_793 (by decide) (fun hc => ?_) (fun hc => ?_)
        · replace hw := hw.1 hc
          refine r_goto h 2055 dL_law_798 (by decide) ?_
          refine r_vs [0, 1, 2, 3, 4, 5] rfl ?_
          refine r_widen (k := cells + 8) (n := slots + 64) (by omega) (by omega) ?_
          exact hk _ hw
        · replace hw := hw.2 hc
          exact hw.elim
  · replace hw := hw.2 hc
    exact hw.elim
def lw_9 (S : St) (a1 a2 a3 a4 : Nat) (xs : Nat → Int32) (i : Int32) (K : St → Prop) : Prop := w_L_addExhibition S a1 (xs (Int32.toNatClampNeg (i + 1))) (xs (Int32.toNatClampNeg (i + 2))) (xs (Int32.toNatClampNeg (i + 3))) a3 (fun (r1 : Int32) (S2 : St) => ok S2 a2 11 ∧ w_X10_addExhibition S2 a2 (xs (Int32.toNatClampNeg (i + 1))) (xs (Int32.toNatClampNeg (i + 2))) (xs (Int32.toNatClampNeg (i + 3))) (fun (r5 : Int32) (S6 : St) => ok S6 a2 11 ∧ w_X10_thrown S6 a2 (fun (r9 : Int32) (S10 : St) => (((r9 = r1) → (((¬ r1 = 0) → K S10) ∧ ((r1 = 0) → ok S10 a3 103 ∧ vp_in 0 (sN S10 a3) ∧ ((((lg_cmp (sJ S10 a3 (Int32.toNatClampNeg 0)) (Int32.toInt64 r5)) = 0) → K S10) ∧ ((¬ (lg_cmp (sJ S10 a3 (Int32.toNatClampNeg 0)) (Int32.toInt64 r5)) = 0) → False))))) ∧ ((¬ r9 = r1) → False)))))
set_option maxRecDepth 100000 in
set_option maxHeartbeats 4000000 in
theorem lc_9 {X : XE} {b L : Nat} {xs : Nat → Int32} (h : cy X RL "law" cL_law 9 (some .boolean) room_1 []) (hsc : scr X b L xs) {i : Int32} (hv1 : vp_in (i + 1) L) (hv2 : vp_in (i + 2) L) (hv3 : vp_in (i + 3) L) (hv4 : vp_in (i + 4) L) (hv5 : vp_in (i + 5) L) (hv6 : vp_in (i + 6) L) {cells slots : Nat} (hcs : cells + 8 ≤ room_1.cells ∧ slots + 64 ≤ room_1.slots) {K : St → Prop} {a1 a2 a3 a4 : Nat} (hk : ∀ S : St, K S → pw X (cells + 8) (slots + 64) S 2055 [(0, .ref b), (1, .ref a1), (2, .ref a2), (3, .ref a3), (4, .ref a4), (5, .int i)] []) {S : St} (hw : lw_9 S a1 a2 a3 a4 xs i K) : pw X cells slots S 801 [(0, .ref b), (1, .ref a1), (2, .ref a2), (3, .ref a3), (4, .ref a4), (5, .int i)] [] := by
  unfold lw_9 at hw
  refine r_aload_n h 1 rfl rfl dL_law_801 ?_
  refine r_aload_n h 0 rfl rfl dL_law_802 ?_
  refine r_iload h 5 rfl dL_law_803 ?_
  refine r_iconst h (v := 1) (by decide) dL_law_805 ?_
  refine r_iadd h dL_law_806 ?_
  refine r_sld h hsc hv1 dL_law_807 ?_
  refine r_aload_n h 0 rfl rfl dL_law_808 ?_
  refine r_iload h 5 rfl dL_law_809 ?_
  refine r_iconst h (v := 2) (by decide) dL_law_811 ?_
  refine r_iadd h dL_law_812 ?_
  refine r_sld h hsc hv2 dL_law_813 ?_
  refine r_aload_n h 0 rfl rfl dL_law_814 ?_
  refine r_iload h 5 rfl dL_law_815 ?_
  refine r_iconst h (v := 3) (by decide) dL_law_817 ?_
  refine r_iadd h dL_law_818 ?_
  refine r_sld h hsc hv3 dL_law_819 ?_
  refine r_aload_n h 3 rfl rfl dL_law_820 ?_
  refine r_callSW h (fun l => c_L_addExhibition l _ _ _ _ _ _ _ hw) q847 q848 q54 q849 nd_L_addExhibition ⟨by decide, by decide⟩ rfl rfl ⟨Nat.le_trans (by omega) hcs.1, Nat.le_trans (by omega) hcs.2⟩ (as := [.ref a1, .int (xs (Int32.toNatClampNeg (i + 1))), .int (xs (Int32.toNatClampNeg (i + 2))), .int (xs (Int32.toNatClampNeg (i + 3))), .ref a3]) rfl (by first | decide | exact nl rfl) rfl dL_law_821 nxk (kI fun r1 S2 hw => ?_)
  refine r_istore h [1, 2, 3, 4, 5, 6, 0] (by decide) rfl dL_law_824 ?_
  refine r_aload_n h 2 rfl rfl dL_law_826 ?_
  refine r_aload_n h 0 rfl rfl dL_law_827 ?_
  refine r_iload h 5 rfl dL_law_828 ?_
  refine r_iconst h (v := 1) (by decide) dL_law_830 ?_
  refine r_iadd h dL_law_831 ?_
  refine r_sld h hsc hv1 dL_law_832 ?_
  refine r_aload_n h 0 rfl rfl dL_law_833 ?_
  refine r_iload h 5 rfl dL_law_834 ?_
  refine r_iconst h (v := 2) (by decide) dL_law_836 ?_
  refine r_iadd h dL_law_837 ?_
  refine r_sld h hsc hv2 dL_law_838 ?_
  refine r_aload_n h 0 rfl rfl dL_law_839 ?_
  refine r_iload h 5 rfl dL_law_840 ?_
  refine r_iconst h (v := 3) (by decide) dL_law_842 ?_
  refine r_iadd h dL_law_843 ?_
  refine r_sld h hsc hv3 dL_law_844 ?_
  obtain ⟨h4, hw⟩ := hw
  refine r_callV h (fun l => c_X10_addExhibition l _ _ _ _ _ _ hw) q1386 q1387 q1388 q64 q1389 nd_X10_addExhibition ⟨by decide, by decide⟩ rfl rfl ⟨Nat.le_trans (by omega) hcs.1, Nat.le_trans (by omega) hcs.2⟩ kci11 rfl h4 rfl (by first | decide | exact nl rfl) rfl dL_law_845 nxk (kI fun r5 S6 hw => ?_)
  refine r_istore h [1, 2, 3, 4, 5, 6, 7, 0] (by decide) rfl dL_law_848 ?_
  refine r_aload_n h 2 rfl rfl dL_law_850 ?_
  obtain ⟨h8, hw⟩ := hw
  refine r_callV h (fun l => c_X10_thrown l _ _ _ hw) q1260 q1261 q1262 q64 q1263 nd_X10_thrown ⟨by decide, by decide⟩ rfl rfl ⟨Nat.le_trans (by omega) hcs.1, Nat.le_trans (by omega) hcs.2⟩ kci11 rfl h8 rfl (by first | decide | exact nl rfl) rfl dL_law_851 nxk (kI fun r9 S10 hw => ?_)
  refine r_iload h 6 rfl dL_law_854 ?_
  refine r_icmp_eq h 861 dL_law_856 (by decide) (fun hc => ?_) (fun hc => ?_)
  · replace hw := hw.1 hc
    refine r_iload h 6 rfl dL_law_861 ?_
    refine r_if_ne h 878 dL_law_863 (by decide) (fun hc => ?_) (fun hc => ?_)
    · replace hw := hw.1 hc
      refine r_goto h 2055 dL_law_878 (by decide) ?_
      refine r_vs [0, 1, 2, 3, 4, 5] rfl ?_
      refine r_widen (k := cells + 8) (n := slots + 64) (by omega) (by omega) ?_
      exact hk _ hw
    · replace hw := hw.2 hc
      refine r_aload_n h 3 rfl rfl dL_law_866 ?_
      refine r_iconst h (v := 0) (by decide) dL_law_867 ?_
      obtain ⟨h12, hw⟩ := hw
      obtain ⟨h13, hw⟩ := hw
      refine r_lald h h12 h13 dL_law_868 ?_
      refine r_iload h 7 rfl dL_law_869 ?_
      refine r_i2l h dL_law_871 ?_
      refine r_lcmp h dL_law_872 ?_
      refine r_if_eq h 878 dL_law_873 (by decide) (fun hc => ?_) (fun hc => ?_)
      · replace hw := hw.1 hc
        refine r_goto h 2055 dL_law_878 (by decide) ?_
        refine r_vs [0, 1, 2, 3, 4, 5] rfl ?_
        refine r_widen (k := cells + 8) (n := slots + 64) (by omega) (by omega) ?_
        exact hk _ hw
      · replace hw := hw.2 hc
        exact hw.elim
  · replace hw := hw.2 hc
    exact hw.elim
def lw_10 (S : St) (a1 a2 a3 a4 : Nat) (xs : Nat → Int32) (i : Int32) (K : St → Prop) : Prop := w_L_include S a1 (xs (Int32.toNatClampNeg (i + 1))) (xs (Int32.toNatClampNeg (i + 2))) a3 (fun (r1 : Int32) (S2 : St) => ok S2 a2 11 ∧ w_X10_include S2 a2 (xs (Int32.toNatClampNeg (i + 1))) (xs (Int32.toNatClampNeg (i + 2))) (fun (r5 : Int32) (S6 : St) => ok S6 a2 11 ∧ w_X10_thrown S6 a2 (fun (r9 : Int32) (S10 : St) => (((r9 = r1) → (((¬ r1 = 0) → K S10) ∧ ((r1 = 0) → ok S10 a3 103 ∧ vp_in 0 (sN S10 a3) ∧ ((((lg_cmp (sJ S10 a3 (Int32.toNatClampNeg 0)) (Int32.toInt64 r5)) = 0) → K S10) ∧ ((¬ (lg_cmp (sJ S10 a3 (Int32.toNatClampNeg 0)) (Int32.toInt64 r5)) = 0) → False))))) ∧ ((¬ r9 = r1) → False)))))
set_option maxRecDepth 100000 in
set_option maxHeartbeats 4000000 in
theorem lc_10 {X : XE} {b L : Nat} {xs : Nat → Int32} (h : cy X RL "law" cL_law 9 (some .boolean) room_1 []) (hsc : scr X b L xs) {i : Int32} (hv1 : vp_in (i + 1) L) (hv2 : vp_in (i + 2) L) (hv3 : vp_in (i + 3) L) (hv4 : vp_in (i + 4) L) (hv5 : vp_in (i + 5) L) (hv6 : vp_in (i + 6) L) {cells slots : Nat} (hcs : cells + 8 ≤ room_1.cells ∧ slots + 64 ≤ room_1.slots) {K : St → Prop} {a1 a2 a3 a4 : Nat} (hk : ∀ S : St, K S → pw X (cells + 8) (slots + 64) S 2055 [(0, .ref b), (1, .ref a1), (2, .ref a2), (3, .ref a3), (4, .ref a4), (5, .int i)] []) {S : St} (hw : lw_10 S a1 a2 a3 a4 xs i K) : pw X cells slots S 881 [(0, .ref b), (1, .ref a1), (2, .ref a2), (3, .ref a3), (4, .ref a4), (5, .int i)] [] := by
  unfold lw_10 at hw
  refine r_aload_n h 1 rfl rfl dL_law_881 ?_
  refine r_aload_n h 0 rfl rfl dL_law_882 ?_
  refine r_iload h 5 rfl dL_law_883 ?_
  refine r_iconst h (v := 1) (by decide) dL_law_885 ?_
  refine r_iadd h dL_law_886 ?_
  refine r_sld h hsc hv1 dL_law_887 ?_
  refine r_aload_n h 0 rfl rfl dL_law_888 ?_
  refine r_iload h 5 rfl dL_law_889 ?_
  refine r_iconst h (v := 2) (by decide) dL_law_891 ?_
  refine r_iadd h dL_law_892 ?_
  refine r_sld h hsc hv2 dL_law_893 ?_
  refine r_aload_n h 3 rfl rfl dL_law_894 ?_
  refine r_callSW h (fun l => c_L_include l _ _ _ _ _ _ hw) q898 q899 q54 q900 nd_L_include ⟨by decide, by decide⟩ rfl rfl ⟨Nat.le_trans (by omega) hcs.1, Nat.le_trans (by omega) hcs.2⟩ (as := [.ref a1, .int (xs (Int32.toNatClampNeg (i + 1))), .int (xs (Int32.toNatClampNeg (i + 2))), .ref a3]) rfl (by first | decide | exact nl rfl) rfl dL_law_895 nxk (kI fun r1 S2 hw => ?_)
  refine r_istore h [1, 2, 3, 4, 5, 6, 0] (by decide) rfl dL_law_898 ?_
  refine r_aload_n h 2 rfl rfl dL_law_900 ?_
  refine r_aload_n h 0 rfl rfl dL_law_901 ?_
  refine r_iload h 5 rfl dL_law_902 ?_
  refine r_iconst h (v := 1) (by decide) dL_law_904 ?_
  refine r_iadd h dL_law_905 ?_
  refine r_sld h hsc hv1 dL_law_906 ?_
  refine r_aload_n h 0 rfl rfl dL_law_907 ?_
  refine r_iload h 5 rfl dL_law_908 ?_
  refine r_iconst h (v := 2) (by decide) dL_law_910 ?_
  refine r_iadd h dL_law_911 ?_
  refine r_sld h hsc hv2 dL_law_912 ?_
  obtain ⟨h4, hw⟩ := hw
  refine r_callV h (fun l => c_X10_include l _ _ _ _ _ hw) q1390 q1391 q1392 q64 q1393 nd_X10_include ⟨by decide, by decide⟩ rfl rfl ⟨Nat.le_trans (by omega) hcs.1, Nat.le_trans (by omega) hcs.2⟩ kci11 rfl h4 rfl (by first | decide | exact nl rfl) rfl dL_law_913 nxk (kI fun r5 S6 hw => ?_)
  refine r_istore h [1, 2, 3, 4, 5, 6, 7, 0] (by decide) rfl dL_law_916 ?_
  refine r_aload_n h 2 rfl rfl dL_law_918 ?_
  obtain ⟨h8, hw⟩ := hw
  refine r_callV h (fun l => c_X10_thrown l _ _ _ hw) q1260 q1261 q1262 q64 q1263 nd_X10_thrown ⟨by decide, by decide⟩ rfl rfl ⟨Nat.le_trans (by omega) hcs.1, Nat.le_trans (by omega) hcs.2⟩ kci11 rfl h8 rfl (by first | decide | exact nl rfl) rfl dL_law_919 nxk (kI fun r9 S10 hw => ?_)
  refine r_iload h 6 rfl dL_law_922 ?_
  refine r_icmp_eq h 929 dL_law_924 (by decide) (fun hc => ?_) (fun hc => ?_)
  · replace hw := hw.1 hc
    refine r_iload h 6 rfl dL_law_929 ?_
    refine r_if_ne h 946 dL_law_931 (by decide) (fun hc => ?_) (fun hc => ?_)
    · replace hw := hw.1 hc
      refine r_goto h 2055 dL_law_946 (by decide) ?_
      refine r_vs [0, 1, 2, 3, 4, 5] rfl ?_
      refine r_widen (k := cells + 8) (n := slots + 64) (by omega) (by omega) ?_
      exact hk _ hw
    · replace hw := hw.2 hc
      refine r_aload_n h 3 rfl rfl dL_law_934 ?_
      refine r_iconst h (v := 0) (by decide) dL_law_935 ?_
      obtain ⟨h12, hw⟩ := hw
      obtain ⟨h13, hw⟩ := hw
      refine r_lald h h12 h13 dL_law_936 ?_
      refine r_iload h 7 rfl dL_law_937 ?_
      refine r_i2l h dL_law_939 ?_
      refine r_lcmp h dL_law_940 ?_
      refine r_if_eq h 946 dL_law_941 (by decide) (fun hc => ?_) (fun hc => ?_)
      · replace hw := hw.1 hc
        refine r_goto h 2055 dL_law_946 (by decide) ?_
        refine r_vs [0, 1, 2, 3, 4, 5] rfl ?_
        refine r_widen (k := cells + 8) (n := slots + 64) (by omega) (by omega) ?_
        exact hk _ hw
      · replace hw := hw.2 hc
        exact hw.elim
  · replace hw := hw.2 hc
    exact hw.elim
def lw_11 (S : St) (a1 a2 a3 a4 : Nat) (xs : Nat → Int32) (i : Int32) (K : St → Prop) : Prop := w_L_request S a1 (xs (Int32.toNatClampNeg (i + 1))) a3 (fun (r1 : Int32) (S2 : St) => ok S2 a2 11 ∧ w_X10_request S2 a2 (xs (Int32.toNatClampNeg (i + 1))) (fun (r5 : Int32) (S6 : St) => ok S6 a2 11 ∧ w_X10_thrown S6 a2 (fun (r9 : Int32) (S10 : St) => (((r9 = r1) → (((¬ r1 = 0) → K S10) ∧ ((r1 = 0) → ok S10 a3 103 ∧ vp_in 0 (sN S10 a3) ∧ ((((lg_cmp (sJ S10 a3 (Int32.toNatClampNeg 0)) (Int32.toInt64 r5)) = 0) → K S10) ∧ ((¬ (lg_cmp (sJ S10 a3 (Int32.toNatClampNeg 0)) (Int32.toInt64 r5)) = 0) → False))))) ∧ ((¬ r9 = r1) → False)))))
set_option maxRecDepth 100000 in
set_option maxHeartbeats 4000000 in
theorem lc_11 {X : XE} {b L : Nat} {xs : Nat → Int32} (h : cy X RL "law" cL_law 9 (some .boolean) room_1 []) (hsc : scr X b L xs) {i : Int32} (hv1 : vp_in (i + 1) L) (hv2 : vp_in (i + 2) L) (hv3 : vp_in (i + 3) L) (hv4 : vp_in (i + 4) L) (hv5 : vp_in (i + 5) L) (hv6 : vp_in (i + 6) L) {cells slots : Nat} (hcs : cells + 8 ≤ room_1.cells ∧ slots + 64 ≤ room_1.slots) {K : St → Prop} {a1 a2 a3 a4 : Nat} (hk : ∀ S : St, K S → pw X (cells + 8) (slots + 64) S 2055 [(0, .ref b), (1, .ref a1), (2, .ref a2), (3, .ref a3), (4, .ref a4), (5, .int i)] []) {S : St} (hw : lw_11 S a1 a2 a3 a4 xs i K) : pw X cells slots S 949 [(0, .ref b), (1, .ref a1), (2, .ref a2), (3, .ref a3), (4, .ref a4), (5, .int i)] [] := by
  unfold lw_11 at hw
  refine r_aload_n h 1 rfl rfl dL_law_949 ?_
  refine r_aload_n h 0 rfl rfl dL_law_950 ?_
  refine r_iload h 5 rfl dL_law_951 ?_
  refine r_iconst h (v := 1) (by decide) dL_law_953 ?_
  refine r_iadd h dL_law_954 ?_
  refine r_sld h hsc hv1 dL_law_955 ?_
  refine r_aload_n h 3 rfl rfl dL_law_956 ?_
  refine r_callSW h (fun l => c_L_request l _ _ _ _ _ hw) q930 q931 q54 q932 nd_L_request ⟨by decide, by decide⟩ rfl rfl ⟨Nat.le_trans (by omega) hcs.1, Nat.le_trans (by omega) hcs.2⟩ (as := [.ref a1, .int (xs (Int32.toNatClampNeg (i + 1))), .ref a3]) rfl (by first | decide | exact nl rfl) rfl dL_law_957 nxk (kI fun r1 S2 hw => ?_)
  refine r_istore h [1, 2, 3, 4, 5, 6, 0] (by decide) rfl dL_law_960 ?_
  refine r_aload_n h 2 rfl rfl dL_law_962 ?_
  refine r_aload_n h 0 rfl rfl dL_law_963 ?_
  refine r_iload h 5 rfl dL_law_964 ?_
  refine r_iconst h (v := 1) (by decide) dL_law_966 ?_
  refine r_iadd h dL_law_967 ?_
  refine r_sld h hsc hv1 dL_law_968 ?_
  obtain ⟨h4, hw⟩ := hw
  refine r_callV h (fun l => c_X10_request l _ _ _ _ hw) q1398 q1399 q1400 q64 q1401 nd_X10_request ⟨by decide, by decide⟩ rfl rfl ⟨Nat.le_trans (by omega) hcs.1, Nat.le_trans (by omega) hcs.2⟩ kci11 rfl h4 rfl (by first | decide | exact nl rfl) rfl dL_law_969 nxk (kI fun r5 S6 hw => ?_)
  refine r_istore h [1, 2, 3, 4, 5, 6, 7, 0] (by decide) rfl dL_law_972 ?_
  refine r_aload_n h 2 rfl rfl dL_law_974 ?_
  obtain ⟨h8, hw⟩ := hw
  refine r_callV h (fun l => c_X10_thrown l _ _ _ hw) q1260 q1261 q1262 q64 q1263 nd_X10_thrown ⟨by decide, by decide⟩ rfl rfl ⟨Nat.le_trans (by omega) hcs.1, Nat.le_trans (by omega) hcs.2⟩ kci11 rfl h8 rfl (by first | decide | exact nl rfl) rfl dL_law_975 nxk (kI fun r9 S10 hw => ?_)
  refine r_iload h 6 rfl dL_law_978 ?_
  refine r_icmp_eq h 985 dL_law_980 (by decide) (fun hc => ?_) (fun hc => ?_)
  · replace hw := hw.1 hc
    refine r_iload h 6 rfl dL_law_985 ?_
    refine r_if_ne h 1002 dL_law_987 (by decide) (fun hc => ?_) (fun hc => ?_)
    · replace hw := hw.1 hc
      refine r_goto h 2055 dL_law_1002 (by decide) ?_
      refine r_vs [0, 1, 2, 3, 4, 5] rfl ?_
      refine r_widen (k := cells + 8) (n := slots + 64) (by omega) (by omega) ?_
      exact hk _ hw
    · replace hw := hw.2 hc
      refine r_aload_n h 3 rfl rfl dL_law_990 ?_
      refine r_iconst h (v := 0) (by decide) dL_law_991 ?_
      obtain ⟨h12, hw⟩ := hw
      obtain ⟨h13, hw⟩ := hw
      refine r_lald h h12 h13 dL_law_992 ?_
      refine r_iload h 7 rfl dL_law_993 ?_
      refine r_i2l h dL_law_995 ?_
      refine r_lcmp h dL_law_996 ?_
      refine r_if_eq h 1002 dL_law_997 (by decide) (fun hc => ?_) (fun hc => ?_)
      · replace hw := hw.1 hc
        refine r_goto h 2055 dL_law_1002 (by decide) ?_
        refine r_vs [0, 1, 2, 3, 4, 5] rfl ?_
        refine r_widen (k := cells + 8) (n := slots + 64) (by omega) (by omega) ?_
        exact hk _ hw
      · replace hw := hw.2 hc
        exact hw.elim
  · replace hw := hw.2 hc
    exact hw.elim
def lw_12 (S : St) (a1 a2 a3 a4 : Nat) (xs : Nat → Int32) (i : Int32) (K : St → Prop) : Prop := w_L_cancel S a1 (xs (Int32.toNatClampNeg (i + 1))) a3 (fun (r1 : Int32) (S2 : St) => ok S2 a2 11 ∧ w_X10_cancel S2 a2 (xs (Int32.toNatClampNeg (i + 1))) (fun (r5 : Int32) (S6 : St) => ok S6 a2 11 ∧ w_X10_thrown S6 a2 (fun (r9 : Int32) (S10 : St) => (((r9 = r1) → (((¬ r1 = 0) → K S10) ∧ ((r1 = 0) → ok S10 a3 103 ∧ vp_in 0 (sN S10 a3) ∧ ((((lg_cmp (sJ S10 a3 (Int32.toNatClampNeg 0)) (Int32.toInt64 r5)) = 0) → K S10) ∧ ((¬ (lg_cmp (sJ S10 a3 (Int32.toNatClampNeg 0)) (Int32.toInt64 r5)) = 0) → False))))) ∧ ((¬ r9 = r1) → False)))))
set_option maxRecDepth 100000 in
set_option maxHeartbeats 4000000 in
theorem lc_12 {X : XE} {b L : Nat} {xs : Nat → Int32} (h : cy X RL "law" cL_law 9 (some .boolean) room_1 []) (hsc : scr X b L xs) {i : Int32} (hv1 : vp_in (i + 1) L) (hv2 : vp_in (i + 2) L) (hv3 : vp_in (i + 3) L) (hv4 : vp_in (i + 4) L) (hv5 : vp_in (i + 5) L) (hv6 : vp_in (i + 6) L) {cells slots : Nat} (hcs : cells + 8 ≤ room_1.cells ∧ slots + 64 ≤ room_1.slots) {K : St → Prop} {a1 a2 a3 a4 : Nat} (hk : ∀ S : St, K S → pw X (cells + 8) (slots + 64) S 2055 [(0, .ref b), (1, .ref a1), (2, .ref a2), (3, .ref a3), (4, .ref a4), (5, .int i)] []) {S : St} (hw : lw_12 S a1 a2 a3 a4 xs i K) : pw X cells slots S 1005 [(0, .ref b), (1, .ref a1), (2, .ref a2), (3, .ref a3), (4, .ref a4), (5, .int i)] [] := by
  unfold lw_12 at hw
  refine r_aload_n h 1 rfl rfl dL_law_1005 ?_
  refine r_aload_n h 0 rfl rfl dL_law_1006 ?_
  refine r_iload h 5 rfl dL_law_1007 ?_
  refine r_iconst h (v := 1) (by decide) dL_law_1009 ?_
  refine r_iadd h dL_law_1010 ?_
  refine r_sld h hsc hv1 dL_law_1011 ?_
  refine r_aload_n h 3 rfl rfl dL_law_1012 ?_
  refine r_callSW h (fun l => c_L_cancel l _ _ _ _ _ hw) q958 q959 q54 q960 nd_L_cancel ⟨by decide, by decide⟩ rfl rfl ⟨Nat.le_trans (by omega) hcs.1, Nat.le_trans (by omega) hcs.2⟩ (as := [.ref a1, .int (xs (Int32.toNatClampNeg (i + 1))), .ref a3]) rfl (by first | decide | exact nl rfl) rfl dL_law_1013 nxk (kI fun r1 S2 hw => ?_)
  refine r_istore h [1, 2, 3, 4, 5, 6, 0] (by decide) rfl dL_law_1016 ?_
  refine r_aload_n h 2 rfl rfl dL_law_1018 ?_
  refine r_aload_n h 0 rfl rfl dL_law_1019 ?_
  refine r_iload h 5 rfl dL_law_1020 ?_
  refine r_iconst h (v := 1) (by decide) dL_law_1022 ?_
  refine r_iadd h dL_law_1023 ?_
  refine r_sld h hsc hv1 dL_law_1024 ?_
  obtain ⟨h4, hw⟩ := hw
  refine r_callV h (fun l => c_X10_cancel l _ _ _ _ hw) q1402 q1403 q1404 q64 q1405 nd_X10_cancel ⟨by decide, by decide⟩ rfl rfl ⟨Nat.le_trans (by omega) hcs.1, Nat.le_trans (by omega) hcs.2⟩ kci11 rfl h4 rfl (by first | decide | exact nl rfl) rfl dL_law_1025 nxk (kI fun r5 S6 hw => ?_)
  refine r_istore h [1, 2, 3, 4, 5, 6, 7, 0] (by decide) rfl dL_law_1028 ?_
  refine r_aload_n h 2 rfl rfl dL_law_1030 ?_
  obtain ⟨h8, hw⟩ := hw
  refine r_callV h (fun l => c_X10_thrown l _ _ _ hw) q1260 q1261 q1262 q64 q1263 nd_X10_thrown ⟨by decide, by decide⟩ rfl rfl ⟨Nat.le_trans (by omega) hcs.1, Nat.le_trans (by omega) hcs.2⟩ kci11 rfl h8 rfl (by first | decide | exact nl rfl) rfl dL_law_1031 nxk (kI fun r9 S10 hw => ?_)
  refine r_iload h 6 rfl dL_law_1034 ?_
  refine r_icmp_eq h 1041 dL_law_1036 (by decide) (fun hc => ?_) (fun hc => ?_)
  · replace hw := hw.1 hc
    refine r_iload h 6 rfl dL_law_1041 ?_
    refine r_if_ne h 1058 dL_law_1043 (by decide) (fun hc => ?_) (fun hc => ?_)
    · replace hw := hw.1 hc
      refine r_goto h 2055 dL_law_1058 (by decide) ?_
      refine r_vs [0, 1, 2, 3, 4, 5] rfl ?_
      refine r_widen (k := cells + 8) (n := slots + 64) (by omega) (by omega) ?_
      exact hk _ hw
    · replace hw := hw.2 hc
      refine r_aload_n h 3 rfl rfl dL_law_1046 ?_
      refine r_iconst h (v := 0) (by decide) dL_law_1047 ?_
      obtain ⟨h12, hw⟩ := hw
      obtain ⟨h13, hw⟩ := hw
      refine r_lald h h12 h13 dL_law_1048 ?_
      refine r_iload h 7 rfl dL_law_1049 ?_
      refine r_i2l h dL_law_1051 ?_
      refine r_lcmp h dL_law_1052 ?_
      refine r_if_eq h 1058 dL_law_1053 (by decide) (fun hc => ?_) (fun hc => ?_)
      · replace hw := hw.1 hc
        refine r_goto h 2055 dL_law_1058 (by decide) ?_
        refine r_vs [0, 1, 2, 3, 4, 5] rfl ?_
        refine r_widen (k := cells + 8) (n := slots + 64) (by omega) (by omega) ?_
        exact hk _ hw
      · replace hw := hw.2 hc
        exact hw.elim
  · replace hw := hw.2 hc
    exact hw.elim
def lw_13 (S : St) (a1 a2 a3 a4 : Nat) (xs : Nat → Int32) (i : Int32) (K : St → Prop) : Prop := w_L_stateOf S a1 (xs (Int32.toNatClampNeg (i + 1))) a3 (fun (r1 : Int32) (S2 : St) => ok S2 a2 11 ∧ w_X10_stateOf S2 a2 (xs (Int32.toNatClampNeg (i + 1))) (fun (r5 : Int32) (S6 : St) => ok S6 a2 11 ∧ w_X10_thrown S6 a2 (fun (r9 : Int32) (S10 : St) => (((r9 = r1) → (((¬ r1 = 0) → K S10) ∧ ((r1 = 0) → ok S10 a3 103 ∧ vp_in 0 (sN S10 a3) ∧ ((((lg_cmp (sJ S10 a3 (Int32.toNatClampNeg 0)) (Int32.toInt64 r5)) = 0) → K S10) ∧ ((¬ (lg_cmp (sJ S10 a3 (Int32.toNatClampNeg 0)) (Int32.toInt64 r5)) = 0) → False))))) ∧ ((¬ r9 = r1) → False)))))
set_option maxRecDepth 100000 in
set_option maxHeartbeats 4000000 in
theorem lc_13 {X : XE} {b L : Nat} {xs : Nat → Int32} (h : cy X RL "law" cL_law 9 (some .boolean) room_1 []) (hsc : scr X b L xs) {i : Int32} (hv1 : vp_in (i + 1) L) (hv2 : vp_in (i + 2) L) (hv3 : vp_in (i + 3) L) (hv4 : vp_in (i + 4) L) (hv5 : vp_in (i + 5) L) (hv6 : vp_in (i + 6) L) {cells slots : Nat} (hcs : cells + 8 ≤ room_1.cells ∧ slots + 64 ≤ room_1.slots) {K : St → Prop} {a1 a2 a3 a4 : Nat} (hk : ∀ S : St, K S → pw X (cells + 8) (slots + 64) S 2055 [(0, .ref b), (1, .ref a1), (2, .ref a2), (3, .ref a3), (4, .ref a4), (5, .int i)] []) {S : St} (hw : lw_13 S a1 a2 a3 a4 xs i K) : pw X cells slots S 1061 [(0, .ref b), (1, .ref a1), (2, .ref a2), (3, .ref a3), (4, .ref a4), (5, .int i)] [] := by
  unfold lw_13 at hw
  refine r_aload_n h 1 rfl rfl dL_law_1061 ?_
  refine r_aload_n h 0 rfl rfl dL_law_1062 ?_
  refine r_iload h 5 rfl dL_law_1063 ?_
  refine r_iconst h (v := 1) (by decide) dL_law_1065 ?_
  refine r_iadd h dL_law_1066 ?_
  refine r_sld h hsc hv1 dL_law_1067 ?_
  refine r_aload_n h 3 rfl rfl dL_law_1068 ?_
  refine r_callSW h (fun l => c_L_stateOf l _ _ _ _ _ hw) q966 q967 q54 q968 nd_L_stateOf ⟨by decide, by decide⟩ rfl rfl ⟨Nat.le_trans (by omega) hcs.1, Nat.le_trans (by omega) hcs.2⟩ (as := [.ref a1, .int (xs (Int32.toNatClampNeg (i + 1))), .ref a3]) rfl (by first | decide | exact nl rfl) rfl dL_law_1069 nxk (kI fun r1 S2 hw => ?_)
  refine r_istore h [1, 2, 3, 4, 5, 6, 0] (by decide) rfl dL_law_1072 ?_
  refine r_aload_n h 2 rfl rfl dL_law_1074 ?_
  refine r_aload_n h 0 rfl rfl dL_law_1075 ?_
  refine r_iload h 5 rfl dL_law_1076 ?_
  refine r_iconst h (v := 1) (by decide) dL_law_1078 ?_
  refine r_iadd h dL_law_1079 ?_
  refine r_sld h hsc hv1 dL_law_1080 ?_
  obtain ⟨h4, hw⟩ := hw
  refine r_callV h (fun l => c_X10_stateOf l _ _ _ _ hw) q1406 q1407 q1408 q64 q1409 nd_X10_stateOf ⟨by decide, by decide⟩ rfl rfl ⟨Nat.le_trans (by omega) hcs.1, Nat.le_trans (by omega) hcs.2⟩ kci11 rfl h4 rfl (by first | decide | exact nl rfl) rfl dL_law_1081 nxk (kI fun r5 S6 hw => ?_)
  refine r_istore h [1, 2, 3, 4, 5, 6, 7, 0] (by decide) rfl dL_law_1084 ?_
  refine r_aload_n h 2 rfl rfl dL_law_1086 ?_
  obtain ⟨h8, hw⟩ := hw
  refine r_callV h (fun l => c_X10_thrown l _ _ _ hw) q1260 q1261 q1262 q64 q1263 nd_X10_thrown ⟨by decide, by decide⟩ rfl rfl ⟨Nat.le_trans (by omega) hcs.1, Nat.le_trans (by omega) hcs.2⟩ kci11 rfl h8 rfl (by first | decide | exact nl rfl) rfl dL_law_1087 nxk (kI fun r9 S10 hw => ?_)
  refine r_iload h 6 rfl dL_law_1090 ?_
  refine r_icmp_eq h 1097 dL_law_1092 (by decide) (fun hc => ?_) (fun hc => ?_)
  · replace hw := hw.1 hc
    refine r_iload h 6 rfl dL_law_1097 ?_
    refine r_if_ne h 1114 dL_law_1099 (by decide) (fun hc => ?_) (fun hc => ?_)
    · replace hw := hw.1 hc
      refine r_goto h 2055 dL_law_1114 (by decide) ?_
      refine r_vs [0, 1, 2, 3, 4, 5] rfl ?_
      refine r_widen (k := cells + 8) (n := slots + 64) (by omega) (by omega) ?_
      exact hk _ hw
    · replace hw := hw.2 hc
      refine r_aload_n h 3 rfl rfl dL_law_1102 ?_
      refine r_iconst h (v := 0) (by decide) dL_law_1103 ?_
      obtain ⟨h12, hw⟩ := hw
      obtain ⟨h13, hw⟩ := hw
      refine r_lald h h12 h13 dL_law_1104 ?_
      refine r_iload h 7 rfl dL_law_1105 ?_
      refine r_i2l h dL_law_1107 ?_
      refine r_lcmp h dL_law_1108 ?_
      refine r_if_eq h 1114 dL_law_1109 (by decide) (fun hc => ?_) (fun hc => ?_)
      · replace hw := hw.1 hc
        refine r_goto h 2055 dL_law_1114 (by decide) ?_
        refine r_vs [0, 1, 2, 3, 4, 5] rfl ?_
        refine r_widen (k := cells + 8) (n := slots + 64) (by omega) (by omega) ?_
        exact hk _ hw
      · replace hw := hw.2 hc
        exact hw.elim
  · replace hw := hw.2 hc
    exact hw.elim
def lw_14 (S : St) (a1 a2 a3 a4 : Nat) (xs : Nat → Int32) (i : Int32) (K : St → Prop) : Prop := w_L_worksOf S a1 (xs (Int32.toNatClampNeg (i + 1))) a3 (fun (r1 : Int32) (S2 : St) => ok S2 a2 11 ∧ w_X10_worksOf S2 a2 (xs (Int32.toNatClampNeg (i + 1))) (fun (r5 : Int32) (S6 : St) => ok S6 a2 11 ∧ w_X10_thrown S6 a2 (fun (r9 : Int32) (S10 : St) => (((r9 = r1) → (((¬ r1 = 0) → K S10) ∧ ((r1 = 0) → ok S10 a3 103 ∧ vp_in 0 (sN S10 a3) ∧ ((((lg_cmp (sJ S10 a3 (Int32.toNatClampNeg 0)) (Int32.toInt64 r5)) = 0) → K S10) ∧ ((¬ (lg_cmp (sJ S10 a3 (Int32.toNatClampNeg 0)) (Int32.toInt64 r5)) = 0) → False))))) ∧ ((¬ r9 = r1) → False)))))
set_option maxRecDepth 100000 in
set_option maxHeartbeats 4000000 in
theorem lc_14 {X : XE} {b L : Nat} {xs : Nat → Int32} (h : cy X RL "law" cL_law 9 (some .boolean) room_1 []) (hsc : scr X b L xs) {i : Int32} (hv1 : vp_in (i + 1) L) (hv2 : vp_in (i + 2) L) (hv3 : vp_in (i + 3) L) (hv4 : vp_in (i + 4) L) (hv5 : vp_in (i + 5) L) (hv6 : vp_in (i + 6) L) {cells slots : Nat} (hcs : cells + 8 ≤ room_1.cells ∧ slots + 64 ≤ room_1.slots) {K : St → Prop} {a1 a2 a3 a4 : Nat} (hk : ∀ S : St, K S → pw X (cells + 8) (slots + 64) S 2055 [(0, .ref b), (1, .ref a1), (2, .ref a2), (3, .ref a3), (4, .ref a4), (5, .int i)] []) {S : St} (hw : lw_14 S a1 a2 a3 a4 xs i K) : pw X cells slots S 1117 [(0, .ref b), (1, .ref a1), (2, .ref a2), (3, .ref a3), (4, .ref a4), (5, .int i)] [] := by
  unfold lw_14 at hw
  refine r_aload_n h 1 rfl rfl dL_law_1117 ?_
  refine r_aload_n h 0 rfl rfl dL_law_1118 ?_
  refine r_iload h 5 rfl dL_law_1119 ?_
  refine r_iconst h (v := 1) (by decide) dL_law_1121 ?_
  refine r_iadd h dL_law_1122 ?_
  refine r_sld h hsc hv1 dL_law_1123 ?_
  refine r_aload_n h 3 rfl rfl dL_law_1124 ?_
  refine r_callSW h (fun l => c_L_worksOf l _ _ _ _ _ hw) q973 q974 q54 q975 nd_L_worksOf ⟨by decide, by decide⟩ rfl rfl ⟨Nat.le_trans (by omega) hcs.1, Nat.le_trans (by omega) hcs.2⟩ (as := [.ref a1, .int (xs (Int32.toNatClampNeg (i + 1))), .ref a3]) rfl (by first | decide | exact nl rfl) rfl dL_law_1125 nxk (kI fun r1 S2 hw => ?_)
  refine r_istore h [1, 2, 3, 4, 5, 6, 0] (by decide) rfl dL_law_1128 ?_
  refine r_aload_n h 2 rfl rfl dL_law_1130 ?_
  refine r_aload_n h 0 rfl rfl dL_law_1131 ?_
  refine r_iload h 5 rfl dL_law_1132 ?_
  refine r_iconst h (v := 1) (by decide) dL_law_1134 ?_
  refine r_iadd h dL_law_1135 ?_
  refine r_sld h hsc hv1 dL_law_1136 ?_
  obtain ⟨h4, hw⟩ := hw
  refine r_callV h (fun l => c_X10_worksOf l _ _ _ _ hw) q1410 q1411 q1412 q64 q1413 nd_X10_worksOf ⟨by decide, by decide⟩ rfl rfl ⟨Nat.le_trans (by omega) hcs.1, Nat.le_trans (by omega) hcs.2⟩ kci11 rfl h4 rfl (by first | decide | exact nl rfl) rfl dL_law_1137 nxk (kI fun r5 S6 hw => ?_)
  refine r_istore h [1, 2, 3, 4, 5, 6, 7, 0] (by decide) rfl dL_law_1140 ?_
  refine r_aload_n h 2 rfl rfl dL_law_1142 ?_
  obtain ⟨h8, hw⟩ := hw
  refine r_callV h (fun l => c_X10_thrown l _ _ _ hw) q1260 q1261 q1262 q64 q1263 nd_X10_thrown ⟨by decide, by decide⟩ rfl rfl ⟨Nat.le_trans (by omega) hcs.1, Nat.le_trans (by omega) hcs.2⟩ kci11 rfl h8 rfl (by first | decide | exact nl rfl) rfl dL_law_1143 nxk (kI fun r9 S10 hw => ?_)
  refine r_iload h 6 rfl dL_law_1146 ?_
  refine r_icmp_eq h 1153 dL_law_1148 (by decide) (fun hc => ?_) (fun hc => ?_)
  · replace hw := hw.1 hc
    refine r_iload h 6 rfl dL_law_1153 ?_
    refine r_if_ne h 1170 dL_law_1155 (by decide) (fun hc => ?_) (fun hc => ?_)
    · replace hw := hw.1 hc
      refine r_goto h 2055 dL_law_1170 (by decide) ?_
      refine r_vs [0, 1, 2, 3, 4, 5] rfl ?_
      refine r_widen (k := cells + 8) (n := slots + 64) (by omega) (by omega) ?_
      exact hk _ hw
    · replace hw := hw.2 hc
      refine r_aload_n h 3 rfl rfl dL_law_1158 ?_
      refine r_iconst h (v := 0) (by decide) dL_law_1159 ?_
      obtain ⟨h12, hw⟩ := hw
      obtain ⟨h13, hw⟩ := hw
      refine r_lald h h12 h13 dL_law_1160 ?_
      refine r_iload h 7 rfl dL_law_1161 ?_
      refine r_i2l h dL_law_1163 ?_
      refine r_lcmp h dL_law_1164 ?_
      refine r_if_eq h 1170 dL_law_1165 (by decide) (fun hc => ?_) (fun hc => ?_)
      · replace hw := hw.1 hc
        refine r_goto h 2055 dL_law_1170 (by decide) ?_
        refine r_vs [0, 1, 2, 3, 4, 5] rfl ?_
        refine r_widen (k := cells + 8) (n := slots + 64) (by omega) (by omega) ?_
        exact hk _ hw
      · replace hw := hw.2 hc
        exact hw.elim
  · replace hw := hw.2 hc
    exact hw.elim
def lw_15 (S : St) (a1 a2 a3 a4 : Nat) (xs : Nat → Int32) (i : Int32) (K : St → Prop) : Prop := w_L_workOf S a1 (xs (Int32.toNatClampNeg (i + 1))) (xs (Int32.toNatClampNeg (i + 2))) a3 (fun (r1 : Int32) (S2 : St) => ok S2 a2 11 ∧ w_X10_workOf S2 a2 (xs (Int32.toNatClampNeg (i + 1))) (xs (Int32.toNatClampNeg (i + 2))) (fun (r5 : Int32) (S6 : St) => ok S6 a2 11 ∧ w_X10_thrown S6 a2 (fun (r9 : Int32) (S10 : St) => (((r9 = r1) → (((¬ r1 = 0) → K S10) ∧ ((r1 = 0) → ok S10 a3 103 ∧ vp_in 0 (sN S10 a3) ∧ ((((lg_cmp (sJ S10 a3 (Int32.toNatClampNeg 0)) (Int32.toInt64 r5)) = 0) → K S10) ∧ ((¬ (lg_cmp (sJ S10 a3 (Int32.toNatClampNeg 0)) (Int32.toInt64 r5)) = 0) → False))))) ∧ ((¬ r9 = r1) → False)))))
set_option maxRecDepth 100000 in
set_option maxHeartbeats 4000000 in
theorem lc_15 {X : XE} {b L : Nat} {xs : Nat → Int32} (h : cy X RL "law" cL_law 9 (some .boolean) room_1 []) (hsc : scr X b L xs) {i : Int32} (hv1 : vp_in (i + 1) L) (hv2 : vp_in (i + 2) L) (hv3 : vp_in (i + 3) L) (hv4 : vp_in (i + 4) L) (hv5 : vp_in (i + 5) L) (hv6 : vp_in (i + 6) L) {cells slots : Nat} (hcs : cells + 8 ≤ room_1.cells ∧ slots + 64 ≤ room_1.slots) {K : St → Prop} {a1 a2 a3 a4 : Nat} (hk : ∀ S : St, K S → pw X (cells + 8) (slots + 64) S 2055 [(0, .ref b), (1, .ref a1), (2, .ref a2), (3, .ref a3), (4, .ref a4), (5, .int i)] []) {S : St} (hw : lw_15 S a1 a2 a3 a4 xs i K) : pw X cells slots S 1173 [(0, .ref b), (1, .ref a1), (2, .ref a2), (3, .ref a3), (4, .ref a4), (5, .int i)] [] := by
  unfold lw_15 at hw
  refine r_aload_n h 1 rfl rfl dL_law_1173 ?_
  refine r_aload_n h 0 rfl rfl dL_law_1174 ?_
  refine r_iload h 5 rfl dL_law_1175 ?_
  refine r_iconst h (v := 1) (by decide) dL_law_1177 ?_
  refine r_iadd h dL_law_1178 ?_
  refine r_sld h hsc hv1 dL_law_1179 ?_
  refine r_aload_n h 0 rfl rfl dL_law_1180 ?_
  refine r_iload h 5 rfl dL_law_1181 ?_
  refine r_iconst h (v := 2) (by decide) dL_law_1183 ?_
  refine r_iadd h dL_law_1184 ?_
  refine r_sld h hsc hv2 dL_law_1185 ?_
  refine r_aload_n h 3 rfl rfl dL_law_1186 ?_
  refine r_callSW h (fun l => c_L_workOf l _ _ _ _ _ _ hw) q980 q981 q54 q982 nd_L_workOf ⟨by decide, by decide⟩ rfl rfl ⟨Nat.le_trans (by omega) hcs.1, Nat.le_trans (by omega) hcs.2⟩ (as := [.ref a1, .int (xs (Int32.toNatClampNeg (i + 1))), .int (xs (Int32.toNatClampNeg (i + 2))), .ref a3]) rfl (by first | decide | exact nl rfl) rfl dL_law_1187 nxk (kI fun r1 S2 hw => ?_)
  refine r_istore h [1, 2, 3, 4, 5, 6, 0] (by decide) rfl dL_law_1190 ?_
  refine r_aload_n h 2 rfl rfl dL_law_1192 ?_
  refine r_aload_n h 0 rfl rfl dL_law_1193 ?_
  refine r_iload h 5 rfl dL_law_1194 ?_
  refine r_iconst h (v := 1) (by decide) dL_law_1196 ?_
  refine r_iadd h dL_law_1197 ?_
  refine r_sld h hsc hv1 dL_law_1198 ?_
  refine r_aload_n h 0 rfl rfl dL_law_1199 ?_
  refine r_iload h 5 rfl dL_law_1200 ?_
  refine r_iconst h (v := 2) (by decide) dL_law_1202 ?_
  refine r_iadd h dL_law_1203 ?_
  refine r_sld h hsc hv2 dL_law_1204 ?_
  obtain ⟨h4, hw⟩ := hw
  refine r_callV h (fun l => c_X10_workOf l _ _ _ _ _ hw) q1414 q1415 q1416 q64 q1417 nd_X10_workOf ⟨by decide, by decide⟩ rfl rfl ⟨Nat.le_trans (by omega) hcs.1, Nat.le_trans (by omega) hcs.2⟩ kci11 rfl h4 rfl (by first | decide | exact nl rfl) rfl dL_law_1205 nxk (kI fun r5 S6 hw => ?_)
  refine r_istore h [1, 2, 3, 4, 5, 6, 7, 0] (by decide) rfl dL_law_1208 ?_
  refine r_aload_n h 2 rfl rfl dL_law_1210 ?_
  obtain ⟨h8, hw⟩ := hw
  refine r_callV h (fun l => c_X10_thrown l _ _ _ hw) q1260 q1261 q1262 q64 q1263 nd_X10_thrown ⟨by decide, by decide⟩ rfl rfl ⟨Nat.le_trans (by omega) hcs.1, Nat.le_trans (by omega) hcs.2⟩ kci11 rfl h8 rfl (by first | decide | exact nl rfl) rfl dL_law_1211 nxk (kI fun r9 S10 hw => ?_)
  refine r_iload h 6 rfl dL_law_1214 ?_
  refine r_icmp_eq h 1221 dL_law_1216 (by decide) (fun hc => ?_) (fun hc => ?_)
  · replace hw := hw.1 hc
    refine r_iload h 6 rfl dL_law_1221 ?_
    refine r_if_ne h 1238 dL_law_1223 (by decide) (fun hc => ?_) (fun hc => ?_)
    · replace hw := hw.1 hc
      refine r_goto h 2055 dL_law_1238 (by decide) ?_
      refine r_vs [0, 1, 2, 3, 4, 5] rfl ?_
      refine r_widen (k := cells + 8) (n := slots + 64) (by omega) (by omega) ?_
      exact hk _ hw
    · replace hw := hw.2 hc
      refine r_aload_n h 3 rfl rfl dL_law_1226 ?_
      refine r_iconst h (v := 0) (by decide) dL_law_1227 ?_
      obtain ⟨h12, hw⟩ := hw
      obtain ⟨h13, hw⟩ := hw
      refine r_lald h h12 h13 dL_law_1228 ?_
      refine r_iload h 7 rfl dL_law_1229 ?_
      refine r_i2l h dL_law_1231 ?_
      refine r_lcmp h dL_law_1232 ?_
      refine r_if_eq h 1238 dL_law_1233 (by decide) (fun hc => ?_) (fun hc => ?_)
      · replace hw := hw.1 hc
        refine r_goto h 2055 dL_law_1238 (by decide) ?_
        refine r_vs [0, 1, 2, 3, 4, 5] rfl ?_
        refine r_widen (k := cells + 8) (n := slots + 64) (by omega) (by omega) ?_
        exact hk _ hw
      · replace hw := hw.2 hc
        exact hw.elim
  · replace hw := hw.2 hc
    exact hw.elim
def lw_16 (S : St) (a1 a2 a3 a4 : Nat) (xs : Nat → Int32) (i : Int32) (K : St → Prop) : Prop := w_L_wallOf S a1 (xs (Int32.toNatClampNeg (i + 1))) (xs (Int32.toNatClampNeg (i + 2))) a3 (fun (r1 : Int32) (S2 : St) => ok S2 a2 11 ∧ w_X10_wallOf S2 a2 (xs (Int32.toNatClampNeg (i + 1))) (xs (Int32.toNatClampNeg (i + 2))) (fun (r5 : Int32) (S6 : St) => ok S6 a2 11 ∧ w_X10_thrown S6 a2 (fun (r9 : Int32) (S10 : St) => (((r9 = r1) → (((¬ r1 = 0) → K S10) ∧ ((r1 = 0) → ok S10 a3 103 ∧ vp_in 0 (sN S10 a3) ∧ ((((lg_cmp (sJ S10 a3 (Int32.toNatClampNeg 0)) (Int32.toInt64 r5)) = 0) → K S10) ∧ ((¬ (lg_cmp (sJ S10 a3 (Int32.toNatClampNeg 0)) (Int32.toInt64 r5)) = 0) → False))))) ∧ ((¬ r9 = r1) → False)))))
set_option maxRecDepth 100000 in
set_option maxHeartbeats 4000000 in
theorem lc_16 {X : XE} {b L : Nat} {xs : Nat → Int32} (h : cy X RL "law" cL_law 9 (some .boolean) room_1 []) (hsc : scr X b L xs) {i : Int32} (hv1 : vp_in (i + 1) L) (hv2 : vp_in (i + 2) L) (hv3 : vp_in (i + 3) L) (hv4 : vp_in (i + 4) L) (hv5 : vp_in (i + 5) L) (hv6 : vp_in (i + 6) L) {cells slots : Nat} (hcs : cells + 8 ≤ room_1.cells ∧ slots + 64 ≤ room_1.slots) {K : St → Prop} {a1 a2 a3 a4 : Nat} (hk : ∀ S : St, K S → pw X (cells + 8) (slots + 64) S 2055 [(0, .ref b), (1, .ref a1), (2, .ref a2), (3, .ref a3), (4, .ref a4), (5, .int i)] []) {S : St} (hw : lw_16 S a1 a2 a3 a4 xs i K) : pw X cells slots S 1241 [(0, .ref b), (1, .ref a1), (2, .ref a2), (3, .ref a3), (4, .ref a4), (5, .int i)] [] := by
  unfold lw_16 at hw
  refine r_aload_n h 1 rfl rfl dL_law_1241 ?_
  refine r_aload_n h 0 rfl rfl dL_law_1242 ?_
  refine r_iload h 5 rfl dL_law_1243 ?_
  refine r_iconst h (v := 1) (by decide) dL_law_1245 ?_
  refine r_iadd h dL_law_1246 ?_
  refine r_sld h hsc hv1 dL_law_1247 ?_
  refine r_aload_n h 0 rfl rfl dL_law_1248 ?_
  refine r_iload h 5 rfl dL_law_1249 ?_
  refine r_iconst h (v := 2) (by decide) dL_law_1251 ?_
  refine r_iadd h dL_law_1252 ?_
  refine r_sld h hsc hv2 dL_law_1253 ?_
  refine r_aload_n h 3 rfl rfl dL_law_1254 ?_
  refine r_callSW h (fun l => c_L_wallOf l _ _ _ _ _ _ hw) q992 q993 q54 q994 nd_L_wallOf ⟨by decide, by decide⟩ rfl rfl ⟨Nat.le_trans (by omega) hcs.1, Nat.le_trans (by omega) hcs.2⟩ (as := [.ref a1, .int (xs (Int32.toNatClampNeg (i + 1))), .int (xs (Int32.toNatClampNeg (i + 2))), .ref a3]) rfl (by first | decide | exact nl rfl) rfl dL_law_1255 nxk (kI fun r1 S2 hw => ?_)
  refine r_istore h [1, 2, 3, 4, 5, 6, 0] (by decide) rfl dL_law_1258 ?_
  refine r_aload_n h 2 rfl rfl dL_law_1260 ?_
  refine r_aload_n h 0 rfl rfl dL_law_1261 ?_
  refine r_iload h 5 rfl dL_law_1262 ?_
  refine r_iconst h (v := 1) (by decide) dL_law_1264 ?_
  refine r_iadd h dL_law_1265 ?_
  refine r_sld h hsc hv1 dL_law_1266 ?_
  refine r_aload_n h 0 rfl rfl dL_law_1267 ?_
  refine r_iload h 5 rfl dL_law_1268 ?_
  refine r_iconst h (v := 2) (by decide) dL_law_1270 ?_
  refine r_iadd h dL_law_1271 ?_
  refine r_sld h hsc hv2 dL_law_1272 ?_
  obtain ⟨h4, hw⟩ := hw
  refine r_callV h (fun l => c_X10_wallOf l _ _ _ _ _ hw) q1422 q1423 q1424 q64 q1425 nd_X10_wallOf ⟨by decide, by decide⟩ rfl rfl ⟨Nat.le_trans (by omega) hcs.1, Nat.le_trans (by omega) hcs.2⟩ kci11 rfl h4 rfl (by first | decide | exact nl rfl) rfl dL_law_1273 nxk (kI fun r5 S6 hw => ?_)
  refine r_istore h [1, 2, 3, 4, 5, 6, 7, 0] (by decide) rfl dL_law_1276 ?_
  refine r_aload_n h 2 rfl rfl dL_law_1278 ?_
  obtain ⟨h8, hw⟩ := hw
  refine r_callV h (fun l => c_X10_thrown l _ _ _ hw) q1260 q1261 q1262 q64 q1263 nd_X10_thrown ⟨by decide, by decide⟩ rfl rfl ⟨Nat.le_trans (by omega) hcs.1, Nat.le_trans (by omega) hcs.2⟩ kci11 rfl h8 rfl (by first | decide | exact nl rfl) rfl dL_law_1279 nxk (kI fun r9 S10 hw => ?_)
  refine r_iload h 6 rfl dL_law_1282 ?_
  refine r_icmp_eq h 1289 dL_law_1284 (by decide) (fun hc => ?_) (fun hc => ?_)
  · replace hw := hw.1 hc
    refine r_iload h 6 rfl dL_law_1289 ?_
    refine r_if_ne h 1306 dL_law_1291 (by decide) (fun hc => ?_) (fun hc => ?_)
    · replace hw := hw.1 hc
      refine r_goto h 2055 dL_law_1306 (by decide) ?_
      refine r_vs [0, 1, 2, 3, 4, 5] rfl ?_
      refine r_widen (k := cells + 8) (n := slots + 64) (by omega) (by omega) ?_
      exact hk _ hw
    · replace hw := hw.2 hc
      refine r_aload_n h 3 rfl rfl dL_law_1294 ?_
      refine r_iconst h (v := 0) (by decide) dL_law_1295 ?_
      obtain ⟨h12, hw⟩ := hw
      obtain ⟨h13, hw⟩ := hw
      refine r_lald h h12 h13 dL_law_1296 ?_
      refine r_iload h 7 rfl dL_law_1297 ?_
      refine r_i2l h dL_law_1299 ?_
      refine r_lcmp h dL_law_1300 ?_
      refine r_if_eq h 1306 dL_law_1301 (by decide) (fun hc => ?_) (fun hc => ?_)
      · replace hw := hw.1 hc
        refine r_goto h 2055 dL_law_1306 (by decide) ?_
        refine r_vs [0, 1, 2, 3, 4, 5] rfl ?_
        refine r_widen (k := cells + 8) (n := slots + 64) (by omega) (by omega) ?_
        exact hk _ hw
      · replace hw := hw.2 hc
        exact hw.elim
  · replace hw := hw.2 hc
    exact hw.elim
def lw_17 (S : St) (a1 a2 a3 a4 : Nat) (xs : Nat → Int32) (i : Int32) (K : St → Prop) : Prop := w_L_canTake S a1 (xs (Int32.toNatClampNeg (i + 1))) (xs (Int32.toNatClampNeg (i + 2))) a3 (fun (r1 : Int32) (S2 : St) => ok S2 a2 11 ∧ w_X10_canTake S2 a2 (xs (Int32.toNatClampNeg (i + 1))) (xs (Int32.toNatClampNeg (i + 2))) (fun (r5 : Int32) (S6 : St) => ok S6 a2 11 ∧ w_X10_thrown S6 a2 (fun (r9 : Int32) (S10 : St) => (((r9 = r1) → (((¬ r1 = 0) → K S10) ∧ ((r1 = 0) → ok S10 a3 103 ∧ vp_in 0 (sN S10 a3) ∧ (((r5 = 0) → ((((lg_cmp (sJ S10 a3 (Int32.toNatClampNeg 0)) 0) = 0) → K S10) ∧ ((¬ (lg_cmp (sJ S10 a3 (Int32.toNatClampNeg 0)) 0) = 0) → False))) ∧ ((¬ r5 = 0) → ((((lg_cmp (sJ S10 a3 (Int32.toNatClampNeg 0)) 1) = 0) → K S10) ∧ ((¬ (lg_cmp (sJ S10 a3 (Int32.toNatClampNeg 0)) 1) = 0) → False))))))) ∧ ((¬ r9 = r1) → False)))))
set_option maxRecDepth 100000 in
set_option maxHeartbeats 4000000 in
theorem lc_17 {X : XE} {b L : Nat} {xs : Nat → Int32} (h : cy X RL "law" cL_law 9 (some .boolean) room_1 []) (hsc : scr X b L xs) {i : Int32} (hv1 : vp_in (i + 1) L) (hv2 : vp_in (i + 2) L) (hv3 : vp_in (i + 3) L) (hv4 : vp_in (i + 4) L) (hv5 : vp_in (i + 5) L) (hv6 : vp_in (i + 6) L) {cells slots : Nat} (hcs : cells + 8 ≤ room_1.cells ∧ slots + 64 ≤ room_1.slots) {K : St → Prop} {a1 a2 a3 a4 : Nat} (hk : ∀ S : St, K S → pw X (cells + 8) (slots + 64) S 2055 [(0, .ref b), (1, .ref a1), (2, .ref a2), (3, .ref a3), (4, .ref a4), (5, .int i)] []) {S : St} (hw : lw_17 S a1 a2 a3 a4 xs i K) : pw X cells slots S 1309 [(0, .ref b), (1, .ref a1), (2, .ref a2), (3, .ref a3), (4, .ref a4), (5, .int i)] [] := by
  unfold lw_17 at hw
  refine r_aload_n h 1 rfl rfl dL_law_1309 ?_
  refine r_aload_n h 0 rfl rfl dL_law_1310 ?_
  refine r_iload h 5 rfl dL_law_1311 ?_
  refine r_iconst h (v := 1) (by decide) dL_law_1313 ?_
  refine r_iadd h dL_law_1314 ?_
  refine r_sld h hsc hv1 dL_law_1315 ?_
  refine r_aload_n h 0 rfl rfl dL_law_1316 ?_
  refine r_iload h 5 rfl dL_law_1317 ?_
  refine r_iconst h (v := 2) (by decide) dL_law_1319 ?_
  refine r_iadd h dL_law_1320 ?_
  refine r_sld h hsc hv2 dL_law_1321 ?_
  refine r_aload_n h 3 rfl rfl dL_law_1322 ?_
  refine r_callSW h (fun l => c_L_canTake l _ _ _ _ _ _ hw) q1001 q1002 q54 q1003 nd_L_canTake ⟨by decide, by decide⟩ rfl rfl ⟨Nat.le_trans (by omega) hcs.1, Nat.le_trans (by omega) hcs.2⟩ (as := [.ref a1, .int (xs (Int32.toNatClampNeg (i + 1))), .int (xs (Int32.toNatClampNeg (i + 2))), .ref a3]) rfl (by first | decide | exact nl rfl) rfl dL_law_1323 nxk (kI fun r1 S2 hw => ?_)
  refine r_istore h [1, 2, 3, 4, 5, 6, 0] (by decide) rfl dL_law_1326 ?_
  refine r_aload_n h 2 rfl rfl dL_law_1328 ?_
  refine r_aload_n h 0 rfl rfl dL_law_1329 ?_
  refine r_iload h 5 rfl dL_law_1330 ?_
  refine r_iconst h (v := 1) (by decide) dL_law_1332 ?_
  refine r_iadd h dL_law_1333 ?_
  refine r_sld h hsc hv1 dL_law_1334 ?_
  refine r_aload_n h 0 rfl rfl dL_law_1335 ?_
  refine r_iload h 5 rfl dL_law_1336 ?_
  refine r_iconst h (v := 2) (by decide) dL_law_1338 ?_
  refine r_iadd h dL_law_1339 ?_
  refine r_sld h hsc hv2 dL_law_1340 ?_
  obtain ⟨h4, hw⟩ := hw
  refine r_callV h (fun l => c_X10_canTake l _ _ _ _ _ hw) q1426 q1427 q1428 q64 q1429 nd_X10_canTake ⟨by decide, by decide⟩ rfl rfl ⟨Nat.le_trans (by omega) hcs.1, Nat.le_trans (by omega) hcs.2⟩ kci11 rfl h4 rfl (by first | decide | exact nl rfl) rfl dL_law_1341 nxk (kI fun r5 S6 hw => ?_)
  refine r_istore h [1, 2, 3, 4, 5, 6, 7, 0] (by decide) rfl dL_law_1344 ?_
  refine r_aload_n h 2 rfl rfl dL_law_1346 ?_
  obtain ⟨h8, hw⟩ := hw
  refine r_callV h (fun l => c_X10_thrown l _ _ _ hw) q1260 q1261 q1262 q64 q1263 nd_X10_thrown ⟨by decide, by decide⟩ rfl rfl ⟨Nat.le_trans (by omega) hcs.1, Nat.le_trans (by omega) hcs.2⟩ kci11 rfl h8 rfl (by first | decide | exact nl rfl) rfl dL_law_1347 nxk (kI fun r9 S10 hw => ?_)
  refine r_iload h 6 rfl dL_law_1350 ?_
  refine r_icmp_eq h 1357 dL_law_1352 (by decide) (fun hc => ?_) (fun hc => ?_)
  · replace hw := hw.1 hc
    refine r_iload h 6 rfl dL_law_1357 ?_
    refine r_if_ne h 1381 dL_law_1359 (by decide) (fun hc => ?_) (fun hc => ?_)
    · replace hw := hw.1 hc
      refine r_goto h 2055 dL_law_1381 (by decide) ?_
      refine r_vs [0, 1, 2, 3, 4, 5] rfl ?_
      refine r_widen (k := cells + 8) (n := slots + 64) (by omega) (by omega) ?_
      exact hk _ hw
    · replace hw := hw.2 hc
      refine r_aload_n h 3 rfl rfl dL_law_1362 ?_
      refine r_iconst h (v := 0) (by decide) dL_law_1363 ?_
      obtain ⟨h12, hw⟩ := hw
      obtain ⟨h13, hw⟩ := hw
      refine r_lald h h12 h13 dL_law_1364 ?_
      refine r_iload h 7 rfl dL_law_1365 ?_
      refine r_if_eq h 1374 dL_law_1367 (by decide) (fun hc => ?_) (fun hc => ?_)
      · replace hw := hw.1 hc
        refine r_lconst h (v := 0) (by decide) dL_law_1374 ?_
        refine r_lcmp h dL_law_1375 ?_
        refine r_if_eq h 1381 dL_law_1376 (by decide) (fun hc => ?_) (fun hc => ?_)
        · replace hw := hw.1 hc
          refine r_goto h 2055 dL_law_1381 (by decide) ?_
          refine r_vs [0, 1, 2, 3, 4, 5] rfl ?_
          refine r_widen (k := cells + 8) (n := slots + 64) (by omega) (by omega) ?_
          exact hk _ hw
        · replace hw := hw.2 hc
          exact hw.elim
      · replace hw := hw.2 hc
        refine r_lconst h (v := 1) (by decide) dL_law_1370 ?_
        refine r_goto h 1375 dL_law_1371 (by decide) ?_
        refine r_lcmp h dL_law_1375 ?_
        refine r_if_eq h 1381 dL_law_1376 (by decide) (fun hc => ?_) (fun hc => ?_)
        · replace hw := hw.1 hc
          refine r_goto h 2055 dL_law_1381 (by decide) ?_
          refine r_vs [0, 1, 2, 3, 4, 5] rfl ?_
          refine r_widen (k := cells + 8) (n := slots + 64) (by omega) (by omega) ?_
          exact hk _ hw
        · replace hw := hw.2 hc
          exact hw.elim
  · replace hw := hw.2 hc
    exact hw.elim
def lw_18 (S : St) (a1 a2 a3 a4 : Nat) (xs : Nat → Int32) (i : Int32) (K : St → Prop) : Prop := w_L_wallFor S a1 (xs (Int32.toNatClampNeg (i + 1))) (xs (Int32.toNatClampNeg (i + 2))) a3 (fun (r1 : Int32) (S2 : St) => ok S2 a2 11 ∧ w_X10_wallFor S2 a2 (xs (Int32.toNatClampNeg (i + 1))) (xs (Int32.toNatClampNeg (i + 2))) (fun (r5 : Int32) (S6 : St) => ok S6 a2 11 ∧ w_X10_thrown S6 a2 (fun (r9 : Int32) (S10 : St) => (((r9 = r1) → (((¬ r1 = 0) → K S10) ∧ ((r1 = 0) → ok S10 a3 103 ∧ vp_in 0 (sN S10 a3) ∧ ((((lg_cmp (sJ S10 a3 (Int32.toNatClampNeg 0)) (Int32.toInt64 r5)) = 0) → K S10) ∧ ((¬ (lg_cmp (sJ S10 a3 (Int32.toNatClampNeg 0)) (Int32.toInt64 r5)) = 0) → False))))) ∧ ((¬ r9 = r1) → False)))))
set_option maxRecDepth 100000 in
set_option maxHeartbeats 4000000 in
theorem lc_18 {X : XE} {b L : Nat} {xs : Nat → Int32} (h : cy X RL "law" cL_law 9 (some .boolean) room_1 []) (hsc : scr X b L xs) {i : Int32} (hv1 : vp_in (i + 1) L) (hv2 : vp_in (i + 2) L) (hv3 : vp_in (i + 3) L) (hv4 : vp_in (i + 4) L) (hv5 : vp_in (i + 5) L) (hv6 : vp_in (i + 6) L) {cells slots : Nat} (hcs : cells + 8 ≤ room_1.cells ∧ slots + 64 ≤ room_1.slots) {K : St → Prop} {a1 a2 a3 a4 : Nat} (hk : ∀ S : St, K S → pw X (cells + 8) (slots + 64) S 2055 [(0, .ref b), (1, .ref a1), (2, .ref a2), (3, .ref a3), (4, .ref a4), (5, .int i)] []) {S : St} (hw : lw_18 S a1 a2 a3 a4 xs i K) : pw X cells slots S 1384 [(0, .ref b), (1, .ref a1), (2, .ref a2), (3, .ref a3), (4, .ref a4), (5, .int i)] [] := by
  unfold lw_18 at hw
  refine r_aload_n h 1 rfl rfl dL_law_1384 ?_
  refine r_aload_n h 0 rfl rfl dL_law_1385 ?_
  refine r_iload h 5 rfl dL_law_1386 ?_
  refine r_iconst h (v := 1) (by decide) dL_law_1388 ?_
  refine r_iadd h dL_law_1389 ?_
  refine r_sld h hsc hv1 dL_law_1390 ?_
  refine r_aload_n h 0 rfl rfl dL_law_1391 ?_
  refine r_iload h 5 rfl dL_law_1392 ?_
  refine r_iconst h (v := 2) (by decide) dL_law_1394 ?_
  refine r_iadd h dL_law_1395 ?_
  refine r_sld h hsc hv2 dL_law_1396 ?_
  refine r_aload_n h 3 rfl rfl dL_law_1397 ?_
  refine r_callSW h (fun l => c_L_wallFor l _ _ _ _ _ _ hw) q1010 q1011 q54 q1012 nd_L_wallFor ⟨by decide, by decide⟩ rfl rfl ⟨Nat.le_trans (by omega) hcs.1, Nat.le_trans (by omega) hcs.2⟩ (as := [.ref a1, .int (xs (Int32.toNatClampNeg (i + 1))), .int (xs (Int32.toNatClampNeg (i + 2))), .ref a3]) rfl (by first | decide | exact nl rfl) rfl dL_law_1398 nxk (kI fun r1 S2 hw => ?_)
  refine r_istore h [1, 2, 3, 4, 5, 6, 0] (by decide) rfl dL_law_1401 ?_
  refine r_aload_n h 2 rfl rfl dL_law_1403 ?_
  refine r_aload_n h 0 rfl rfl dL_law_1404 ?_
  refine r_iload h 5 rfl dL_law_1405 ?_
  refine r_iconst h (v := 1) (by decide) dL_law_1407 ?_
  refine r_iadd h dL_law_1408 ?_
  refine r_sld h hsc hv1 dL_law_1409 ?_
  refine r_aload_n h 0 rfl rfl dL_law_1410 ?_
  refine r_iload h 5 rfl dL_law_1411 ?_
  refine r_iconst h (v := 2) (by decide) dL_law_1413 ?_
  refine r_iadd h dL_law_1414 ?_
  refine r_sld h hsc hv2 dL_law_1415 ?_
  obtain ⟨h4, hw⟩ := hw
  refine r_callV h (fun l => c_X10_wallFor l _ _ _ _ _ hw) q1430 q1431 q1432 q64 q1433 nd_X10_wallFor ⟨by decide, by decide⟩ rfl rfl ⟨Nat.le_trans (by omega) hcs.1, Nat.le_trans (by omega) hcs.2⟩ kci11 rfl h4 rfl (by first | decide | exact nl rfl) rfl dL_law_1416 nxk (kI fun r5 S6 hw => ?_)
  refine r_istore h [1, 2, 3, 4, 5, 6, 7, 0] (by decide) rfl dL_law_1419 ?_
  refine r_aload_n h 2 rfl rfl dL_law_1421 ?_
  obtain ⟨h8, hw⟩ := hw
  refine r_callV h (fun l => c_X10_thrown l _ _ _ hw) q1260 q1261 q1262 q64 q1263 nd_X10_thrown ⟨by decide, by decide⟩ rfl rfl ⟨Nat.le_trans (by omega) hcs.1, Nat.le_trans (by omega) hcs.2⟩ kci11 rfl h8 rfl (by first | decide | exact nl rfl) rfl dL_law_1422 nxk (kI fun r9 S10 hw => ?_)
  refine r_iload h 6 rfl dL_law_1425 ?_
  refine r_icmp_eq h 1432 dL_law_1427 (by decide) (fun hc => ?_) (fun hc => ?_)
  · replace hw := hw.1 hc
    refine r_iload h 6 rfl dL_law_1432 ?_
    refine r_if_ne h 1449 dL_law_1434 (by decide) (fun hc => ?_) (fun hc => ?_)
    · replace hw := hw.1 hc
      refine r_goto h 2055 dL_law_1449 (by decide) ?_
      refine r_vs [0, 1, 2, 3, 4, 5] rfl ?_
      refine r_widen (k := cells + 8) (n := slots + 64) (by omega) (by omega) ?_
      exact hk _ hw
    · replace hw := hw.2 hc
      refine r_aload_n h 3 rfl rfl dL_law_1437 ?_
      refine r_iconst h (v := 0) (by decide) dL_law_1438 ?_
      obtain ⟨h12, hw⟩ := hw
      obtain ⟨h13, hw⟩ := hw
      refine r_lald h h12 h13 dL_law_1439 ?_
      refine r_iload h 7 rfl dL_law_1440 ?_
      refine r_i2l h dL_law_1442 ?_
      refine r_lcmp h dL_law_1443 ?_
      refine r_if_eq h 1449 dL_law_1444 (by decide) (fun hc => ?_) (fun hc => ?_)
      · replace hw := hw.1 hc
        refine r_goto h 2055 dL_law_1449 (by decide) ?_
        refine r_vs [0, 1, 2, 3, 4, 5] rfl ?_
        refine r_widen (k := cells + 8) (n := slots + 64) (by omega) (by omega) ?_
        exact hk _ hw
      · replace hw := hw.2 hc
        exact hw.elim
  · replace hw := hw.2 hc
    exact hw.elim
def lw_19 (S : St) (a1 a2 a3 a4 : Nat) (xs : Nat → Int32) (i : Int32) (K : St → Prop) : Prop := w_L_wallForBySearch S a1 (xs (Int32.toNatClampNeg (i + 1))) (xs (Int32.toNatClampNeg (i + 2))) a3 (fun (r1 : Int32) (S2 : St) => ok S2 a2 11 ∧ w_X10_wallForBySearch S2 a2 (xs (Int32.toNatClampNeg (i + 1))) (xs (Int32.toNatClampNeg (i + 2))) (fun (r5 : Int32) (S6 : St) => ok S6 a2 11 ∧ w_X10_thrown S6 a2 (fun (r9 : Int32) (S10 : St) => (((r9 = r1) → (((¬ r1 = 0) → K S10) ∧ ((r1 = 0) → ok S10 a3 103 ∧ vp_in 0 (sN S10 a3) ∧ ((((lg_cmp (sJ S10 a3 (Int32.toNatClampNeg 0)) (Int32.toInt64 r5)) = 0) → K S10) ∧ ((¬ (lg_cmp (sJ S10 a3 (Int32.toNatClampNeg 0)) (Int32.toInt64 r5)) = 0) → False))))) ∧ ((¬ r9 = r1) → False)))))
set_option maxRecDepth 100000 in
set_option maxHeartbeats 4000000 in
theorem lc_19 {X : XE} {b L : Nat} {xs : Nat → Int32} (h : cy X RL "law" cL_law 9 (some .boolean) room_1 []) (hsc : scr X b L xs) {i : Int32} (hv1 : vp_in (i + 1) L) (hv2 : vp_in (i + 2) L) (hv3 : vp_in (i + 3) L) (hv4 : vp_in (i + 4) L) (hv5 : vp_in (i + 5) L) (hv6 : vp_in (i + 6) L) {cells slots : Nat} (hcs : cells + 8 ≤ room_1.cells ∧ slots + 64 ≤ room_1.slots) {K : St → Prop} {a1 a2 a3 a4 : Nat} (hk : ∀ S : St, K S → pw X (cells + 8) (slots + 64) S 2055 [(0, .ref b), (1, .ref a1), (2, .ref a2), (3, .ref a3), (4, .ref a4), (5, .int i)] []) {S : St} (hw : lw_19 S a1 a2 a3 a4 xs i K) : pw X cells slots S 1452 [(0, .ref b), (1, .ref a1), (2, .ref a2), (3, .ref a3), (4, .ref a4), (5, .int i)] [] := by
  unfold lw_19 at hw
  refine r_aload_n h 1 rfl rfl dL_law_1452 ?_
  refine r_aload_n h 0 rfl rfl dL_law_1453 ?_
  refine r_iload h 5 rfl dL_law_1454 ?_
  refine r_iconst h (v := 1) (by decide) dL_law_1456 ?_
  refine r_iadd h dL_law_1457 ?_
  refine r_sld h hsc hv1 dL_law_1458 ?_
  refine r_aload_n h 0 rfl rfl dL_law_1459 ?_
  refine r_iload h 5 rfl dL_law_1460 ?_
  refine r_iconst h (v := 2) (by decide) dL_law_1462 ?_
  refine r_iadd h dL_law_1463 ?_
  refine r_sld h hsc hv2 dL_law_1464 ?_
  refine r_aload_n h 3 rfl rfl dL_law_1465 ?_
  refine r_callSW h (fun l => c_L_wallForBySearch l _ _ _ _ _ _ hw) q1023 q1024 q54 q1025 nd_L_wallForBySearch ⟨by decide, by decide⟩ rfl rfl ⟨Nat.le_trans (by omega) hcs.1, Nat.le_trans (by omega) hcs.2⟩ (as := [.ref a1, .int (xs (Int32.toNatClampNeg (i + 1))), .int (xs (Int32.toNatClampNeg (i + 2))), .ref a3]) rfl (by first | decide | exact nl rfl) rfl dL_law_1466 nxk (kI fun r1 S2 hw => ?_)
  refine r_istore h [1, 2, 3, 4, 5, 6, 0] (by decide) rfl dL_law_1469 ?_
  refine r_aload_n h 2 rfl rfl dL_law_1471 ?_
  refine r_aload_n h 0 rfl rfl dL_law_1472 ?_
  refine r_iload h 5 rfl dL_law_1473 ?_
  refine r_iconst h (v := 1) (by decide) dL_law_1475 ?_
  refine r_iadd h dL_law_1476 ?_
  refine r_sld h hsc hv1 dL_law_1477 ?_
  refine r_aload_n h 0 rfl rfl dL_law_1478 ?_
  refine r_iload h 5 rfl dL_law_1479 ?_
  refine r_iconst h (v := 2) (by decide) dL_law_1481 ?_
  refine r_iadd h dL_law_1482 ?_
  refine r_sld h hsc hv2 dL_law_1483 ?_
  obtain ⟨h4, hw⟩ := hw
  refine r_callV h (fun l => c_X10_wallForBySearch l _ _ _ _ _ hw) q1434 q1435 q1436 q64 q1437 nd_X10_wallForBySearch ⟨by decide, by decide⟩ rfl rfl ⟨Nat.le_trans (by omega) hcs.1, Nat.le_trans (by omega) hcs.2⟩ kci11 rfl h4 rfl (by first | decide | exact nl rfl) rfl dL_law_1484 nxk (kI fun r5 S6 hw => ?_)
  refine r_istore h [1, 2, 3, 4, 5, 6, 7, 0] (by decide) rfl dL_law_1487 ?_
  refine r_aload_n h 2 rfl rfl dL_law_1489 ?_
  obtain ⟨h8, hw⟩ := hw
  refine r_callV h (fun l => c_X10_thrown l _ _ _ hw) q1260 q1261 q1262 q64 q1263 nd_X10_thrown ⟨by decide, by decide⟩ rfl rfl ⟨Nat.le_trans (by omega) hcs.1, Nat.le_trans (by omega) hcs.2⟩ kci11 rfl h8 rfl (by first | decide | exact nl rfl) rfl dL_law_1490 nxk (kI fun r9 S10 hw => ?_)
  refine r_iload h 6 rfl dL_law_1493 ?_
  refine r_icmp_eq h 1500 dL_law_1495 (by decide) (fun hc => ?_) (fun hc => ?_)
  · replace hw := hw.1 hc
    refine r_iload h 6 rfl dL_law_1500 ?_
    refine r_if_ne h 1517 dL_law_1502 (by decide) (fun hc => ?_) (fun hc => ?_)
    · replace hw := hw.1 hc
      refine r_goto h 2055 dL_law_1517 (by decide) ?_
      refine r_vs [0, 1, 2, 3, 4, 5] rfl ?_
      refine r_widen (k := cells + 8) (n := slots + 64) (by omega) (by omega) ?_
      exact hk _ hw
    · replace hw := hw.2 hc
      refine r_aload_n h 3 rfl rfl dL_law_1505 ?_
      refine r_iconst h (v := 0) (by decide) dL_law_1506 ?_
      obtain ⟨h12, hw⟩ := hw
      obtain ⟨h13, hw⟩ := hw
      refine r_lald h h12 h13 dL_law_1507 ?_
      refine r_iload h 7 rfl dL_law_1508 ?_
      refine r_i2l h dL_law_1510 ?_
      refine r_lcmp h dL_law_1511 ?_
      refine r_if_eq h 1517 dL_law_1512 (by decide) (fun hc => ?_) (fun hc => ?_)
      · replace hw := hw.1 hc
        refine r_goto h 2055 dL_law_1517 (by decide) ?_
        refine r_vs [0, 1, 2, 3, 4, 5] rfl ?_
        refine r_widen (k := cells + 8) (n := slots + 64) (by omega) (by omega) ?_
        exact hk _ hw
      · replace hw := hw.2 hc
        exact hw.elim
  · replace hw := hw.2 hc
    exact hw.elim
def lw_20 (S : St) (a1 a2 a3 a4 : Nat) (xs : Nat → Int32) (i : Int32) (K : St → Prop) : Prop := w_L_trips S a1 (xs (Int32.toNatClampNeg (i + 1))) (xs (Int32.toNatClampNeg (i + 2))) a3 (fun (r1 : Int32) (S2 : St) => ok S2 a2 11 ∧ w_X10_trips S2 a2 (xs (Int32.toNatClampNeg (i + 1))) (xs (Int32.toNatClampNeg (i + 2))) (fun (r5 : Int32) (S6 : St) => ok S6 a2 11 ∧ w_X10_thrown S6 a2 (fun (r9 : Int32) (S10 : St) => (((r9 = r1) → (((¬ r1 = 0) → K S10) ∧ ((r1 = 0) → ok S10 a3 103 ∧ vp_in 0 (sN S10 a3) ∧ ((((lg_cmp (sJ S10 a3 (Int32.toNatClampNeg 0)) (Int32.toInt64 r5)) = 0) → K S10) ∧ ((¬ (lg_cmp (sJ S10 a3 (Int32.toNatClampNeg 0)) (Int32.toInt64 r5)) = 0) → False))))) ∧ ((¬ r9 = r1) → False)))))
set_option maxRecDepth 100000 in
set_option maxHeartbeats 4000000 in
theorem lc_20 {X : XE} {b L : Nat} {xs : Nat → Int32} (h : cy X RL "law" cL_law 9 (some .boolean) room_1 []) (hsc : scr X b L xs) {i : Int32} (hv1 : vp_in (i + 1) L) (hv2 : vp_in (i + 2) L) (hv3 : vp_in (i + 3) L) (hv4 : vp_in (i + 4) L) (hv5 : vp_in (i + 5) L) (hv6 : vp_in (i + 6) L) {cells slots : Nat} (hcs : cells + 8 ≤ room_1.cells ∧ slots + 64 ≤ room_1.slots) {K : St → Prop} {a1 a2 a3 a4 : Nat} (hk : ∀ S : St, K S → pw X (cells + 8) (slots + 64) S 2055 [(0, .ref b), (1, .ref a1), (2, .ref a2), (3, .ref a3), (4, .ref a4), (5, .int i)] []) {S : St} (hw : lw_20 S a1 a2 a3 a4 xs i K) : pw X cells slots S 1520 [(0, .ref b), (1, .ref a1), (2, .ref a2), (3, .ref a3), (4, .ref a4), (5, .int i)] [] := by
  unfold lw_20 at hw
  refine r_aload_n h 1 rfl rfl dL_law_1520 ?_
  refine r_aload_n h 0 rfl rfl dL_law_1521 ?_
  refine r_iload h 5 rfl dL_law_1522 ?_
  refine r_iconst h (v := 1) (by decide) dL_law_1524 ?_
  refine r_iadd h dL_law_1525 ?_
  refine r_sld h hsc hv1 dL_law_1526 ?_
  refine r_aload_n h 0 rfl rfl dL_law_1527 ?_
  refine r_iload h 5 rfl dL_law_1528 ?_
  refine r_iconst h (v := 2) (by decide) dL_law_1530 ?_
  refine r_iadd h dL_law_1531 ?_
  refine r_sld h hsc hv2 dL_law_1532 ?_
  refine r_aload_n h 3 rfl rfl dL_law_1533 ?_
  refine r_callSW h (fun l => c_L_trips l _ _ _ _ _ _ hw) q1030 q1031 q54 q1032 nd_L_trips ⟨by decide, by decide⟩ rfl rfl ⟨Nat.le_trans (by omega) hcs.1, Nat.le_trans (by omega) hcs.2⟩ (as := [.ref a1, .int (xs (Int32.toNatClampNeg (i + 1))), .int (xs (Int32.toNatClampNeg (i + 2))), .ref a3]) rfl (by first | decide | exact nl rfl) rfl dL_law_1534 nxk (kI fun r1 S2 hw => ?_)
  refine r_istore h [1, 2, 3, 4, 5, 6, 0] (by decide) rfl dL_law_1537 ?_
  refine r_aload_n h 2 rfl rfl dL_law_1539 ?_
  refine r_aload_n h 0 rfl rfl dL_law_1540 ?_
  refine r_iload h 5 rfl dL_law_1541 ?_
  refine r_iconst h (v := 1) (by decide) dL_law_1543 ?_
  refine r_iadd h dL_law_1544 ?_
  refine r_sld h hsc hv1 dL_law_1545 ?_
  refine r_aload_n h 0 rfl rfl dL_law_1546 ?_
  refine r_iload h 5 rfl dL_law_1547 ?_
  refine r_iconst h (v := 2) (by decide) dL_law_1549 ?_
  refine r_iadd h dL_law_1550 ?_
  refine r_sld h hsc hv2 dL_law_1551 ?_
  obtain ⟨h4, hw⟩ := hw
  refine r_callV h (fun l => c_X10_trips l _ _ _ _ _ hw) q1439 q1440 q1441 q64 q1442 nd_X10_trips ⟨by decide, by decide⟩ rfl rfl ⟨Nat.le_trans (by omega) hcs.1, Nat.le_trans (by omega) hcs.2⟩ kci11 rfl h4 rfl (by first | decide | exact nl rfl) rfl dL_law_1552 nxk (kI fun r5 S6 hw => ?_)
  refine r_istore h [1, 2, 3, 4, 5, 6, 7, 0] (by decide) rfl dL_law_1555 ?_
  refine r_aload_n h 2 rfl rfl dL_law_1557 ?_
  obtain ⟨h8, hw⟩ := hw
  refine r_callV h (fun l => c_X10_thrown l _ _ _ hw) q1260 q1261 q1262 q64 q1263 nd_X10_thrown ⟨by decide, by decide⟩ rfl rfl ⟨Nat.le_trans (by omega) hcs.1, Nat.le_trans (by omega) hcs.2⟩ kci11 rfl h8 rfl (by first | decide | exact nl rfl) rfl dL_law_1558 nxk (kI fun r9 S10 hw => ?_)
  refine r_iload h 6 rfl dL_law_1561 ?_
  refine r_icmp_eq h 1568 dL_law_1563 (by decide) (fun hc => ?_) (fun hc => ?_)
  · replace hw := hw.1 hc
    refine r_iload h 6 rfl dL_law_1568 ?_
    refine r_if_ne h 1585 dL_law_1570 (by decide) (fun hc => ?_) (fun hc => ?_)
    · replace hw := hw.1 hc
      refine r_goto h 2055 dL_law_1585 (by decide) ?_
      refine r_vs [0, 1, 2, 3, 4, 5] rfl ?_
      refine r_widen (k := cells + 8) (n := slots + 64) (by omega) (by omega) ?_
      exact hk _ hw
    · replace hw := hw.2 hc
      refine r_aload_n h 3 rfl rfl dL_law_1573 ?_
      refine r_iconst h (v := 0) (by decide) dL_law_1574 ?_
      obtain ⟨h12, hw⟩ := hw
      obtain ⟨h13, hw⟩ := hw
      refine r_lald h h12 h13 dL_law_1575 ?_
      refine r_iload h 7 rfl dL_law_1576 ?_
      refine r_i2l h dL_law_1578 ?_
      refine r_lcmp h dL_law_1579 ?_
      refine r_if_eq h 1585 dL_law_1580 (by decide) (fun hc => ?_) (fun hc => ?_)
      · replace hw := hw.1 hc
        refine r_goto h 2055 dL_law_1585 (by decide) ?_
        refine r_vs [0, 1, 2, 3, 4, 5] rfl ?_
        refine r_widen (k := cells + 8) (n := slots + 64) (by omega) (by omega) ?_
        exact hk _ hw
      · replace hw := hw.2 hc
        exact hw.elim
  · replace hw := hw.2 hc
    exact hw.elim
def lw_21 (S : St) (a1 a2 a3 a4 : Nat) (xs : Nat → Int32) (i : Int32) (K : St → Prop) : Prop := w_L_tripsByTrying S a1 (xs (Int32.toNatClampNeg (i + 1))) (xs (Int32.toNatClampNeg (i + 2))) a3 (fun (r1 : Int32) (S2 : St) => ok S2 a2 11 ∧ w_X10_tripsByTrying S2 a2 (xs (Int32.toNatClampNeg (i + 1))) (xs (Int32.toNatClampNeg (i + 2))) (fun (r5 : Int32) (S6 : St) => ok S6 a2 11 ∧ w_X10_thrown S6 a2 (fun (r9 : Int32) (S10 : St) => (((r9 = r1) → (((¬ r1 = 0) → K S10) ∧ ((r1 = 0) → ok S10 a3 103 ∧ vp_in 0 (sN S10 a3) ∧ ((((lg_cmp (sJ S10 a3 (Int32.toNatClampNeg 0)) (Int32.toInt64 r5)) = 0) → K S10) ∧ ((¬ (lg_cmp (sJ S10 a3 (Int32.toNatClampNeg 0)) (Int32.toInt64 r5)) = 0) → False))))) ∧ ((¬ r9 = r1) → False)))))
set_option maxRecDepth 100000 in
set_option maxHeartbeats 4000000 in
theorem lc_21 {X : XE} {b L : Nat} {xs : Nat → Int32} (h : cy X RL "law" cL_law 9 (some .boolean) room_1 []) (hsc : scr X b L xs) {i : Int32} (hv1 : vp_in (i + 1) L) (hv2 : vp_in (i + 2) L) (hv3 : vp_in (i + 3) L) (hv4 : vp_in (i + 4) L) (hv5 : vp_in (i + 5) L) (hv6 : vp_in (i + 6) L) {cells slots : Nat} (hcs : cells + 8 ≤ room_1.cells ∧ slots + 64 ≤ room_1.slots) {K : St → Prop} {a1 a2 a3 a4 : Nat} (hk : ∀ S : St, K S → pw X (cells + 8) (slots + 64) S 2055 [(0, .ref b), (1, .ref a1), (2, .ref a2), (3, .ref a3), (4, .ref a4), (5, .int i)] []) {S : St} (hw : lw_21 S a1 a2 a3 a4 xs i K) : pw X cells slots S 1588 [(0, .ref b), (1, .ref a1), (2, .ref a2), (3, .ref a3), (4, .ref a4), (5, .int i)] [] := by
  unfold lw_21 at hw
  refine r_aload_n h 1 rfl rfl dL_law_1588 ?_
  refine r_aload_n h 0 rfl rfl dL_law_1589 ?_
  refine r_iload h 5 rfl dL_law_1590 ?_
  refine r_iconst h (v := 1) (by decide) dL_law_1592 ?_
  refine r_iadd h dL_law_1593 ?_
  refine r_sld h hsc hv1 dL_law_1594 ?_
  refine r_aload_n h 0 rfl rfl dL_law_1595 ?_
  refine r_iload h 5 rfl dL_law_1596 ?_
  refine r_iconst h (v := 2) (by decide) dL_law_1598 ?_
  refine r_iadd h dL_law_1599 ?_
  refine r_sld h hsc hv2 dL_law_1600 ?_
  refine r_aload_n h 3 rfl rfl dL_law_1601 ?_
  refine r_callSW h (fun l => c_L_tripsByTrying l _ _ _ _ _ _ hw) q1068 q1069 q54 q1070 nd_L_tripsByTrying ⟨by decide, by decide⟩ rfl rfl ⟨Nat.le_trans (by omega) hcs.1, Nat.le_trans (by omega) hcs.2⟩ (as := [.ref a1, .int (xs (Int32.toNatClampNeg (i + 1))), .int (xs (Int32.toNatClampNeg (i + 2))), .ref a3]) rfl (by first | decide | exact nl rfl) rfl dL_law_1602 nxk (kI fun r1 S2 hw => ?_)
  refine r_istore h [1, 2, 3, 4, 5, 6, 0] (by decide) rfl dL_law_1605 ?_
  refine r_aload_n h 2 rfl rfl dL_law_1607 ?_
  refine r_aload_n h 0 rfl rfl dL_law_1608 ?_
  refine r_iload h 5 rfl dL_law_1609 ?_
  refine r_iconst h (v := 1) (by decide) dL_law_1611 ?_
  refine r_iadd h dL_law_1612 ?_
  refine r_sld h hsc hv1 dL_law_1613 ?_
  refine r_aload_n h 0 rfl rfl dL_law_1614 ?_
  refine r_iload h 5 rfl dL_law_1615 ?_
  refine r_iconst h (v := 2) (by decide) dL_law_1617 ?_
  refine r_iadd h dL_law_1618 ?_
  refine r_sld h hsc hv2 dL_law_1619 ?_
  obtain ⟨h4, hw⟩ := hw
  refine r_callV h (fun l => c_X10_tripsByTrying l _ _ _ _ _ hw) q1455 q1456 q1457 q64 q1458 nd_X10_tripsByTrying ⟨by decide, by decide⟩ rfl rfl ⟨Nat.le_trans (by omega) hcs.1, Nat.le_trans (by omega) hcs.2⟩ kci11 rfl h4 rfl (by first | decide | exact nl rfl) rfl dL_law_1620 nxk (kI fun r5 S6 hw => ?_)
  refine r_istore h [1, 2, 3, 4, 5, 6, 7, 0] (by decide) rfl dL_law_1623 ?_
  refine r_aload_n h 2 rfl rfl dL_law_1625 ?_
  obtain ⟨h8, hw⟩ := hw
  refine r_callV h (fun l => c_X10_thrown l _ _ _ hw) q1260 q1261 q1262 q64 q1263 nd_X10_thrown ⟨by decide, by decide⟩ rfl rfl ⟨Nat.le_trans (by omega) hcs.1, Nat.le_trans (by omega) hcs.2⟩ kci11 rfl h8 rfl (by first | decide | exact nl rfl) rfl dL_law_1626 nxk (kI fun r9 S10 hw => ?_)
  refine r_iload h 6 rfl dL_law_1629 ?_
  refine r_icmp_eq h 1636 dL_law_1631 (by decide) (fun hc => ?_) (fun hc => ?_)
  · replace hw := hw.1 hc
    refine r_iload h 6 rfl dL_law_1636 ?_
    refine r_if_ne h 1653 dL_law_1638 (by decide) (fun hc => ?_) (fun hc => ?_)
    · replace hw := hw.1 hc
      refine r_goto h 2055 dL_law_1653 (by decide) ?_
      refine r_vs [0, 1, 2, 3, 4, 5] rfl ?_
      refine r_widen (k := cells + 8) (n := slots + 64) (by omega) (by omega) ?_
      exact hk _ hw
    · replace hw := hw.2 hc
      refine r_aload_n h 3 rfl rfl dL_law_1641 ?_
      refine r_iconst h (v := 0) (by decide) dL_law_1642 ?_
      obtain ⟨h12, hw⟩ := hw
      obtain ⟨h13, hw⟩ := hw
      refine r_lald h h12 h13 dL_law_1643 ?_
      refine r_iload h 7 rfl dL_law_1644 ?_
      refine r_i2l h dL_law_1646 ?_
      refine r_lcmp h dL_law_1647 ?_
      refine r_if_eq h 1653 dL_law_1648 (by decide) (fun hc => ?_) (fun hc => ?_)
      · replace hw := hw.1 hc
        refine r_goto h 2055 dL_law_1653 (by decide) ?_
        refine r_vs [0, 1, 2, 3, 4, 5] rfl ?_
        refine r_widen (k := cells + 8) (n := slots + 64) (by omega) (by omega) ?_
        exact hk _ hw
      · replace hw := hw.2 hc
        exact hw.elim
  · replace hw := hw.2 hc
    exact hw.elim
def lw_22 (S : St) (a1 a2 a3 a4 : Nat) (xs : Nat → Int32) (i : Int32) (K : St → Prop) : Prop := w_L_taken S a1 (xs (Int32.toNatClampNeg (i + 1))) (xs (Int32.toNatClampNeg (i + 2))) a3 (fun (r1 : Int32) (S2 : St) => ok S2 a2 11 ∧ w_X10_taken S2 a2 (xs (Int32.toNatClampNeg (i + 1))) (xs (Int32.toNatClampNeg (i + 2))) (fun (r5 : Int32) (S6 : St) => ok S6 a2 11 ∧ w_X10_thrown S6 a2 (fun (r9 : Int32) (S10 : St) => (((r9 = r1) → (((¬ r1 = 0) → K S10) ∧ ((r1 = 0) → ok S10 a3 103 ∧ vp_in 0 (sN S10 a3) ∧ ((((lg_cmp (sJ S10 a3 (Int32.toNatClampNeg 0)) (Int32.toInt64 r5)) = 0) → K S10) ∧ ((¬ (lg_cmp (sJ S10 a3 (Int32.toNatClampNeg 0)) (Int32.toInt64 r5)) = 0) → False))))) ∧ ((¬ r9 = r1) → False)))))
set_option maxRecDepth 100000 in
set_option maxHeartbeats 4000000 in
theorem lc_22 {X : XE} {b L : Nat} {xs : Nat → Int32} (h : cy X RL "law" cL_law 9 (some .boolean) room_1 []) (hsc : scr X b L xs) {i : Int32} (hv1 : vp_in (i + 1) L) (hv2 : vp_in (i + 2) L) (hv3 : vp_in (i + 3) L) (hv4 : vp_in (i + 4) L) (hv5 : vp_in (i + 5) L) (hv6 : vp_in (i + 6) L) {cells slots : Nat} (hcs : cells + 8 ≤ room_1.cells ∧ slots + 64 ≤ room_1.slots) {K : St → Prop} {a1 a2 a3 a4 : Nat} (hk : ∀ S : St, K S → pw X (cells + 8) (slots + 64) S 2055 [(0, .ref b), (1, .ref a1), (2, .ref a2), (3, .ref a3), (4, .ref a4), (5, .int i)] []) {S : St} (hw : lw_22 S a1 a2 a3 a4 xs i K) : pw X cells slots S 1656 [(0, .ref b), (1, .ref a1), (2, .ref a2), (3, .ref a3), (4, .ref a4), (5, .int i)] [] := by
  unfold lw_22 at hw
  refine r_aload_n h 1 rfl rfl dL_law_1656 ?_
  refine r_aload_n h 0 rfl rfl dL_law_1657 ?_
  refine r_iload h 5 rfl dL_law_1658 ?_
  refine r_iconst h (v := 1) (by decide) dL_law_1660 ?_
  refine r_iadd h dL_law_1661 ?_
  refine r_sld h hsc hv1 dL_law_1662 ?_
  refine r_aload_n h 0 rfl rfl dL_law_1663 ?_
  refine r_iload h 5 rfl dL_law_1664 ?_
  refine r_iconst h (v := 2) (by decide) dL_law_1666 ?_
  refine r_iadd h dL_law_1667 ?_
  refine r_sld h hsc hv2 dL_law_1668 ?_
  refine r_aload_n h 3 rfl rfl dL_law_1669 ?_
  refine r_callSW h (fun l => c_L_taken l _ _ _ _ _ _ hw) q1083 q1084 q54 q1085 nd_L_taken ⟨by decide, by decide⟩ rfl rfl ⟨Nat.le_trans (by omega) hcs.1, Nat.le_trans (by omega) hcs.2⟩ (as := [.ref a1, .int (xs (Int32.toNatClampNeg (i + 1))), .int (xs (Int32.toNatClampNeg (i + 2))), .ref a3]) rfl (by first | decide | exact nl rfl) rfl dL_law_1670 nxk (kI fun r1 S2 hw => ?_)
  refine r_istore h [1, 2, 3, 4, 5, 6, 0] (by decide) rfl dL_law_1673 ?_
  refine r_aload_n h 2 rfl rfl dL_law_1675 ?_
  refine r_aload_n h 0 rfl rfl dL_law_1676 ?_
  refine r_iload h 5 rfl dL_law_1677 ?_
  refine r_iconst h (v := 1) (by decide) dL_law_1679 ?_
  refine r_iadd h dL_law_1680 ?_
  refine r_sld h hsc hv1 dL_law_1681 ?_
  refine r_aload_n h 0 rfl rfl dL_law_1682 ?_
  refine r_iload h 5 rfl dL_law_1683 ?_
  refine r_iconst h (v := 2) (by decide) dL_law_1685 ?_
  refine r_iadd h dL_law_1686 ?_
  refine r_sld h hsc hv2 dL_law_1687 ?_
  obtain ⟨h4, hw⟩ := hw
  refine r_callV h (fun l => c_X10_taken l _ _ _ _ _ hw) q1460 q1461 q1462 q64 q1463 nd_X10_taken ⟨by decide, by decide⟩ rfl rfl ⟨Nat.le_trans (by omega) hcs.1, Nat.le_trans (by omega) hcs.2⟩ kci11 rfl h4 rfl (by first | decide | exact nl rfl) rfl dL_law_1688 nxk (kI fun r5 S6 hw => ?_)
  refine r_istore h [1, 2, 3, 4, 5, 6, 7, 0] (by decide) rfl dL_law_1691 ?_
  refine r_aload_n h 2 rfl rfl dL_law_1693 ?_
  obtain ⟨h8, hw⟩ := hw
  refine r_callV h (fun l => c_X10_thrown l _ _ _ hw) q1260 q1261 q1262 q64 q1263 nd_X10_thrown ⟨by decide, by decide⟩ rfl rfl ⟨Nat.le_trans (by omega) hcs.1, Nat.le_trans (by omega) hcs.2⟩ kci11 rfl h8 rfl (by first | decide | exact nl rfl) rfl dL_law_1694 nxk (kI fun r9 S10 hw => ?_)
  refine r_iload h 6 rfl dL_law_1697 ?_
  refine r_icmp_eq h 1704 dL_law_1699 (by decide) (fun hc => ?_) (fun hc => ?_)
  · replace hw := hw.1 hc
    refine r_iload h 6 rfl dL_law_1704 ?_
    refine r_if_ne h 1721 dL_law_1706 (by decide) (fun hc => ?_) (fun hc => ?_)
    · replace hw := hw.1 hc
      refine r_goto h 2055 dL_law_1721 (by decide) ?_
      refine r_vs [0, 1, 2, 3, 4, 5] rfl ?_
      refine r_widen (k := cells + 8) (n := slots + 64) (by omega) (by omega) ?_
      exact hk _ hw
    · replace hw := hw.2 hc
      refine r_aload_n h 3 rfl rfl dL_law_1709 ?_
      refine r_iconst h (v := 0) (by decide) dL_law_1710 ?_
      obtain ⟨h12, hw⟩ := hw
      obtain ⟨h13, hw⟩ := hw
      refine r_lald h h12 h13 dL_law_1711 ?_
      refine r_iload h 7 rfl dL_law_1712 ?_
      refine r_i2l h dL_law_1714 ?_
      refine r_lcmp h dL_law_1715 ?_
      refine r_if_eq h 1721 dL_law_1716 (by decide) (fun hc => ?_) (fun hc => ?_)
      · replace hw := hw.1 hc
        refine r_goto h 2055 dL_law_1721 (by decide) ?_
        refine r_vs [0, 1, 2, 3, 4, 5] rfl ?_
        refine r_widen (k := cells + 8) (n := slots + 64) (by omega) (by omega) ?_
        exact hk _ hw
      · replace hw := hw.2 hc
        exact hw.elim
  · replace hw := hw.2 hc
    exact hw.elim
def lw_23 (S : St) (a1 a2 a3 a4 : Nat) (xs : Nat → Int32) (i : Int32) (K : St → Prop) : Prop := w_L_hanging S a1 (xs (Int32.toNatClampNeg (i + 1))) (xs (Int32.toNatClampNeg (i + 2))) a3 (fun (r1 : Int32) (S2 : St) => ok S2 a2 11 ∧ w_X10_hanging S2 a2 (xs (Int32.toNatClampNeg (i + 1))) (xs (Int32.toNatClampNeg (i + 2))) (fun (r5 : Int32) (S6 : St) => ok S6 a2 11 ∧ w_X10_thrown S6 a2 (fun (r9 : Int32) (S10 : St) => (((r9 = r1) → (((¬ r1 = 0) → K S10) ∧ ((r1 = 0) → ok S10 a3 103 ∧ vp_in 0 (sN S10 a3) ∧ ((((lg_cmp (sJ S10 a3 (Int32.toNatClampNeg 0)) (Int32.toInt64 r5)) = 0) → K S10) ∧ ((¬ (lg_cmp (sJ S10 a3 (Int32.toNatClampNeg 0)) (Int32.toInt64 r5)) = 0) → False))))) ∧ ((¬ r9 = r1) → False)))))
set_option maxRecDepth 100000 in
set_option maxHeartbeats 4000000 in
theorem lc_23 {X : XE} {b L : Nat} {xs : Nat → Int32} (h : cy X RL "law" cL_law 9 (some .boolean) room_1 []) (hsc : scr X b L xs) {i : Int32} (hv1 : vp_in (i + 1) L) (hv2 : vp_in (i + 2) L) (hv3 : vp_in (i + 3) L) (hv4 : vp_in (i + 4) L) (hv5 : vp_in (i + 5) L) (hv6 : vp_in (i + 6) L) {cells slots : Nat} (hcs : cells + 8 ≤ room_1.cells ∧ slots + 64 ≤ room_1.slots) {K : St → Prop} {a1 a2 a3 a4 : Nat} (hk : ∀ S : St, K S → pw X (cells + 8) (slots + 64) S 2055 [(0, .ref b), (1, .ref a1), (2, .ref a2), (3, .ref a3), (4, .ref a4), (5, .int i)] []) {S : St} (hw : lw_23 S a1 a2 a3 a4 xs i K) : pw X cells slots S 1724 [(0, .ref b), (1, .ref a1), (2, .ref a2), (3, .ref a3), (4, .ref a4), (5, .int i)] [] := by
  unfold lw_23 at hw
  refine r_aload_n h 1 rfl rfl dL_law_1724 ?_
  refine r_aload_n h 0 rfl rfl dL_law_1725 ?_
  refine r_iload h 5 rfl dL_law_1726 ?_
  refine r_iconst h (v := 1) (by decide) dL_law_1728 ?_
  refine r_iadd h dL_law_1729 ?_
  refine r_sld h hsc hv1 dL_law_1730 ?_
  refine r_aload_n h 0 rfl rfl dL_law_1731 ?_
  refine r_iload h 5 rfl dL_law_1732 ?_
  refine r_iconst h (v := 2) (by decide) dL_law_1734 ?_
  refine r_iadd h dL_law_1735 ?_
  refine r_sld h hsc hv2 dL_law_1736 ?_
  refine r_aload_n h 3 rfl rfl dL_law_1737 ?_
  refine r_callSW h (fun l => c_L_hanging l _ _ _ _ _ _ hw) q1098 q1099 q54 q1100 nd_L_hanging ⟨by decide, by decide⟩ rfl rfl ⟨Nat.le_trans (by omega) hcs.1, Nat.le_trans (by omega) hcs.2⟩ (as := [.ref a1, .int (xs (Int32.toNatClampNeg (i + 1))), .int (xs (Int32.toNatClampNeg (i + 2))), .ref a3]) rfl (by first | decide | exact nl rfl) rfl dL_law_1738 nxk (kI fun r1 S2 hw => ?_)
  refine r_istore h [1, 2, 3, 4, 5, 6, 0] (by decide) rfl dL_law_1741 ?_
  refine r_aload_n h 2 rfl rfl dL_law_1743 ?_
  refine r_aload_n h 0 rfl rfl dL_law_1744 ?_
  refine r_iload h 5 rfl dL_law_1745 ?_
  refine r_iconst h (v := 1) (by decide) dL_law_1747 ?_
  refine r_iadd h dL_law_1748 ?_
  refine r_sld h hsc hv1 dL_law_1749 ?_
  refine r_aload_n h 0 rfl rfl dL_law_1750 ?_
  refine r_iload h 5 rfl dL_law_1751 ?_
  refine r_iconst h (v := 2) (by decide) dL_law_1753 ?_
  refine r_iadd h dL_law_1754 ?_
  refine r_sld h hsc hv2 dL_law_1755 ?_
  obtain ⟨h4, hw⟩ := hw
  refine r_callV h (fun l => c_X10_hanging l _ _ _ _ _ hw) q1468 q1469 q1470 q64 q1471 nd_X10_hanging ⟨by decide, by decide⟩ rfl rfl ⟨Nat.le_trans (by omega) hcs.1, Nat.le_trans (by omega) hcs.2⟩ kci11 rfl h4 rfl (by first | decide | exact nl rfl) rfl dL_law_1756 nxk (kI fun r5 S6 hw => ?_)
  refine r_istore h [1, 2, 3, 4, 5, 6, 7, 0] (by decide) rfl dL_law_1759 ?_
  refine r_aload_n h 2 rfl rfl dL_law_1761 ?_
  obtain ⟨h8, hw⟩ := hw
  refine r_callV h (fun l => c_X10_thrown l _ _ _ hw) q1260 q1261 q1262 q64 q1263 nd_X10_thrown ⟨by decide, by decide⟩ rfl rfl ⟨Nat.le_trans (by omega) hcs.1, Nat.le_trans (by omega) hcs.2⟩ kci11 rfl h8 rfl (by first | decide | exact nl rfl) rfl dL_law_1762 nxk (kI fun r9 S10 hw => ?_)
  refine r_iload h 6 rfl dL_law_1765 ?_
  refine r_icmp_eq h 1772 dL_law_1767 (by decide) (fun hc => ?_) (fun hc => ?_)
  · replace hw := hw.1 hc
    refine r_iload h 6 rfl dL_law_1772 ?_
    refine r_if_ne h 1789 dL_law_1774 (by decide) (fun hc => ?_) (fun hc => ?_)
    · replace hw := hw.1 hc
      refine r_goto h 2055 dL_law_1789 (by decide) ?_
      refine r_vs [0, 1, 2, 3, 4, 5] rfl ?_
      refine r_widen (k := cells + 8) (n := slots + 64) (by omega) (by omega) ?_
      exact hk _ hw
    · replace hw := hw.2 hc
      refine r_aload_n h 3 rfl rfl dL_law_1777 ?_
      refine r_iconst h (v := 0) (by decide) dL_law_1778 ?_
      obtain ⟨h12, hw⟩ := hw
      obtain ⟨h13, hw⟩ := hw
      refine r_lald h h12 h13 dL_law_1779 ?_
      refine r_iload h 7 rfl dL_law_1780 ?_
      refine r_i2l h dL_law_1782 ?_
      refine r_lcmp h dL_law_1783 ?_
      refine r_if_eq h 1789 dL_law_1784 (by decide) (fun hc => ?_) (fun hc => ?_)
      · replace hw := hw.1 hc
        refine r_goto h 2055 dL_law_1789 (by decide) ?_
        refine r_vs [0, 1, 2, 3, 4, 5] rfl ?_
        refine r_widen (k := cells + 8) (n := slots + 64) (by omega) (by omega) ?_
        exact hk _ hw
      · replace hw := hw.2 hc
        exact hw.elim
  · replace hw := hw.2 hc
    exact hw.elim
def lw_24 (S : St) (a1 a2 a3 a4 : Nat) (xs : Nat → Int32) (i : Int32) (K : St → Prop) : Prop := w_L_awayFor S a1 (xs (Int32.toNatClampNeg (i + 1))) (xs (Int32.toNatClampNeg (i + 2))) a3 (fun (r1 : Int32) (S2 : St) => ok S2 a2 11 ∧ w_X10_awayFor S2 a2 (xs (Int32.toNatClampNeg (i + 1))) (xs (Int32.toNatClampNeg (i + 2))) (fun (r5 : Int32) (S6 : St) => ok S6 a2 11 ∧ w_X10_thrown S6 a2 (fun (r9 : Int32) (S10 : St) => (((r9 = r1) → (((¬ r1 = 0) → K S10) ∧ ((r1 = 0) → ok S10 a3 103 ∧ vp_in 0 (sN S10 a3) ∧ ((((lg_cmp (sJ S10 a3 (Int32.toNatClampNeg 0)) (Int32.toInt64 r5)) = 0) → K S10) ∧ ((¬ (lg_cmp (sJ S10 a3 (Int32.toNatClampNeg 0)) (Int32.toInt64 r5)) = 0) → False))))) ∧ ((¬ r9 = r1) → False)))))
set_option maxRecDepth 100000 in
set_option maxHeartbeats 4000000 in
theorem lc_24 {X : XE} {b L : Nat} {xs : Nat → Int32} (h : cy X RL "law" cL_law 9 (some .boolean) room_1 []) (hsc : scr X b L xs) {i : Int32} (hv1 : vp_in (i + 1) L) (hv2 : vp_in (i + 2) L) (hv3 : vp_in (i + 3) L) (hv4 : vp_in (i + 4) L) (hv5 : vp_in (i + 5) L) (hv6 : vp_in (i + 6) L) {cells slots : Nat} (hcs : cells + 8 ≤ room_1.cells ∧ slots + 64 ≤ room_1.slots) {K : St → Prop} {a1 a2 a3 a4 : Nat} (hk : ∀ S : St, K S → pw X (cells + 8) (slots + 64) S 2055 [(0, .ref b), (1, .ref a1), (2, .ref a2), (3, .ref a3), (4, .ref a4), (5, .int i)] []) {S : St} (hw : lw_24 S a1 a2 a3 a4 xs i K) : pw X cells slots S 1792 [(0, .ref b), (1, .ref a1), (2, .ref a2), (3, .ref a3), (4, .ref a4), (5, .int i)] [] := by
  unfold lw_24 at hw
  refine r_aload_n h 1 rfl rfl dL_law_1792 ?_
  refine r_aload_n h 0 rfl rfl dL_law_1793 ?_
  refine r_iload h 5 rfl dL_law_1794 ?_
  refine r_iconst h (v := 1) (by decide) dL_law_1796 ?_
  refine r_iadd h dL_law_1797 ?_
  refine r_sld h hsc hv1 dL_law_1798 ?_
  refine r_aload_n h 0 rfl rfl dL_law_1799 ?_
  refine r_iload h 5 rfl dL_law_1800 ?_
  refine r_iconst h (v := 2) (by decide) dL_law_1802 ?_
  refine r_iadd h dL_law_1803 ?_
  refine r_sld h hsc hv2 dL_law_1804 ?_
  refine r_aload_n h 3 rfl rfl dL_law_1805 ?_
  refine r_callSW h (fun l => c_L_awayFor l _ _ _ _ _ _ hw) q1113 q1114 q54 q1115 nd_L_awayFor ⟨by decide, by decide⟩ rfl rfl ⟨Nat.le_trans (by omega) hcs.1, Nat.le_trans (by omega) hcs.2⟩ (as := [.ref a1, .int (xs (Int32.toNatClampNeg (i + 1))), .int (xs (Int32.toNatClampNeg (i + 2))), .ref a3]) rfl (by first | decide | exact nl rfl) rfl dL_law_1806 nxk (kI fun r1 S2 hw => ?_)
  refine r_istore h [1, 2, 3, 4, 5, 6, 0] (by decide) rfl dL_law_1809 ?_
  refine r_aload_n h 2 rfl rfl dL_law_1811 ?_
  refine r_aload_n h 0 rfl rfl dL_law_1812 ?_
  refine r_iload h 5 rfl dL_law_1813 ?_
  refine r_iconst h (v := 1) (by decide) dL_law_1815 ?_
  refine r_iadd h dL_law_1816 ?_
  refine r_sld h hsc hv1 dL_law_1817 ?_
  refine r_aload_n h 0 rfl rfl dL_law_1818 ?_
  refine r_iload h 5 rfl dL_law_1819 ?_
  refine r_iconst h (v := 2) (by decide) dL_law_1821 ?_
  refine r_iadd h dL_law_1822 ?_
  refine r_sld h hsc hv2 dL_law_1823 ?_
  obtain ⟨h4, hw⟩ := hw
  refine r_callV h (fun l => c_X10_awayFor l _ _ _ _ _ hw) q1472 q1473 q1474 q64 q1475 nd_X10_awayFor ⟨by decide, by decide⟩ rfl rfl ⟨Nat.le_trans (by omega) hcs.1, Nat.le_trans (by omega) hcs.2⟩ kci11 rfl h4 rfl (by first | decide | exact nl rfl) rfl dL_law_1824 nxk (kI fun r5 S6 hw => ?_)
  refine r_istore h [1, 2, 3, 4, 5, 6, 7, 0] (by decide) rfl dL_law_1827 ?_
  refine r_aload_n h 2 rfl rfl dL_law_1829 ?_
  obtain ⟨h8, hw⟩ := hw
  refine r_callV h (fun l => c_X10_thrown l _ _ _ hw) q1260 q1261 q1262 q64 q1263 nd_X10_thrown ⟨by decide, by decide⟩ rfl rfl ⟨Nat.le_trans (by omega) hcs.1, Nat.le_trans (by omega) hcs.2⟩ kci11 rfl h8 rfl (by first | decide | exact nl rfl) rfl dL_law_1830 nxk (kI fun r9 S10 hw => ?_)
  refine r_iload h 6 rfl dL_law_1833 ?_
  refine r_icmp_eq h 1840 dL_law_1835 (by decide) (fun hc => ?_) (fun hc => ?_)
  · replace hw := hw.1 hc
    refine r_iload h 6 rfl dL_law_1840 ?_
    refine r_if_ne h 1857 dL_law_1842 (by decide) (fun hc => ?_) (fun hc => ?_)
    · replace hw := hw.1 hc
      refine r_goto h 2055 dL_law_1857 (by decide) ?_
      refine r_vs [0, 1, 2, 3, 4, 5] rfl ?_
      refine r_widen (k := cells + 8) (n := slots + 64) (by omega) (by omega) ?_
      exact hk _ hw
    · replace hw := hw.2 hc
      refine r_aload_n h 3 rfl rfl dL_law_1845 ?_
      refine r_iconst h (v := 0) (by decide) dL_law_1846 ?_
      obtain ⟨h12, hw⟩ := hw
      obtain ⟨h13, hw⟩ := hw
      refine r_lald h h12 h13 dL_law_1847 ?_
      refine r_iload h 7 rfl dL_law_1848 ?_
      refine r_i2l h dL_law_1850 ?_
      refine r_lcmp h dL_law_1851 ?_
      refine r_if_eq h 1857 dL_law_1852 (by decide) (fun hc => ?_) (fun hc => ?_)
      · replace hw := hw.1 hc
        refine r_goto h 2055 dL_law_1857 (by decide) ?_
        refine r_vs [0, 1, 2, 3, 4, 5] rfl ?_
        refine r_widen (k := cells + 8) (n := slots + 64) (by omega) (by omega) ?_
        exact hk _ hw
      · replace hw := hw.2 hc
        exact hw.elim
  · replace hw := hw.2 hc
    exact hw.elim
def lw_25 (S : St) (a1 a2 a3 a4 : Nat) (xs : Nat → Int32) (i : Int32) (K : St → Prop) : Prop := ok S a1 10 ∧ w_X9_planned S a1 (fun (r2 : Int32) (S3 : St) => ok S3 a2 11 ∧ w_X10_planned S3 a2 (fun (r6 : Int32) (S7 : St) => (((r2 = r6) → K S7) ∧ ((¬ r2 = r6) → False))))
set_option maxRecDepth 100000 in
set_option maxHeartbeats 4000000 in
theorem lc_25 {X : XE} {b L : Nat} {xs : Nat → Int32} (h : cy X RL "law" cL_law 9 (some .boolean) room_1 []) (hsc : scr X b L xs) {i : Int32} (hv1 : vp_in (i + 1) L) (hv2 : vp_in (i + 2) L) (hv3 : vp_in (i + 3) L) (hv4 : vp_in (i + 4) L) (hv5 : vp_in (i + 5) L) (hv6 : vp_in (i + 6) L) {cells slots : Nat} (hcs : cells + 8 ≤ room_1.cells ∧ slots + 64 ≤ room_1.slots) {K : St → Prop} {a1 a2 a3 a4 : Nat} (hk : ∀ S : St, K S → pw X (cells + 8) (slots + 64) S 2055 [(0, .ref b), (1, .ref a1), (2, .ref a2), (3, .ref a3), (4, .ref a4), (5, .int i)] []) {S : St} (hw : lw_25 S a1 a2 a3 a4 xs i K) : pw X cells slots S 1860 [(0, .ref b), (1, .ref a1), (2, .ref a2), (3, .ref a3), (4, .ref a4), (5, .int i)] [] := by
  unfold lw_25 at hw
  refine r_aload_n h 1 rfl rfl dL_law_1860 ?_
  obtain ⟨h1, hw⟩ := hw
  refine r_callV h (fun l => c_X9_planned l _ _ _ hw) q246 q247 q248 q55 q249 nd_X9_planned ⟨by decide, by decide⟩ rfl rfl ⟨Nat.le_trans (by omega) hcs.1, Nat.le_trans (by omega) hcs.2⟩ kci10 rfl h1 rfl (by first | decide | exact nl rfl) rfl dL_law_1861 nxk (kI fun r2 S3 hw => ?_)
  refine r_aload_n h 2 rfl rfl dL_law_1864 ?_
  obtain ⟨h5, hw⟩ := hw
  refine r_callV h (fun l => c_X10_planned l _ _ _ hw) q1476 q1477 q1478 q64 q1479 nd_X10_planned ⟨by decide, by decide⟩ rfl rfl ⟨Nat.le_trans (by omega) hcs.1, Nat.le_trans (by omega) hcs.2⟩ kci11 rfl h5 rfl (by first | decide | exact nl rfl) rfl dL_law_1865 nxk (kI fun r6 S7 hw => ?_)
  refine r_icmp_eq h 2055 dL_law_1868 (by decide) (fun hc => ?_) (fun hc => ?_)
  · replace hw := hw.1 hc
    refine r_widen (k := cells + 8) (n := slots + 64) (by omega) (by omega) ?_
    exact hk _ hw
  · replace hw := hw.2 hc
    exact hw.elim
def lw_26 (S : St) (a1 a2 a3 a4 : Nat) (xs : Nat → Int32) (i : Int32) (K : St → Prop) : Prop := ok S a1 10 ∧ w_X9_insured S a1 (fun (r2 : Int64) (S3 : St) => ok S3 a2 11 ∧ w_X10_insured S3 a2 (fun (r6 : Int64) (S7 : St) => ((((lg_cmp r2 r6) = 0) → K S7) ∧ ((¬ (lg_cmp r2 r6) = 0) → False))))
set_option maxRecDepth 100000 in
set_option maxHeartbeats 4000000 in
theorem lc_26 {X : XE} {b L : Nat} {xs : Nat → Int32} (h : cy X RL "law" cL_law 9 (some .boolean) room_1 []) (hsc : scr X b L xs) {i : Int32} (hv1 : vp_in (i + 1) L) (hv2 : vp_in (i + 2) L) (hv3 : vp_in (i + 3) L) (hv4 : vp_in (i + 4) L) (hv5 : vp_in (i + 5) L) (hv6 : vp_in (i + 6) L) {cells slots : Nat} (hcs : cells + 8 ≤ room_1.cells ∧ slots + 64 ≤ room_1.slots) {K : St → Prop} {a1 a2 a3 a4 : Nat} (hk : ∀ S : St, K S → pw X (cells + 8) (slots + 64) S 2055 [(0, .ref b), (1, .ref a1), (2, .ref a2), (3, .ref a3), (4, .ref a4), (5, .int i)] []) {S : St} (hw : lw_26 S a1 a2 a3 a4 xs i K) : pw X cells slots S 1873 [(0, .ref b), (1, .ref a1), (2, .ref a2), (3, .ref a3), (4, .ref a4), (5, .int i)] [] := by
  unfold lw_26 at hw
  refine r_aload_n h 1 rfl rfl dL_law_1873 ?_
  obtain ⟨h1, hw⟩ := hw
  refine r_callV h (fun l => c_X9_insured l _ _ _ hw) q250 q251 q252 q55 q253 nd_X9_insured ⟨by decide, by decide⟩ rfl rfl ⟨Nat.le_trans (by omega) hcs.1, Nat.le_trans (by omega) hcs.2⟩ kci10 rfl h1 rfl (by first | decide | exact nl rfl) rfl dL_law_1874 nxk (kJ fun r2 S3 hw => ?_)
  refine r_aload_n h 2 rfl rfl dL_law_1877 ?_
  obtain ⟨h5, hw⟩ := hw
  refine r_callV h (fun l => c_X10_insured l _ _ _ hw) q1480 q1481 q1482 q64 q1483 nd_X10_insured ⟨by decide, by decide⟩ rfl rfl ⟨Nat.le_trans (by omega) hcs.1, Nat.le_trans (by omega) hcs.2⟩ kci11 rfl h5 rfl (by first | decide | exact nl rfl) rfl dL_law_1878 nxk (kJ fun r6 S7 hw => ?_)
  refine r_lcmp h dL_law_1881 ?_
  refine r_if_eq h 2055 dL_law_1882 (by decide) (fun hc => ?_) (fun hc => ?_)
  · replace hw := hw.1 hc
    refine r_widen (k := cells + 8) (n := slots + 64) (by omega) (by omega) ?_
    exact hk _ hw
  · replace hw := hw.2 hc
    exact hw.elim
def lw_27 (S : St) (a1 a2 a3 a4 : Nat) (xs : Nat → Int32) (i : Int32) (K : St → Prop) : Prop := w_L_meanWorks S a1 a4 (fun (r1 : Int32) (S2 : St) => ok S2 a2 11 ∧ w_X10_meanWorks S2 a2 (fun (r5 : UInt64) (S6 : St) => ok S6 a2 11 ∧ w_X10_thrown S6 a2 (fun (r9 : Int32) (S10 : St) => (((r9 = r1) → (((¬ r1 = 0) → K S10) ∧ ((r1 = 0) → ok S10 a4 104 ∧ vp_in 0 (sN S10 a4) ∧ ((((Op.cmpValue (FP.dcmp (sE S10 a4 (Int32.toNatClampNeg 0)) r5) .l) = 0) → K S10) ∧ ((¬ (Op.cmpValue (FP.dcmp (sE S10 a4 (Int32.toNatClampNeg 0)) r5) .l) = 0) → False))))) ∧ ((¬ r9 = r1) → False)))))
set_option maxRecDepth 100000 in
set_option maxHeartbeats 4000000 in
theorem lc_27 {X : XE} {b L : Nat} {xs : Nat → Int32} (h : cy X RL "law" cL_law 9 (some .boolean) room_1 []) (hsc : scr X b L xs) {i : Int32} (hv1 : vp_in (i + 1) L) (hv2 : vp_in (i + 2) L) (hv3 : vp_in (i + 3) L) (hv4 : vp_in (i + 4) L) (hv5 : vp_in (i + 5) L) (hv6 : vp_in (i + 6) L) {cells slots : Nat} (hcs : cells + 8 ≤ room_1.cells ∧ slots + 64 ≤ room_1.slots) {K : St → Prop} {a1 a2 a3 a4 : Nat} (hk : ∀ S : St, K S → pw X (cells + 8) (slots + 64) S 2055 [(0, .ref b), (1, .ref a1), (2, .ref a2), (3, .ref a3), (4, .ref a4), (5, .int i)] []) {S : St} (hw : lw_27 S a1 a2 a3 a4 xs i K) : pw X cells slots S 1887 [(0, .ref b), (1, .ref a1), (2, .ref a2), (3, .ref a3), (4, .ref a4), (5, .int i)] [] := by
  unfold lw_27 at hw
  refine r_aload_n h 1 rfl rfl dL_law_1887 ?_
  refine r_aload h 4 rfl dL_law_1888 ?_
  refine r_callSW h (fun l => c_L_meanWorks l _ _ _ _ hw) q1126 q1127 q54 q1128 nd_L_meanWorks ⟨by decide, by decide⟩ rfl rfl ⟨Nat.le_trans (by omega) hcs.1, Nat.le_trans (by omega) hcs.2⟩ (as := [.ref a1, .ref a4]) rfl (by first | decide | exact nl rfl) rfl dL_law_1890 nxk (kI fun r1 S2 hw => ?_)
  refine r_istore h [1, 2, 3, 4, 5, 6, 0] (by decide) rfl dL_law_1893 ?_
  refine r_aload_n h 2 rfl rfl dL_law_1895 ?_
  obtain ⟨h4, hw⟩ := hw
  refine r_callV h (fun l => c_X10_meanWorks l _ _ _ hw) q1484 q1485 q1486 q64 q1487 nd_X10_meanWorks ⟨by decide, by decide⟩ rfl rfl ⟨Nat.le_trans (by omega) hcs.1, Nat.le_trans (by omega) hcs.2⟩ kci11 rfl h4 rfl (by first | decide | exact nl rfl) rfl dL_law_1896 nxk (kD fun r5 S6 hw => ?_)
  refine r_dstore h [1, 2, 3, 4, 5, 6, 7, 0] (by decide) rfl dL_law_1899 ?_
  refine r_aload_n h 2 rfl rfl dL_law_1901 ?_
  obtain ⟨h8, hw⟩ := hw
  refine r_callV h (fun l => c_X10_thrown l _ _ _ hw) q1260 q1261 q1262 q64 q1263 nd_X10_thrown ⟨by decide, by decide⟩ rfl rfl ⟨Nat.le_trans (by omega) hcs.1, Nat.le_trans (by omega) hcs.2⟩ kci11 rfl h8 rfl (by first | decide | exact nl rfl) rfl dL_law_1902 nxk (kI fun r9 S10 hw => ?_)
  refine r_iload h 6 rfl dL_law_1905 ?_
  refine r_icmp_eq h 1912 dL_law_1907 (by decide) (fun hc => ?_) (fun hc => ?_)
  · replace hw := hw.1 hc
    refine r_iload h 6 rfl dL_law_1912 ?_
    refine r_if_ne h 1949 dL_law_1914 (by decide) (fun hc => ?_) (fun hc => ?_)
    · replace hw := hw.1 hc
      refine r_goto h 2055 dL_law_1949 (by decide) ?_
      refine r_vs [0, 1, 2, 3, 4, 5] rfl ?_
      refine r_widen (k := cells + 8) (n := slots + 64) (by omega) (by omega) ?_
      exact hk _ hw
    · replace hw := hw.2 hc
      refine r_aload h 4 rfl dL_law_1917 ?_
      refine r_iconst h (v := 0) (by decide) dL_law_1919 ?_
      obtain ⟨h12, hw⟩ := hw
      obtain ⟨h13, hw⟩ := hw
      refine r_dald h h12 h13 dL_law_1920 ?_
      refine r_dload h 7 rfl dL_law_1921 ?_
      refine r_dcmp h dL_law_1923 ?_
      refine r_if_eq h 1949 dL_law_1924 (by decide) (fun hc => ?_) (fun hc => ?_)
      · replace hw := hw.1 hc
        refine r_goto h 2055 dL_law_1949 (by decide) ?_
        refine r_vs [0, 1, 2, 3, 4, 5] rfl ?_
        refine r_widen (k := cells + 8) (n := slots + 64) (by omega) (by omega) ?_
        exact hk _ hw
      · replace hw := hw.2 hc
        exact hw.elim
  · replace hw := hw.2 hc
    exact hw.elim
def lw_28 (S : St) (a1 a2 a3 a4 : Nat) (xs : Nat → Int32) (i : Int32) (K : St → Prop) : Prop := w_L_share S a1 (xs (Int32.toNatClampNeg (i + 1))) (xs (Int32.toNatClampNeg (i + 2))) a4 (fun (r1 : Int32) (S2 : St) => ok S2 a2 11 ∧ w_X10_share S2 a2 (xs (Int32.toNatClampNeg (i + 1))) (xs (Int32.toNatClampNeg (i + 2))) (fun (r5 : UInt32) (S6 : St) => ok S6 a2 11 ∧ w_X10_thrown S6 a2 (fun (r9 : Int32) (S10 : St) => (((r9 = r1) → (((¬ r1 = 0) → K S10) ∧ ((r1 = 0) → ok S10 a4 104 ∧ vp_in 0 (sN S10 a4) ∧ vf_n64 (FP.f2d r5) ∧ ((((Op.cmpValue (FP.dcmp (sE S10 a4 (Int32.toNatClampNeg 0)) (FP.f2d r5)) .l) = 0) → K S10) ∧ ((¬ (Op.cmpValue (FP.dcmp (sE S10 a4 (Int32.toNatClampNeg 0)) (FP.f2d r5)) .l) = 0) → False))))) ∧ ((¬ r9 = r1) → False)))))
set_option maxRecDepth 100000 in
set_option maxHeartbeats 4000000 in
theorem lc_28 {X : XE} {b L : Nat} {xs : Nat → Int32} (h : cy X RL "law" cL_law 9 (some .boolean) room_1 []) (hsc : scr X b L xs) {i : Int32} (hv1 : vp_in (i + 1) L) (hv2 : vp_in (i + 2) L) (hv3 : vp_in (i + 3) L) (hv4 : vp_in (i + 4) L) (hv5 : vp_in (i + 5) L) (hv6 : vp_in (i + 6) L) {cells slots : Nat} (hcs : cells + 8 ≤ room_1.cells ∧ slots + 64 ≤ room_1.slots) {K : St → Prop} {a1 a2 a3 a4 : Nat} (hk : ∀ S : St, K S → pw X (cells + 8) (slots + 64) S 2055 [(0, .ref b), (1, .ref a1), (2, .ref a2), (3, .ref a3), (4, .ref a4), (5, .int i)] []) {S : St} (hw : lw_28 S a1 a2 a3 a4 xs i K) : pw X cells slots S 1952 [(0, .ref b), (1, .ref a1), (2, .ref a2), (3, .ref a3), (4, .ref a4), (5, .int i)] [] := by
  unfold lw_28 at hw
  refine r_aload_n h 1 rfl rfl dL_law_1952 ?_
  refine r_aload_n h 0 rfl rfl dL_law_1953 ?_
  refine r_iload h 5 rfl dL_law_1954 ?_
  refine r_iconst h (v := 1) (by decide) dL_law_1956 ?_
  refine r_iadd h dL_law_1957 ?_
  refine r_sld h hsc hv1 dL_law_1958 ?_
  refine r_aload_n h 0 rfl rfl dL_law_1959 ?_
  refine r_iload h 5 rfl dL_law_1960 ?_
  refine r_iconst h (v := 2) (by decide) dL_law_1962 ?_
  refine r_iadd h dL_law_1963 ?_
  refine r_sld h hsc hv2 dL_law_1964 ?_
  refine r_aload h 4 rfl dL_law_1965 ?_
  refine r_callSW h (fun l => c_L_share l _ _ _ _ _ _ hw) q1158 q1159 q54 q1160 nd_L_share ⟨by decide, by decide⟩ rfl rfl ⟨Nat.le_trans (by omega) hcs.1, Nat.le_trans (by omega) hcs.2⟩ (as := [.ref a1, .int (xs (Int32.toNatClampNeg (i + 1))), .int (xs (Int32.toNatClampNeg (i + 2))), .ref a4]) rfl (by first | decide | exact nl rfl) rfl dL_law_1967 nxk (kI fun r1 S2 hw => ?_)
  refine r_istore h [1, 2, 3, 4, 5, 6, 0] (by decide) rfl dL_law_1970 ?_
  refine r_aload_n h 2 rfl rfl dL_law_1972 ?_
  refine r_aload_n h 0 rfl rfl dL_law_1973 ?_
  refine r_iload h 5 rfl dL_law_1974 ?_
  refine r_iconst h (v := 1) (by decide) dL_law_1976 ?_
  refine r_iadd h dL_law_1977 ?_
  refine r_sld h hsc hv1 dL_law_1978 ?_
  refine r_aload_n h 0 rfl rfl dL_law_1979 ?_
  refine r_iload h 5 rfl dL_law_1980 ?_
  refine r_iconst h (v := 2) (by decide) dL_law_1982 ?_
  refine r_iadd h dL_law_1983 ?_
  refine r_sld h hsc hv2 dL_law_1984 ?_
  obtain ⟨h4, hw⟩ := hw
  refine r_callV h (fun l => c_X10_share l _ _ _ _ _ hw) q1488 q1489 q1490 q64 q1491 nd_X10_share ⟨by decide, by decide⟩ rfl rfl ⟨Nat.le_trans (by omega) hcs.1, Nat.le_trans (by omega) hcs.2⟩ kci11 rfl h4 rfl (by first | decide | exact nl rfl) rfl dL_law_1985 nxk (kF fun r5 S6 hw => ?_)
  refine r_fstore h [1, 2, 3, 4, 5, 6, 7, 0] (by decide) rfl dL_law_1988 ?_
  refine r_aload_n h 2 rfl rfl dL_law_1990 ?_
  obtain ⟨h8, hw⟩ := hw
  refine r_callV h (fun l => c_X10_thrown l _ _ _ hw) q1260 q1261 q1262 q64 q1263 nd_X10_thrown ⟨by decide, by decide⟩ rfl rfl ⟨Nat.le_trans (by omega) hcs.1, Nat.le_trans (by omega) hcs.2⟩ kci11 rfl h8 rfl (by first | decide | exact nl rfl) rfl dL_law_1991 nxk (kI fun r9 S10 hw => ?_)
  refine r_iload h 6 rfl dL_law_1994 ?_
  refine r_icmp_eq h 2001 dL_law_1996 (by decide) (fun hc => ?_) (fun hc => ?_)
  · replace hw := hw.1 hc
    refine r_iload h 6 rfl dL_law_2001 ?_
    refine r_if_ne h 2039 dL_law_2003 (by decide) (fun hc => ?_) (fun hc => ?_)
    · replace hw := hw.1 hc
      refine r_goto h 2055 dL_law_2039 (by decide) ?_
      refine r_vs [0, 1, 2, 3, 4, 5] rfl ?_
      refine r_widen (k := cells + 8) (n := slots + 64) (by omega) (by omega) ?_
      exact hk _ hw
    · replace hw := hw.2 hc
      refine r_aload h 4 rfl dL_law_2006 ?_
      refine r_iconst h (v := 0) (by decide) dL_law_2008 ?_
      obtain ⟨h12, hw⟩ := hw
      obtain ⟨h13, hw⟩ := hw
      refine r_dald h h12 h13 dL_law_2009 ?_
      refine r_fload h 7 rfl dL_law_2010 ?_
      obtain ⟨h14, hw⟩ := hw
      refine r_f2d h h14 dL_law_2012 ?_
      refine r_dcmp h dL_law_2013 ?_
      refine r_if_eq h 2039 dL_law_2014 (by decide) (fun hc => ?_) (fun hc => ?_)
      · replace hw := hw.1 hc
        refine r_goto h 2055 dL_law_2039 (by decide) ?_
        refine r_vs [0, 1, 2, 3, 4, 5] rfl ?_
        refine r_widen (k := cells + 8) (n := slots + 64) (by omega) (by omega) ?_
        exact hk _ hw
      · replace hw := hw.2 hc
        exact hw.elim
  · replace hw := hw.2 hc
    exact hw.elim
def lw_29 (S : St) (a1 a2 a3 a4 : Nat) (xs : Nat → Int32) (i : Int32) (K : St → Prop) : Prop := ok S a1 10 ∧ w_X9_isSafe S a1 (fun (r2 : Int32) (S3 : St) => ok S3 a2 11 ∧ w_X10_isSafe S3 a2 (fun (r6 : Int32) (S7 : St) => (((r2 = r6) → K S7) ∧ ((¬ r2 = r6) → False))))
set_option maxRecDepth 100000 in
set_option maxHeartbeats 4000000 in
theorem lc_29 {X : XE} {b L : Nat} {xs : Nat → Int32} (h : cy X RL "law" cL_law 9 (some .boolean) room_1 []) (hsc : scr X b L xs) {i : Int32} (hv1 : vp_in (i + 1) L) (hv2 : vp_in (i + 2) L) (hv3 : vp_in (i + 3) L) (hv4 : vp_in (i + 4) L) (hv5 : vp_in (i + 5) L) (hv6 : vp_in (i + 6) L) {cells slots : Nat} (hcs : cells + 8 ≤ room_1.cells ∧ slots + 64 ≤ room_1.slots) {K : St → Prop} {a1 a2 a3 a4 : Nat} (hk : ∀ S : St, K S → pw X (cells + 8) (slots + 64) S 2055 [(0, .ref b), (1, .ref a1), (2, .ref a2), (3, .ref a3), (4, .ref a4), (5, .int i)] []) {S : St} (hw : lw_29 S a1 a2 a3 a4 xs i K) : pw X cells slots S 2042 [(0, .ref b), (1, .ref a1), (2, .ref a2), (3, .ref a3), (4, .ref a4), (5, .int i)] [] := by
  unfold lw_29 at hw
  refine r_aload_n h 1 rfl rfl dL_law_2042 ?_
  obtain ⟨h1, hw⟩ := hw
  refine r_callV h (fun l => c_X9_isSafe l _ _ _ hw) q289 q290 q291 q55 q292 nd_X9_isSafe ⟨by decide, by decide⟩ rfl rfl ⟨Nat.le_trans (by omega) hcs.1, Nat.le_trans (by omega) hcs.2⟩ kci10 rfl h1 rfl (by first | decide | exact nl rfl) rfl dL_law_2043 nxk (kI fun r2 S3 hw => ?_)
  refine r_aload_n h 2 rfl rfl dL_law_2046 ?_
  obtain ⟨h5, hw⟩ := hw
  refine r_callV h (fun l => c_X10_isSafe l _ _ _ hw) q1492 q1493 q1494 q64 q1495 nd_X10_isSafe ⟨by decide, by decide⟩ rfl rfl ⟨Nat.le_trans (by omega) hcs.1, Nat.le_trans (by omega) hcs.2⟩ kci11 rfl h5 rfl (by first | decide | exact nl rfl) rfl dL_law_2047 nxk (kI fun r6 S7 hw => ?_)
  refine r_icmp_eq h 2055 dL_law_2050 (by decide) (fun hc => ?_) (fun hc => ?_)
  · replace hw := hw.1 hc
    refine r_widen (k := cells + 8) (n := slots + 64) (by omega) (by omega) ?_
    exact hk _ hw
  · replace hw := hw.2 hc
    exact hw.elim
