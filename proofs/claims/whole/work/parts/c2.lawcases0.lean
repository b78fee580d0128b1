set_option maxRecDepth 100000 in
set_option maxHeartbeats 4000000 in
theorem lv_c0 {x : Cx} {z z1 z2 : Sx} {b Ln cn sn : Nat} {xs : Nat → Int32} {Q : State → Prop} (X : X2 x z z1 z2 code 4 20 487 b Ln xs) (hZ1 : z1.2.2.2.1 = kdC) (hZ2 : z2.2.2.2.1 = kdM) (hk1 : z1.2.2.2.1 0 = (11, 0)) (hk2 : z2.2.2.2.1 0 = (12, 0)) (hcr : ∀ R : Room, (match x with | (_, _, _, R', _) => R') = R → cn ≤ R.cells ∧ sn ≤ R.slots) (N : Nat) (rc : Int32 → Mem → Mem → Option Int32) (hrec : ∀ (v3 : Int32) (σ1 σ2 : Mem), V2 x z z1 z2 4 cn sn Q 2049 [(0, .ref b), (1, .ref (z1.2.2.1 0)), (2, .ref (z2.2.2.1 0)), (3, .int v3)] [] σ1 σ2 (rc v3 σ1 σ2)) (v3 : Int32) (σ1 σ2 : Mem) : V2 x z z1 z2 4 cn sn Q 220 [(0, .ref b), (1, .ref (z1.2.2.1 0)), (2, .ref (z2.2.2.1 0)), (3, .int v3)] [] σ1 σ2 (lw_c0 N xs Ln rc v3 σ1 σ2) := by
  unfold lw_c0
  refine V2_aload_n 1 X dL_law_220 rfl rfl ?_
  refine V2_aload_n 0 X dL_law_221 rfl rfl ?_
  refine V2_iload_n 3 X dL_law_222 rfl rfl ?_
  refine V2_iconst (v := 1) X dL_law_223 (by decide) ?_
  refine V2_iadd X dL_law_224 ?_
  refine V2_sld X dL_law_225 ?_
  refine V2_aload_n 0 X dL_law_226 rfl rfl ?_
  refine V2_iload_n 3 X dL_law_227 rfl rfl ?_
  refine V2_iconst (v := 2) X dL_law_228 (by decide) ?_
  refine V2_iadd X dL_law_229 ?_
  refine V2_sld X dL_law_230 ?_
  refine V2_aload_n 0 X dL_law_231 rfl rfl ?_
  refine V2_iload_n 3 X dL_law_232 rfl rfl ?_
  refine V2_iconst (v := 3) X dL_law_233 (by decide) ?_
  refine V2_iadd X dL_law_234 ?_
  refine V2_sld X dL_law_235 ?_
  refine V2_aload_n 0 X dL_law_236 rfl rfl ?_
  refine V2_iload_n 3 X dL_law_237 rfl rfl ?_
  refine V2_iconst (v := 4) X dL_law_238 (by decide) ?_
  refine V2_iadd X dL_law_239 ?_
  refine V2_sld X dL_law_240 ?_
  refine V2_aload_n 0 X dL_law_241 rfl rfl ?_
  refine V2_iload_n 3 X dL_law_242 rfl rfl ?_
  refine V2_iconst (v := 5) X dL_law_243 (by decide) ?_
  refine V2_iadd X dL_law_244 ?_
  refine V2_sld X dL_law_245 ?_
  refine V2_callI1 [.int (xs (v3 + 1).toNatClampNeg), .int (xs (v3 + 2).toNatClampNeg), .int (xs (v3 + 3).toNatClampNeg), .int (xs (v3 + 4).toNatClampNeg), .int (xs (v3 + 5).toNatClampNeg)] [] X dL_law_246 (kX11_feed x.2.1 z1 hZ1 N 0 hk1 (xs (v3 + 1).toNatClampNeg) (xs (v3 + 2).toNatClampNeg) (xs (v3 + 3).toNatClampNeg) (xs (v3 + 4).toNatClampNeg) (xs (v3 + 5).toNatClampNeg) σ1) co11 hk1 gcL_13 hyL_X11_feed rfl ⟨by decide, by decide⟩ rfl (Nat.le_of_ble_eq_true rfl) hcr (fun r1 s2 => ?_)
  refine V2_aload_n 2 X dL_law_249 rfl rfl ?_
  refine V2_aload_n 0 X dL_law_250 rfl rfl ?_
  refine V2_iload_n 3 X dL_law_251 rfl rfl ?_
  refine V2_iconst (v := 1) X dL_law_252 (by decide) ?_
  refine V2_iadd X dL_law_253 ?_
  refine V2_sld X dL_law_254 ?_
  refine V2_aload_n 0 X dL_law_255 rfl rfl ?_
  refine V2_iload_n 3 X dL_law_256 rfl rfl ?_
  refine V2_iconst (v := 2) X dL_law_257 (by decide) ?_
  refine V2_iadd X dL_law_258 ?_
  refine V2_sld X dL_law_259 ?_
  refine V2_aload_n 0 X dL_law_260 rfl rfl ?_
  refine V2_iload_n 3 X dL_law_261 rfl rfl ?_
  refine V2_iconst (v := 3) X dL_law_262 (by decide) ?_
  refine V2_iadd X dL_law_263 ?_
  refine V2_sld X dL_law_264 ?_
  refine V2_aload_n 0 X dL_law_265 rfl rfl ?_
  refine V2_iload_n 3 X dL_law_266 rfl rfl ?_
  refine V2_iconst (v := 4) X dL_law_267 (by decide) ?_
  refine V2_iadd X dL_law_268 ?_
  refine V2_sld X dL_law_269 ?_
  refine V2_aload_n 0 X dL_law_270 rfl rfl ?_
  refine V2_iload_n 3 X dL_law_271 rfl rfl ?_
  refine V2_iconst (v := 5) X dL_law_272 (by decide) ?_
  refine V2_iadd X dL_law_273 ?_
  refine V2_sld X dL_law_274 ?_
  refine V2_callI2 [.int (xs (v3 + 1).toNatClampNeg), .int (xs (v3 + 2).toNatClampNeg), .int (xs (v3 + 3).toNatClampNeg), .int (xs (v3 + 4).toNatClampNeg), .int (xs (v3 + 5).toNatClampNeg)] [.int r1] X dL_law_275 (kX12_feed x.2.1 z2 hZ2 N (xs (v3 + 1).toNatClampNeg) (xs (v3 + 2).toNatClampNeg) (xs (v3 + 3).toNatClampNeg) (xs (v3 + 4).toNatClampNeg) (xs (v3 + 5).toNatClampNeg) σ2) co12 hk2 gcL_17 hyL_X12_feed rfl ⟨by decide, by decide⟩ rfl (Nat.le_of_ble_eq_true rfl) hcr (fun r3 s4 => ?_)
  refine V2_icmp_eq (tgt := 2049) X dL_law_278 (by decide) ?_ ?_
  · exact hrec v3 s2 s4
  · refine V2_iconst (v := 0) X dL_law_281 (by decide) ?_
    exact fun q => absurd q (by decide)
set_option maxRecDepth 100000 in
set_option maxHeartbeats 4000000 in
theorem lv_c1 {x : Cx} {z z1 z2 : Sx} {b Ln cn sn : Nat} {xs : Nat → Int32} {Q : State → Prop} (X : X2 x z z1 z2 code 4 20 487 b Ln xs) (hZ1 : z1.2.2.2.1 = kdC) (hZ2 : z2.2.2.2.1 = kdM) (hk1 : z1.2.2.2.1 0 = (11, 0)) (hk2 : z2.2.2.2.1 0 = (12, 0)) (hcr : ∀ R : Room, (match x with | (_, _, _, R', _) => R') = R → cn ≤ R.cells ∧ sn ≤ R.slots) (N : Nat) (rc : Int32 → Mem → Mem → Option Int32) (hrec : ∀ (v3 : Int32) (σ1 σ2 : Mem), V2 x z z1 z2 4 cn sn Q 2049 [(0, .ref b), (1, .ref (z1.2.2.1 0)), (2, .ref (z2.2.2.1 0)), (3, .int v3)] [] σ1 σ2 (rc v3 σ1 σ2)) (v3 : Int32) (σ1 σ2 : Mem) : V2 x z z1 z2 4 cn sn Q 283 [(0, .ref b), (1, .ref (z1.2.2.1 0)), (2, .ref (z2.2.2.1 0)), (3, .int v3)] [] σ1 σ2 (lw_c1 N xs Ln rc v3 σ1 σ2) := by
  unfold lw_c1
  refine V2_aload_n 1 X dL_law_283 rfl rfl ?_
  refine V2_aload_n 0 X dL_law_284 rfl rfl ?_
  refine V2_iload_n 3 X dL_law_285 rfl rfl ?_
  refine V2_iconst (v := 1) X dL_law_286 (by decide) ?_
  refine V2_iadd X dL_law_287 ?_
  refine V2_sld X dL_law_288 ?_
  refine V2_callI1 [.int (xs (v3 + 1).toNatClampNeg)] [] X dL_law_289 (kX11_end x.2.1 z1 hZ1 N 0 hk1 (xs (v3 + 1).toNatClampNeg) σ1) co11 hk1 gcL_18 hyL_X11_end rfl ⟨by decide, by decide⟩ rfl (Nat.le_of_ble_eq_true rfl) hcr (fun r1 s2 => ?_)
  refine V2_aload_n 2 X dL_law_292 rfl rfl ?_
  refine V2_aload_n 0 X dL_law_293 rfl rfl ?_
  refine V2_iload_n 3 X dL_law_294 rfl rfl ?_
  refine V2_iconst (v := 1) X dL_law_295 (by decide) ?_
  refine V2_iadd X dL_law_296 ?_
  refine V2_sld X dL_law_297 ?_
  refine V2_callI2 [.int (xs (v3 + 1).toNatClampNeg)] [.int r1] X dL_law_298 (kX12_end x.2.1 z2 hZ2 N (xs (v3 + 1).toNatClampNeg) σ2) co12 hk2 gcL_22 hyL_X12_end rfl ⟨by decide, by decide⟩ rfl (Nat.le_of_ble_eq_true rfl) hcr (fun r3 s4 => ?_)
  refine V2_icmp_eq (tgt := 2049) X dL_law_301 (by decide) ?_ ?_
  · exact hrec v3 s2 s4
  · refine V2_iconst (v := 0) X dL_law_304 (by decide) ?_
    exact fun q => absurd q (by decide)
set_option maxRecDepth 100000 in
set_option maxHeartbeats 4000000 in
theorem lv_c2 {x : Cx} {z z1 z2 : Sx} {b Ln cn sn : Nat} {xs : Nat → Int32} {Q : State → Prop} (X : X2 x z z1 z2 code 4 20 487 b Ln xs) (hZ1 : z1.2.2.2.1 = kdC) (hZ2 : z2.2.2.2.1 = kdM) (hk1 : z1.2.2.2.1 0 = (11, 0)) (hk2 : z2.2.2.2.1 0 = (12, 0)) (hcr : ∀ R : Room, (match x with | (_, _, _, R', _) => R') = R → cn ≤ R.cells ∧ sn ≤ R.slots) (N : Nat) (rc : Int32 → Mem → Mem → Option Int32) (hrec : ∀ (v3 : Int32) (σ1 σ2 : Mem), V2 x z z1 z2 4 cn sn Q 2049 [(0, .ref b), (1, .ref (z1.2.2.1 0)), (2, .ref (z2.2.2.1 0)), (3, .int v3)] [] σ1 σ2 (rc v3 σ1 σ2)) (v3 : Int32) (σ1 σ2 : Mem) : V2 x z z1 z2 4 cn sn Q 306 [(0, .ref b), (1, .ref (z1.2.2.1 0)), (2, .ref (z2.2.2.1 0)), (3, .int v3)] [] σ1 σ2 (lw_c2 N xs Ln rc v3 σ1 σ2) := by
  unfold lw_c2
  refine V2_aload_n 1 X dL_law_306 rfl rfl ?_
  refine V2_aload_n 0 X dL_law_307 rfl rfl ?_
  refine V2_iload_n 3 X dL_law_308 rfl rfl ?_
  refine V2_iconst (v := 1) X dL_law_309 (by decide) ?_
  refine V2_iadd X dL_law_310 ?_
  refine V2_sld X dL_law_311 ?_
  refine V2_aload_n 0 X dL_law_312 rfl rfl ?_
  refine V2_iload_n 3 X dL_law_313 rfl rfl ?_
  refine V2_iconst (v := 2) X dL_law_314 (by decide) ?_
  refine V2_iadd X dL_law_315 ?_
  refine V2_sld X dL_law_316 ?_
  refine V2_callI1 [.int (xs (v3 + 1).toNatClampNeg), .int (xs (v3 + 2).toNatClampNeg)] [] X dL_law_317 (kX11_text x.2.1 z1 hZ1 N 0 hk1 (xs (v3 + 1).toNatClampNeg) (xs (v3 + 2).toNatClampNeg) σ1) co11 hk1 gcL_23 hyL_X11_text rfl ⟨by decide, by decide⟩ rfl (Nat.le_of_ble_eq_true rfl) hcr (fun r1 s2 => ?_)
  refine V2_aload_n 2 X dL_law_320 rfl rfl ?_
  refine V2_aload_n 0 X dL_law_321 rfl rfl ?_
  refine V2_iload_n 3 X dL_law_322 rfl rfl ?_
  refine V2_iconst (v := 1) X dL_law_323 (by decide) ?_
  refine V2_iadd X dL_law_324 ?_
  refine V2_sld X dL_law_325 ?_
  refine V2_aload_n 0 X dL_law_326 rfl rfl ?_
  refine V2_iload_n 3 X dL_law_327 rfl rfl ?_
  refine V2_iconst (v := 2) X dL_law_328 (by decide) ?_
  refine V2_iadd X dL_law_329 ?_
  refine V2_sld X dL_law_330 ?_
  refine V2_callI2 [.int (xs (v3 + 1).toNatClampNeg), .int (xs (v3 + 2).toNatClampNeg)] [.int r1] X dL_law_331 (kX12_text x.2.1 z2 hZ2 N (xs (v3 + 1).toNatClampNeg) (xs (v3 + 2).toNatClampNeg) σ2) co12 hk2 gcL_27 hyL_X12_text rfl ⟨by decide, by decide⟩ rfl (Nat.le_of_ble_eq_true rfl) hcr (fun r3 s4 => ?_)
  refine V2_icmp_eq (tgt := 2049) X dL_law_334 (by decide) ?_ ?_
  · exact hrec v3 s2 s4
  · refine V2_iconst (v := 0) X dL_law_337 (by decide) ?_
    exact fun q => absurd q (by decide)
set_option maxRecDepth 100000 in
set_option maxHeartbeats 4000000 in
theorem lv_c3 {x : Cx} {z z1 z2 : Sx} {b Ln cn sn : Nat} {xs : Nat → Int32} {Q : State → Prop} (X : X2 x z z1 z2 code 4 20 487 b Ln xs) (hZ1 : z1.2.2.2.1 = kdC) (hZ2 : z2.2.2.2.1 = kdM) (hk1 : z1.2.2.2.1 0 = (11, 0)) (hk2 : z2.2.2.2.1 0 = (12, 0)) (hcr : ∀ R : Room, (match x with | (_, _, _, R', _) => R') = R → cn ≤ R.cells ∧ sn ≤ R.slots) (N : Nat) (rc : Int32 → Mem → Mem → Option Int32) (hrec : ∀ (v3 : Int32) (σ1 σ2 : Mem), V2 x z z1 z2 4 cn sn Q 2049 [(0, .ref b), (1, .ref (z1.2.2.1 0)), (2, .ref (z2.2.2.1 0)), (3, .int v3)] [] σ1 σ2 (rc v3 σ1 σ2)) (v3 : Int32) (σ1 σ2 : Mem) : V2 x z z1 z2 4 cn sn Q 339 [(0, .ref b), (1, .ref (z1.2.2.1 0)), (2, .ref (z2.2.2.1 0)), (3, .int v3)] [] σ1 σ2 (lw_c3 N xs Ln rc v3 σ1 σ2) := by
  unfold lw_c3
  refine V2_aload_n 1 X dL_law_339 rfl rfl ?_
  refine V2_aload_n 0 X dL_law_340 rfl rfl ?_
  refine V2_iload_n 3 X dL_law_341 rfl rfl ?_
  refine V2_iconst (v := 1) X dL_law_342 (by decide) ?_
  refine V2_iadd X dL_law_343 ?_
  refine V2_sld X dL_law_344 ?_
  refine V2_callI1 [.int (xs (v3 + 1).toNatClampNeg)] [] X dL_law_345 (kX11_fault x.2.1 z1 hZ1 N 0 hk1 (xs (v3 + 1).toNatClampNeg) σ1) co11 hk1 gcL_28 hyL_X11_fault rfl ⟨by decide, by decide⟩ rfl (Nat.le_of_ble_eq_true rfl) hcr (fun r1 s2 => ?_)
  refine V2_aload_n 2 X dL_law_348 rfl rfl ?_
  refine V2_aload_n 0 X dL_law_349 rfl rfl ?_
  refine V2_iload_n 3 X dL_law_350 rfl rfl ?_
  refine V2_iconst (v := 1) X dL_law_351 (by decide) ?_
  refine V2_iadd X dL_law_352 ?_
  refine V2_sld X dL_law_353 ?_
  refine V2_callI2 [.int (xs (v3 + 1).toNatClampNeg)] [.int r1] X dL_law_354 (kX12_fault x.2.1 z2 hZ2 N (xs (v3 + 1).toNatClampNeg) σ2) co12 hk2 gcL_31 hyL_X12_fault rfl ⟨by decide, by decide⟩ rfl (Nat.le_of_ble_eq_true rfl) hcr (fun r3 s4 => ?_)
  refine V2_icmp_eq (tgt := 2049) X dL_law_357 (by decide) ?_ ?_
  · exact hrec v3 s2 s4
  · refine V2_iconst (v := 0) X dL_law_360 (by decide) ?_
    exact fun q => absurd q (by decide)
set_option maxRecDepth 100000 in
set_option maxHeartbeats 4000000 in
theorem lv_c4 {x : Cx} {z z1 z2 : Sx} {b Ln cn sn : Nat} {xs : Nat → Int32} {Q : State → Prop} (X : X2 x z z1 z2 code 4 20 487 b Ln xs) (hZ1 : z1.2.2.2.1 = kdC) (hZ2 : z2.2.2.2.1 = kdM) (hk1 : z1.2.2.2.1 0 = (11, 0)) (hk2 : z2.2.2.2.1 0 = (12, 0)) (hcr : ∀ R : Room, (match x with | (_, _, _, R', _) => R') = R → cn ≤ R.cells ∧ sn ≤ R.slots) (N : Nat) (rc : Int32 → Mem → Mem → Option Int32) (hrec : ∀ (v3 : Int32) (σ1 σ2 : Mem), V2 x z z1 z2 4 cn sn Q 2049 [(0, .ref b), (1, .ref (z1.2.2.1 0)), (2, .ref (z2.2.2.1 0)), (3, .int v3)] [] σ1 σ2 (rc v3 σ1 σ2)) (v3 : Int32) (σ1 σ2 : Mem) : V2 x z z1 z2 4 cn sn Q 362 [(0, .ref b), (1, .ref (z1.2.2.1 0)), (2, .ref (z2.2.2.1 0)), (3, .int v3)] [] σ1 σ2 (lw_c4 N xs Ln rc v3 σ1 σ2) := by
  unfold lw_c4
  refine V2_aload_n 1 X dL_law_362 rfl rfl ?_
  refine V2_aload_n 0 X dL_law_363 rfl rfl ?_
  refine V2_iload_n 3 X dL_law_364 rfl rfl ?_
  refine V2_iconst (v := 1) X dL_law_365 (by decide) ?_
  refine V2_iadd X dL_law_366 ?_
  refine V2_sld X dL_law_367 ?_
  refine V2_aload_n 0 X dL_law_368 rfl rfl ?_
  refine V2_iload_n 3 X dL_law_369 rfl rfl ?_
  refine V2_iconst (v := 2) X dL_law_370 (by decide) ?_
  refine V2_iadd X dL_law_371 ?_
  refine V2_sld X dL_law_372 ?_
  refine V2_callI1 [.int (xs (v3 + 1).toNatClampNeg), .int (xs (v3 + 2).toNatClampNeg)] [] X dL_law_373 (kX11_chamber x.2.1 z1 hZ1 N 0 hk1 (xs (v3 + 1).toNatClampNeg) (xs (v3 + 2).toNatClampNeg) σ1) co11 hk1 gcL_32 hyL_X11_chamber rfl ⟨by decide, by decide⟩ rfl (Nat.le_of_ble_eq_true rfl) hcr (fun r1 s2 => ?_)
  refine V2_aload_n 2 X dL_law_376 rfl rfl ?_
  refine V2_aload_n 0 X dL_law_377 rfl rfl ?_
  refine V2_iload_n 3 X dL_law_378 rfl rfl ?_
  refine V2_iconst (v := 1) X dL_law_379 (by decide) ?_
  refine V2_iadd X dL_law_380 ?_
  refine V2_sld X dL_law_381 ?_
  refine V2_aload_n 0 X dL_law_382 rfl rfl ?_
  refine V2_iload_n 3 X dL_law_383 rfl rfl ?_
  refine V2_iconst (v := 2) X dL_law_384 (by decide) ?_
  refine V2_iadd X dL_law_385 ?_
  refine V2_sld X dL_law_386 ?_
  refine V2_callI2 [.int (xs (v3 + 1).toNatClampNeg), .int (xs (v3 + 2).toNatClampNeg)] [.int r1] X dL_law_387 (kX12_chamber x.2.1 z2 hZ2 N (xs (v3 + 1).toNatClampNeg) (xs (v3 + 2).toNatClampNeg) σ2) co12 hk2 gcL_35 hyL_X12_chamber rfl ⟨by decide, by decide⟩ rfl (Nat.le_of_ble_eq_true rfl) hcr (fun r3 s4 => ?_)
  refine V2_icmp_eq (tgt := 2049) X dL_law_390 (by decide) ?_ ?_
  · exact hrec v3 s2 s4
  · refine V2_iconst (v := 0) X dL_law_393 (by decide) ?_
    exact fun q => absurd q (by decide)
set_option maxRecDepth 100000 in
set_option maxHeartbeats 4000000 in
theorem lv_c5 {x : Cx} {z z1 z2 : Sx} {b Ln cn sn : Nat} {xs : Nat → Int32} {Q : State → Prop} (X : X2 x z z1 z2 code 4 20 487 b Ln xs) (hZ1 : z1.2.2.2.1 = kdC) (hZ2 : z2.2.2.2.1 = kdM) (hk1 : z1.2.2.2.1 0 = (11, 0)) (hk2 : z2.2.2.2.1 0 = (12, 0)) (hcr : ∀ R : Room, (match x with | (_, _, _, R', _) => R') = R → cn ≤ R.cells ∧ sn ≤ R.slots) (N : Nat) (rc : Int32 → Mem → Mem → Option Int32) (hrec : ∀ (v3 : Int32) (σ1 σ2 : Mem), V2 x z z1 z2 4 cn sn Q 2049 [(0, .ref b), (1, .ref (z1.2.2.1 0)), (2, .ref (z2.2.2.1 0)), (3, .int v3)] [] σ1 σ2 (rc v3 σ1 σ2)) (v3 : Int32) (σ1 σ2 : Mem) : V2 x z z1 z2 4 cn sn Q 395 [(0, .ref b), (1, .ref (z1.2.2.1 0)), (2, .ref (z2.2.2.1 0)), (3, .int v3)] [] σ1 σ2 (lw_c5 N xs Ln rc v3 σ1 σ2) := by
  unfold lw_c5
  refine V2_aload_n 1 X dL_law_395 rfl rfl ?_
  refine V2_aload_n 0 X dL_law_396 rfl rfl ?_
  refine V2_iload_n 3 X dL_law_397 rfl rfl ?_
  refine V2_iconst (v := 1) X dL_law_398 (by decide) ?_
  refine V2_iadd X dL_law_399 ?_
  refine V2_sld X dL_law_400 ?_
  refine V2_aload_n 0 X dL_law_401 rfl rfl ?_
  refine V2_iload_n 3 X dL_law_402 rfl rfl ?_
  refine V2_iconst (v := 2) X dL_law_403 (by decide) ?_
  refine V2_iadd X dL_law_404 ?_
  refine V2_sld X dL_law_405 ?_
  refine V2_aload_n 0 X dL_law_406 rfl rfl ?_
  refine V2_iload_n 3 X dL_law_407 rfl rfl ?_
  refine V2_iconst (v := 3) X dL_law_408 (by decide) ?_
  refine V2_iadd X dL_law_409 ?_
  refine V2_sld X dL_law_410 ?_
  refine V2_callI1 [.int (xs (v3 + 1).toNatClampNeg), .int (xs (v3 + 2).toNatClampNeg), .int (xs (v3 + 3).toNatClampNeg)] [] X dL_law_411 (kX11_answer x.2.1 z1 hZ1 N 0 hk1 (xs (v3 + 1).toNatClampNeg) (xs (v3 + 2).toNatClampNeg) (xs (v3 + 3).toNatClampNeg) σ1) co11 hk1 gcL_36 hyL_X11_answer rfl ⟨by decide, by decide⟩ rfl (Nat.le_of_ble_eq_true rfl) hcr (fun r1 s2 => ?_)
  refine V2_aload_n 2 X dL_law_414 rfl rfl ?_
  refine V2_aload_n 0 X dL_law_415 rfl rfl ?_
  refine V2_iload_n 3 X dL_law_416 rfl rfl ?_
  refine V2_iconst (v := 1) X dL_law_417 (by decide) ?_
  refine V2_iadd X dL_law_418 ?_
  refine V2_sld X dL_law_419 ?_
  refine V2_aload_n 0 X dL_law_420 rfl rfl ?_
  refine V2_iload_n 3 X dL_law_421 rfl rfl ?_
  refine V2_iconst (v := 2) X dL_law_422 (by decide) ?_
  refine V2_iadd X dL_law_423 ?_
  refine V2_sld X dL_law_424 ?_
  refine V2_aload_n 0 X dL_law_425 rfl rfl ?_
  refine V2_iload_n 3 X dL_law_426 rfl rfl ?_
  refine V2_iconst (v := 3) X dL_law_427 (by decide) ?_
  refine V2_iadd X dL_law_428 ?_
  refine V2_sld X dL_law_429 ?_
  refine V2_callI2 [.int (xs (v3 + 1).toNatClampNeg), .int (xs (v3 + 2).toNatClampNeg), .int (xs (v3 + 3).toNatClampNeg)] [.int r1] X dL_law_430 (kX12_answer x.2.1 z2 hZ2 N (xs (v3 + 1).toNatClampNeg) (xs (v3 + 2).toNatClampNeg) (xs (v3 + 3).toNatClampNeg) σ2) co12 hk2 gcL_40 hyL_X12_answer rfl ⟨by decide, by decide⟩ rfl (Nat.le_of_ble_eq_true rfl) hcr (fun r3 s4 => ?_)
  refine V2_icmp_eq (tgt := 2049) X dL_law_433 (by decide) ?_ ?_
  · exact hrec v3 s2 s4
  · refine V2_iconst (v := 0) X dL_law_436 (by decide) ?_
    exact fun q => absurd q (by decide)
set_option maxRecDepth 100000 in
set_option maxHeartbeats 4000000 in
theorem lv_c6 {x : Cx} {z z1 z2 : Sx} {b Ln cn sn : Nat} {xs : Nat → Int32} {Q : State → Prop} (X : X2 x z z1 z2 code 4 20 487 b Ln xs) (hZ1 : z1.2.2.2.1 = kdC) (hZ2 : z2.2.2.2.1 = kdM) (hk1 : z1.2.2.2.1 0 = (11, 0)) (hk2 : z2.2.2.2.1 0 = (12, 0)) (hcr : ∀ R : Room, (match x with | (_, _, _, R', _) => R') = R → cn ≤ R.cells ∧ sn ≤ R.slots) (N : Nat) (rc : Int32 → Mem → Mem → Option Int32) (hrec : ∀ (v3 : Int32) (σ1 σ2 : Mem), V2 x z z1 z2 4 cn sn Q 2049 [(0, .ref b), (1, .ref (z1.2.2.1 0)), (2, .ref (z2.2.2.1 0)), (3, .int v3)] [] σ1 σ2 (rc v3 σ1 σ2)) (v3 : Int32) (σ1 σ2 : Mem) : V2 x z z1 z2 4 cn sn Q 438 [(0, .ref b), (1, .ref (z1.2.2.1 0)), (2, .ref (z2.2.2.1 0)), (3, .int v3)] [] σ1 σ2 (lw_c6 N xs Ln rc v3 σ1 σ2) := by
  unfold lw_c6
  refine V2_aload_n 1 X dL_law_438 rfl rfl ?_
  refine V2_aload_n 0 X dL_law_439 rfl rfl ?_
  refine V2_iload_n 3 X dL_law_440 rfl rfl ?_
  refine V2_iconst (v := 1) X dL_law_441 (by decide) ?_
  refine V2_iadd X dL_law_442 ?_
  refine V2_sld X dL_law_443 ?_
  refine V2_aload_n 0 X dL_law_444 rfl rfl ?_
  refine V2_iload_n 3 X dL_law_445 rfl rfl ?_
  refine V2_iconst (v := 2) X dL_law_446 (by decide) ?_
  refine V2_iadd X dL_law_447 ?_
  refine V2_sld X dL_law_448 ?_
  refine V2_aload_n 0 X dL_law_449 rfl rfl ?_
  refine V2_iload_n 3 X dL_law_450 rfl rfl ?_
  refine V2_iconst (v := 3) X dL_law_451 (by decide) ?_
  refine V2_iadd X dL_law_452 ?_
  refine V2_sld X dL_law_453 ?_
  refine V2_callI1 [.int (xs (v3 + 1).toNatClampNeg), .int (xs (v3 + 2).toNatClampNeg), .int (xs (v3 + 3).toNatClampNeg)] [] X dL_law_454 (kX11_deed x.2.1 z1 hZ1 N 0 hk1 (xs (v3 + 1).toNatClampNeg) (xs (v3 + 2).toNatClampNeg) (xs (v3 + 3).toNatClampNeg) σ1) co11 hk1 gcL_41 hyL_X11_deed rfl ⟨by decide, by decide⟩ rfl (Nat.le_of_ble_eq_true rfl) hcr (fun r1 s2 => ?_)
  refine V2_aload_n 2 X dL_law_457 rfl rfl ?_
  refine V2_aload_n 0 X dL_law_458 rfl rfl ?_
  refine V2_iload_n 3 X dL_law_459 rfl rfl ?_
  refine V2_iconst (v := 1) X dL_law_460 (by decide) ?_
  refine V2_iadd X dL_law_461 ?_
  refine V2_sld X dL_law_462 ?_
  refine V2_aload_n 0 X dL_law_463 rfl rfl ?_
  refine V2_iload_n 3 X dL_law_464 rfl rfl ?_
  refine V2_iconst (v := 2) X dL_law_465 (by decide) ?_
  refine V2_iadd X dL_law_466 ?_
  refine V2_sld X dL_law_467 ?_
  refine V2_aload_n 0 X dL_law_468 rfl rfl ?_
  refine V2_iload_n 3 X dL_law_469 rfl rfl ?_
  refine V2_iconst (v := 3) X dL_law_470 (by decide) ?_
  refine V2_iadd X dL_law_471 ?_
  refine V2_sld X dL_law_472 ?_
  refine V2_callI2 [.int (xs (v3 + 1).toNatClampNeg), .int (xs (v3 + 2).toNatClampNeg), .int (xs (v3 + 3).toNatClampNeg)] [.int r1] X dL_law_473 (kX12_deed x.2.1 z2 hZ2 N (xs (v3 + 1).toNatClampNeg) (xs (v3 + 2).toNatClampNeg) (xs (v3 + 3).toNatClampNeg) σ2) co12 hk2 gcL_44 hyL_X12_deed rfl ⟨by decide, by decide⟩ rfl (Nat.le_of_ble_eq_true rfl) hcr (fun r3 s4 => ?_)
  refine V2_icmp_eq (tgt := 2049) X dL_law_476 (by decide) ?_ ?_
  · exact hrec v3 s2 s4
  · refine V2_iconst (v := 0) X dL_law_479 (by decide) ?_
    exact fun q => absurd q (by decide)
set_option maxRecDepth 100000 in
set_option maxHeartbeats 4000000 in
theorem lv_c7 {x : Cx} {z z1 z2 : Sx} {b Ln cn sn : Nat} {xs : Nat → Int32} {Q : State → Prop} (X : X2 x z z1 z2 code 4 20 487 b Ln xs) (hZ1 : z1.2.2.2.1 = kdC) (hZ2 : z2.2.2.2.1 = kdM) (hk1 : z1.2.2.2.1 0 = (11, 0)) (hk2 : z2.2.2.2.1 0 = (12, 0)) (hcr : ∀ R : Room, (match x with | (_, _, _, R', _) => R') = R → cn ≤ R.cells ∧ sn ≤ R.slots) (N : Nat) (rc : Int32 → Mem → Mem → Option Int32) (hrec : ∀ (v3 : Int32) (σ1 σ2 : Mem), V2 x z z1 z2 4 cn sn Q 2049 [(0, .ref b), (1, .ref (z1.2.2.1 0)), (2, .ref (z2.2.2.1 0)), (3, .int v3)] [] σ1 σ2 (rc v3 σ1 σ2)) (v3 : Int32) (σ1 σ2 : Mem) : V2 x z z1 z2 4 cn sn Q 481 [(0, .ref b), (1, .ref (z1.2.2.1 0)), (2, .ref (z2.2.2.1 0)), (3, .int v3)] [] σ1 σ2 (lw_c7 N xs Ln rc v3 σ1 σ2) := by
  unfold lw_c7
  refine V2_aload_n 1 X dL_law_481 rfl rfl ?_
  refine V2_aload_n 0 X dL_law_482 rfl rfl ?_
  refine V2_iload_n 3 X dL_law_483 rfl rfl ?_
  refine V2_iconst (v := 1) X dL_law_484 (by decide) ?_
  refine V2_iadd X dL_law_485 ?_
  refine V2_sld X dL_law_486 ?_
  refine V2_aload_n 0 X dL_law_487 rfl rfl ?_
  refine V2_iload_n 3 X dL_law_488 rfl rfl ?_
  refine V2_iconst (v := 2) X dL_law_489 (by decide) ?_
  refine V2_iadd X dL_law_490 ?_
  refine V2_sld X dL_law_491 ?_
  refine V2_callI1 [.int (xs (v3 + 1).toNatClampNeg), .int (xs (v3 + 2).toNatClampNeg)] [] X dL_law_492 (kX11_stop x.2.1 z1 hZ1 N 0 hk1 (xs (v3 + 1).toNatClampNeg) (xs (v3 + 2).toNatClampNeg) σ1) co11 hk1 gcL_45 hyL_X11_stop rfl ⟨by decide, by decide⟩ rfl (Nat.le_of_ble_eq_true rfl) hcr (fun r1 s2 => ?_)
  refine V2_aload_n 2 X dL_law_495 rfl rfl ?_
  refine V2_aload_n 0 X dL_law_496 rfl rfl ?_
  refine V2_iload_n 3 X dL_law_497 rfl rfl ?_
  refine V2_iconst (v := 1) X dL_law_498 (by decide) ?_
  refine V2_iadd X dL_law_499 ?_
  refine V2_sld X dL_law_500 ?_
  refine V2_aload_n 0 X dL_law_501 rfl rfl ?_
  refine V2_iload_n 3 X dL_law_502 rfl rfl ?_
  refine V2_iconst (v := 2) X dL_law_503 (by decide) ?_
  refine V2_iadd X dL_law_504 ?_
  refine V2_sld X dL_law_505 ?_
  refine V2_callI2 [.int (xs (v3 + 1).toNatClampNeg), .int (xs (v3 + 2).toNatClampNeg)] [.int r1] X dL_law_506 (kX12_stop x.2.1 z2 hZ2 N (xs (v3 + 1).toNatClampNeg) (xs (v3 + 2).toNatClampNeg) σ2) co12 hk2 gcL_48 hyL_X12_stop rfl ⟨by decide, by decide⟩ rfl (Nat.le_of_ble_eq_true rfl) hcr (fun r3 s4 => ?_)
  refine V2_icmp_eq (tgt := 2049) X dL_law_509 (by decide) ?_ ?_
  · exact hrec v3 s2 s4
  · refine V2_iconst (v := 0) X dL_law_512 (by decide) ?_
    exact fun q => absurd q (by decide)
set_option maxRecDepth 100000 in
set_option maxHeartbeats 4000000 in
theorem lv_c8 {x : Cx} {z z1 z2 : Sx} {b Ln cn sn : Nat} {xs : Nat → Int32} {Q : State → Prop} (X : X2 x z z1 z2 code 4 20 487 b Ln xs) (hZ1 : z1.2.2.2.1 = kdC) (hZ2 : z2.2.2.2.1 = kdM) (hk1 : z1.2.2.2.1 0 = (11, 0)) (hk2 : z2.2.2.2.1 0 = (12, 0)) (hcr : ∀ R : Room, (match x with | (_, _, _, R', _) => R') = R → cn ≤ R.cells ∧ sn ≤ R.slots) (N : Nat) (rc : Int32 → Mem → Mem → Option Int32) (hrec : ∀ (v3 : Int32) (σ1 σ2 : Mem), V2 x z z1 z2 4 cn sn Q 2049 [(0, .ref b), (1, .ref (z1.2.2.1 0)), (2, .ref (z2.2.2.1 0)), (3, .int v3)] [] σ1 σ2 (rc v3 σ1 σ2)) (v3 : Int32) (σ1 σ2 : Mem) : V2 x z z1 z2 4 cn sn Q 514 [(0, .ref b), (1, .ref (z1.2.2.1 0)), (2, .ref (z2.2.2.1 0)), (3, .int v3)] [] σ1 σ2 (lw_c8 N xs Ln rc v3 σ1 σ2) := by
  unfold lw_c8
  refine V2_aload_n 1 X dL_law_514 rfl rfl ?_
  refine V2_aload_n 0 X dL_law_515 rfl rfl ?_
  refine V2_iload_n 3 X dL_law_516 rfl rfl ?_
  refine V2_iconst (v := 1) X dL_law_517 (by decide) ?_
  refine V2_iadd X dL_law_518 ?_
  refine V2_sld X dL_law_519 ?_
  refine V2_aload_n 0 X dL_law_520 rfl rfl ?_
  refine V2_iload_n 3 X dL_law_521 rfl rfl ?_
  refine V2_iconst (v := 2) X dL_law_522 (by decide) ?_
  refine V2_iadd X dL_law_523 ?_
  refine V2_sld X dL_law_524 ?_
  refine V2_aload_n 0 X dL_law_525 rfl rfl ?_
  refine V2_iload_n 3 X dL_law_526 rfl rfl ?_
  refine V2_iconst (v := 3) X dL_law_527 (by decide) ?_
  refine V2_iadd X dL_law_528 ?_
  refine V2_sld X dL_law_529 ?_
  refine V2_aload_n 0 X dL_law_530 rfl rfl ?_
  refine V2_iload_n 3 X dL_law_531 rfl rfl ?_
  refine V2_iconst (v := 4) X dL_law_532 (by decide) ?_
  refine V2_iadd X dL_law_533 ?_
  refine V2_sld X dL_law_534 ?_
  refine V2_callI1 [.int (xs (v3 + 1).toNatClampNeg), .int (xs (v3 + 2).toNatClampNeg), .int (xs (v3 + 3).toNatClampNeg), .int (xs (v3 + 4).toNatClampNeg)] [] X dL_law_535 (kX11_state x.2.1 z1 hZ1 N 0 hk1 (xs (v3 + 1).toNatClampNeg) (xs (v3 + 2).toNatClampNeg) (xs (v3 + 3).toNatClampNeg) (xs (v3 + 4).toNatClampNeg) σ1) co11 hk1 gcL_49 hyL_X11_state rfl ⟨by decide, by decide⟩ rfl (Nat.le_of_ble_eq_true rfl) hcr (fun r1 s2 => ?_)
  refine V2_aload_n 2 X dL_law_538 rfl rfl ?_
  refine V2_aload_n 0 X dL_law_539 rfl rfl ?_
  refine V2_iload_n 3 X dL_law_540 rfl rfl ?_
  refine V2_iconst (v := 1) X dL_law_541 (by decide) ?_
  refine V2_iadd X dL_law_542 ?_
  refine V2_sld X dL_law_543 ?_
  refine V2_aload_n 0 X dL_law_544 rfl rfl ?_
  refine V2_iload_n 3 X dL_law_545 rfl rfl ?_
  refine V2_iconst (v := 2) X dL_law_546 (by decide) ?_
  refine V2_iadd X dL_law_547 ?_
  refine V2_sld X dL_law_548 ?_
  refine V2_aload_n 0 X dL_law_549 rfl rfl ?_
  refine V2_iload_n 3 X dL_law_550 rfl rfl ?_
  refine V2_iconst (v := 3) X dL_law_551 (by decide) ?_
  refine V2_iadd X dL_law_552 ?_
  refine V2_sld X dL_law_553 ?_
  refine V2_aload_n 0 X dL_law_554 rfl rfl ?_
  refine V2_iload_n 3 X dL_law_555 rfl rfl ?_
  refine V2_iconst (v := 4) X dL_law_556 (by decide) ?_
  refine V2_iadd X dL_law_557 ?_
  refine V2_sld X dL_law_558 ?_
  refine V2_callI2 [.int (xs (v3 + 1).toNatClampNeg), .int (xs (v3 + 2).toNatClampNeg), .int (xs (v3 + 3).toNatClampNeg), .int (xs (v3 + 4).toNatClampNeg)] [.int r1] X dL_law_559 (kX12_state x.2.1 z2 hZ2 N (xs (v3 + 1).toNatClampNeg) (xs (v3 + 2).toNatClampNeg) (xs (v3 + 3).toNatClampNeg) (xs (v3 + 4).toNatClampNeg) σ2) co12 hk2 gcL_53 hyL_X12_state rfl ⟨by decide, by decide⟩ rfl (Nat.le_of_ble_eq_true rfl) hcr (fun r3 s4 => ?_)
  refine V2_icmp_eq (tgt := 2049) X dL_law_562 (by decide) ?_ ?_
  · exact hrec v3 s2 s4
  · refine V2_iconst (v := 0) X dL_law_565 (by decide) ?_
    exact fun q => absurd q (by decide)
