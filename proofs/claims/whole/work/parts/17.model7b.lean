def fX12_weather_b310 (N : Nat) (v6 : Int64) (v9 : Int64) (t0 : Int64) (σ : Mem) : Option (Int64 × Mem) :=
  bd (fX12_common N v9 v6 σ) (fun r27 s28 => gd (!(decide (r27 = 0))) (some ((t0 / r27), s28)))
set_option maxRecDepth 100000 in
set_option maxHeartbeats 4000000 in
theorem bX12_weather_310 {x : Cx} {z : Sx} (X : XG x z RX12 cX12_weather 12 5 113) (E : XE x z) (hr : XR x (some .long)) (hZ : z.2.2.2.1 = kdM) (N : Nat) (v6 : Int64) (v9 : Int64) (t0 : Int64) (σ : Mem) : VK x z 12 (BQ QL x z) 310 [(0, .ref (z.2.2.1 0)), (6, .long v6), (9, .long v9)] [.long t0] σ (fX12_weather_b310 N v6 v9 t0 σ) := by
  unfold fX12_weather_b310
  refine V_lload 2 X dX12_weather_310 rfl ?_
  refine V_lload 1 X dX12_weather_312 rfl ?_
  refine V_calSL [.long v9, .long v6] [.long t0] X E dX12_weather_314 (kX12_common x.2.1 z hZ N v9 v6 σ) gcX12_316 hyX12_common rfl ⟨by decide, by decide⟩ rfl (Nat.le_of_ble_eq_true rfl) (fun r27 s28 => ?_)
  refine V_ldiv X dX12_weather_317 ?_
  exact V_lret X E hr dX12_weather_318
def fX12_weather_b289 (N : Nat) (rc252 : Int32 → Int32 → Int64 → Int32 → Int64 → Int32 → Mem → Option (Int64 × Mem)) (v2 : Int32) (v5 : Int32) (v6 : Int64) (v8 : Int32) (v11 : Int32) (t0 : Int64) (t1 : Int64) (σ : Mem) : Option (Int64 × Mem) :=
  lt_ (t1 + t0) (fun v9_29 => lt_ (v11 + 1) (fun v11_30 => rc252 v2 v5 v6 v8 v9_29 v11_30 σ))
set_option maxRecDepth 100000 in
set_option maxHeartbeats 4000000 in
theorem bX12_weather_289 {x : Cx} {z : Sx} (X : XG x z RX12 cX12_weather 12 5 113) (E : XE x z) (hr : XR x (some .long)) (hZ : z.2.2.2.1 = kdM) (N : Nat) (rc252 : Int32 → Int32 → Int64 → Int32 → Int64 → Int32 → Mem → Option (Int64 × Mem)) (hc252 : ∀ (v2 : Int32) (v5 : Int32) (v6 : Int64) (v8 : Int32) (v9 : Int64) (v11 : Int32) (σ : Mem), VK x z 12 (BQ QL x z) 252 [(0, .ref (z.2.2.1 0)), (2, .int v2), (5, .int v5), (6, .long v6), (8, .int v8), (9, .long v9), (11, .int v11)] [] σ (rc252 v2 v5 v6 v8 v9 v11 σ)) (v2 : Int32) (v5 : Int32) (v6 : Int64) (v8 : Int32) (v11 : Int32) (t0 : Int64) (t1 : Int64) (σ : Mem) : VK x z 12 (BQ QL x z) 289 [(0, .ref (z.2.2.1 0)), (2, .int v2), (5, .int v5), (6, .long v6), (8, .int v8), (11, .int v11)] [.long t0, .long t1] σ (fX12_weather_b289 N rc252 v2 v5 v6 v8 v11 t0 t1 σ) := by
  unfold fX12_weather_b289
  refine V_ladd X dX12_weather_289 ?_
  refine V_lstoreG (L' := fun v9_29 => [(9, .long v9_29), (0, .ref (z.2.2.1 0)), (2, .int v2), (5, .int v5), (6, .long v6), (8, .int v8), (11, .int v11)]) X dX12_weather_290 (by decide) (fun _ => rfl) (fun v9_29 => ?_)
  refine V_iincG (L' := fun v11_30 => [(11, .int v11_30), (9, .long v9_29), (0, .ref (z.2.2.1 0)), (2, .int v2), (5, .int v5), (6, .long v6), (8, .int v8)]) 6 X dX12_weather_292 rfl rfl (by decide) (fun _ => rfl) (fun v11_30 => ?_)
  refine V_goto (tgt := 252) X dX12_weather_295 (by decide) ?_
  refine V_sub [2, 3, 4, 5, 6, 1, 0] rfl ?_
  exact hc252 v2 v5 v6 v8 v9_29 v11_30 σ
def fX12_weather_b252 (N : Nat) (rc252 : Int32 → Int32 → Int64 → Int32 → Int64 → Int32 → Mem → Option (Int64 × Mem)) (v2 : Int32) (v5 : Int32) (v6 : Int64) (v8 : Int32) (v9 : Int64) (v11 : Int32) (σ : Mem) : Option (Int64 × Mem) :=
  if 10 ≤ v11 then if v5 = 0 then fX12_weather_b310 N v6 v9 v9 σ else fX12_weather_b310 N v6 v9 v6 σ else lt_ (pI σ 0 14 v11) (fun s21 => bd (fX12_answers N v2 s21) (fun r22 s23 => if r22 = 0 then fX12_weather_b289 N rc252 v2 v5 v6 v8 v11 0 v9 s23 else gd (inb (v8 + v11) 20) (fX12_weather_b289 N rc252 v2 v5 v6 v8 v11 (s23.2 13 (v8 + v11).toNatClampNeg) v9 s23)))
set_option maxRecDepth 100000 in
set_option maxHeartbeats 4000000 in
theorem bX12_weather_252 {x : Cx} {z : Sx} (X : XG x z RX12 cX12_weather 12 5 113) (E : XE x z) (hr : XR x (some .long)) (hZ : z.2.2.2.1 = kdM) (N : Nat) (rc252 : Int32 → Int32 → Int64 → Int32 → Int64 → Int32 → Mem → Option (Int64 × Mem)) (hc252 : ∀ (v2 : Int32) (v5 : Int32) (v6 : Int64) (v8 : Int32) (v9 : Int64) (v11 : Int32) (σ : Mem), VK x z 12 (BQ QL x z) 252 [(0, .ref (z.2.2.1 0)), (2, .int v2), (5, .int v5), (6, .long v6), (8, .int v8), (9, .long v9), (11, .int v11)] [] σ (rc252 v2 v5 v6 v8 v9 v11 σ)) (v2 : Int32) (v5 : Int32) (v6 : Int64) (v8 : Int32) (v9 : Int64) (v11 : Int32) (σ : Mem) : VK x z 12 (BQ QL x z) 252 [(0, .ref (z.2.2.1 0)), (2, .int v2), (5, .int v5), (6, .long v6), (8, .int v8), (9, .long v9), (11, .int v11)] [] σ (fX12_weather_b252 N rc252 v2 v5 v6 v8 v9 v11 σ) := by
  unfold fX12_weather_b252
  refine V_iload 6 X dX12_weather_252 rfl ?_
  refine V_bipush (v := 10) X dX12_weather_254 (by decide) ?_
  refine V_icmp_ge (tgt := 298) X dX12_weather_256 (by decide) ?_ ?_
  · refine V_iload 2 X dX12_weather_298 rfl ?_
    refine V_if_eq (tgt := 308) X dX12_weather_300 (by decide) ?_ ?_
    · refine V_lload 5 X dX12_weather_308 rfl ?_
      refine V_sub [0, 3, 5] rfl ?_
      exact bX12_weather_310 X E hr hZ N v6 v9 v9 σ
    · refine V_lload 3 X dX12_weather_303 rfl ?_
      refine V_goto (tgt := 310) X dX12_weather_305 (by decide) ?_
      refine V_sub [0, 3, 5] rfl ?_
      exact bX12_weather_310 X E hr hZ N v6 v9 v6 σ
  · refine V_aload_n 0 X dX12_weather_259 rfl rfl ?_
    refine V_iload 6 X dX12_weather_260 rfl ?_
    refine V_putIG 14 X dX12_weather_262 co12 (kM hZ 0 _ rfl) (by decide) rfl wfX12_180 rfl rfl rfl (fun s21 => ?_)
    refine V_lload 5 X dX12_weather_265 rfl ?_
    refine V_aload_n 0 X dX12_weather_267 rfl rfl ?_
    refine V_iload_n 1 X dX12_weather_268 rfl rfl ?_
    refine V_callI [.int v2] [.long v9] X E dX12_weather_269 (kX12_answers x.2.1 z hZ N v2 s21) co12 (kM hZ 0 _ rfl) gcX12_216 hyX12_answers rfl ⟨by decide, by decide⟩ rfl (Nat.le_of_ble_eq_true rfl) (fun r22 s23 => ?_)
    refine V_if_eq (tgt := 288) X dX12_weather_272 (by decide) ?_ ?_
    · refine V_lconst (v := 0) X dX12_weather_288 (by decide) ?_
      refine V_sub [0, 1, 2, 3, 4, 6] rfl ?_
      exact bX12_weather_289 X E hr hZ N rc252 hc252 v2 v5 v6 v8 v11 0 v9 s23
    · refine V_aload_n 0 X dX12_weather_275 rfl rfl ?_
      refine V_getR (k1 := 13) 32 X dX12_weather_276 co12 (kM hZ 0 _ rfl) (by decide) rfl rfl wfX12_47 ?_
      refine V_iload 4 X dX12_weather_279 rfl ?_
      refine V_iload 6 X dX12_weather_281 rfl ?_
      refine V_iadd X dX12_weather_283 ?_
      refine V_lald X dX12_weather_284 (kM hZ 13 _ rfl) ?_
      refine V_goto (tgt := 289) X dX12_weather_285 (by decide) ?_
      refine V_sub [0, 1, 2, 3, 4, 6] rfl ?_
      exact bX12_weather_289 X E hr hZ N rc252 hc252 v2 v5 v6 v8 v11 (s23.2 13 (v8 + v11).toNatClampNeg) v9 s23
def fX12_weather_l252 (N : Nat) : Nat → Int32 → Int32 → Int64 → Int32 → Int64 → Int32 → Mem → Option (Int64 × Mem)
  | 0 => fun _ _ _ _ _ _ _ => none
  | n + 1 => fX12_weather_b252 N (fX12_weather_l252 N n)
theorem lX12_weather_252 {x : Cx} {z : Sx} (X : XG x z RX12 cX12_weather 12 5 113) (E : XE x z) (hr : XR x (some .long)) (hZ : z.2.2.2.1 = kdM) (N : Nat) (n : Nat) (v2 : Int32) (v5 : Int32) (v6 : Int64) (v8 : Int32) (v9 : Int64) (v11 : Int32) (σ : Mem) : VK x z 12 (BQ QL x z) 252 [(0, .ref (z.2.2.1 0)), (2, .int v2), (5, .int v5), (6, .long v6), (8, .int v8), (9, .long v9), (11, .int v11)] [] σ (fX12_weather_l252 N n v2 v5 v6 v8 v9 v11 σ) := by
  induction n generalizing v2 v5 v6 v8 v9 v11 σ with
  | zero => exact V_none
  | succ n ih => exact bX12_weather_252 X E hr hZ N (fX12_weather_l252 N n) ih v2 v5 v6 v8 v9 v11 σ
def fX12_weather_b200 (N : Nat) (rc90 : Int32 → Int32 → Int32 → Int32 → Int64 → Int32 → Int32 → Mem → Option (Int64 × Mem)) (rc133 : Int32 → Int32 → Int32 → Int32 → Int64 → Int32 → Int32 → Int32 → Int32 → Mem → Option (Int64 × Mem)) (v2 : Int32) (v3 : Int32) (v4 : Int32) (v5 : Int32) (v6 : Int64) (v8 : Int32) (v9 : Int32) (v10 : Int32) (v11 : Int32) (t0 : Int32) (t1 : Int32) (σ : Mem) : Option (Int64 × Mem) :=
  gd (inb (t1 + t0) 20) (gd (inb (v8 + v11) 20) (gd (inb (t1 + t0) 20) (lt_ (pL σ 13 (t1 + t0).toNatClampNeg ((σ.2 13 (t1 + t0).toNatClampNeg) + ((((10 - v4) : Int32).toInt64) * (σ.2 13 (v8 + v11).toNatClampNeg)))) (fun s35 => lt_ (v11 + 1) (fun v11_36 => rc133 v2 v3 v4 v5 v6 v8 v9 v10 v11_36 s35)))))
set_option maxRecDepth 100000 in
set_option maxHeartbeats 4000000 in
theorem bX12_weather_200 {x : Cx} {z : Sx} (X : XG x z RX12 cX12_weather 12 5 113) (E : XE x z) (hr : XR x (some .long)) (hZ : z.2.2.2.1 = kdM) (N : Nat) (rc90 : Int32 → Int32 → Int32 → Int32 → Int64 → Int32 → Int32 → Mem → Option (Int64 × Mem)) (hc90 : ∀ (v2 : Int32) (v3 : Int32) (v4 : Int32) (v5 : Int32) (v6 : Int64) (v8 : Int32) (v9 : Int32) (σ : Mem), VK x z 12 (BQ QL x z) 90 [(0, .ref (z.2.2.1 0)), (2, .int v2), (3, .int v3), (4, .int v4), (5, .int v5), (6, .long v6), (8, .int v8), (9, .int v9)] [] σ (rc90 v2 v3 v4 v5 v6 v8 v9 σ)) (rc133 : Int32 → Int32 → Int32 → Int32 → Int64 → Int32 → Int32 → Int32 → Int32 → Mem → Option (Int64 × Mem)) (hc133 : ∀ (v2 : Int32) (v3 : Int32) (v4 : Int32) (v5 : Int32) (v6 : Int64) (v8 : Int32) (v9 : Int32) (v10 : Int32) (v11 : Int32) (σ : Mem), VK x z 12 (BQ QL x z) 133 [(0, .ref (z.2.2.1 0)), (2, .int v2), (3, .int v3), (4, .int v4), (5, .int v5), (6, .long v6), (8, .int v8), (9, .int v9), (10, .int v10), (11, .int v11)] [] σ (rc133 v2 v3 v4 v5 v6 v8 v9 v10 v11 σ)) (v2 : Int32) (v3 : Int32) (v4 : Int32) (v5 : Int32) (v6 : Int64) (v8 : Int32) (v9 : Int32) (v10 : Int32) (v11 : Int32) (t0 : Int32) (t1 : Int32) (σ : Mem) : VK x z 12 (BQ QL x z) 200 [(0, .ref (z.2.2.1 0)), (2, .int v2), (3, .int v3), (4, .int v4), (5, .int v5), (6, .long v6), (8, .int v8), (9, .int v9), (10, .int v10), (11, .int v11)] [.int t0, .int t1, .ref (z.2.2.1 13)] σ (fX12_weather_b200 N rc90 rc133 v2 v3 v4 v5 v6 v8 v9 v10 v11 t0 t1 σ) := by
  unfold fX12_weather_b200
  refine V_iadd X dX12_weather_200 ?_
  refine V_dup2 X dX12_weather_201 rfl rfl ?_
  refine V_lald X dX12_weather_202 (kM hZ 13 _ rfl) ?_
  refine V_bipush (v := 10) X dX12_weather_203 (by decide) ?_
  refine V_iload 3 X dX12_weather_205 rfl ?_
  refine V_isub X dX12_weather_207 ?_
  refine V_i2l X dX12_weather_208 ?_
  refine V_aload_n 0 X dX12_weather_209 rfl rfl ?_
  refine V_getR (k1 := 13) 32 X dX12_weather_210 co12 (kM hZ 0 _ rfl) (by decide) rfl rfl wfX12_47 ?_
  refine V_iload 6 X dX12_weather_213 rfl ?_
  refine V_iload 9 X dX12_weather_215 rfl ?_
  refine V_iadd X dX12_weather_217 ?_
  refine V_lald X dX12_weather_218 (kM hZ 13 _ rfl) ?_
  refine V_lmul X dX12_weather_219 ?_
  refine V_ladd X dX12_weather_220 ?_
  refine V_lastG X dX12_weather_221 (kM hZ 13 _ rfl) (fun s35 => ?_)
  refine V_iincG (L' := fun v11_36 => [(11, .int v11_36), (0, .ref (z.2.2.1 0)), (2, .int v2), (3, .int v3), (4, .int v4), (5, .int v5), (6, .long v6), (8, .int v8), (9, .int v9), (10, .int v10)]) 9 X dX12_weather_222 rfl rfl (by decide) (fun _ => rfl) (fun v11_36 => ?_)
  refine V_goto (tgt := 133) X dX12_weather_225 (by decide) ?_
  refine V_sub [1, 2, 3, 4, 5, 6, 7, 8, 9, 0] rfl ?_
  exact hc133 v2 v3 v4 v5 v6 v8 v9 v10 v11_36 s35
def fX12_weather_b162 (N : Nat) (rc90 : Int32 → Int32 → Int32 → Int32 → Int64 → Int32 → Int32 → Mem → Option (Int64 × Mem)) (rc133 : Int32 → Int32 → Int32 → Int32 → Int64 → Int32 → Int32 → Int32 → Int32 → Mem → Option (Int64 × Mem)) (v2 : Int32) (v3 : Int32) (v4 : Int32) (v5 : Int32) (v6 : Int64) (v8 : Int32) (v9 : Int32) (v10 : Int32) (v11 : Int32) (t0 : Int32) (t1 : Int32) (σ : Mem) : Option (Int64 × Mem) :=
  gd (inb (t1 + t0) 20) (gd (inb (v8 + v11) 20) (gd (inb (t1 + t0) 20) (lt_ (pL σ 13 (t1 + t0).toNatClampNeg ((σ.2 13 (t1 + t0).toNatClampNeg) + (((v4 : Int32).toInt64) * (σ.2 13 (v8 + v11).toNatClampNeg)))) (fun s34 => if v11 ≤ 0 then fX12_weather_b200 N rc90 rc133 v2 v3 v4 v5 v6 v8 v9 v10 v11 0 v10 s34 else fX12_weather_b200 N rc90 rc133 v2 v3 v4 v5 v6 v8 v9 v10 v11 (v11 - 1) v10 s34))))
set_option maxRecDepth 100000 in
set_option maxHeartbeats 4000000 in
theorem bX12_weather_162 {x : Cx} {z : Sx} (X : XG x z RX12 cX12_weather 12 5 113) (E : XE x z) (hr : XR x (some .long)) (hZ : z.2.2.2.1 = kdM) (N : Nat) (rc90 : Int32 → Int32 → Int32 → Int32 → Int64 → Int32 → Int32 → Mem → Option (Int64 × Mem)) (hc90 : ∀ (v2 : Int32) (v3 : Int32) (v4 : Int32) (v5 : Int32) (v6 : Int64) (v8 : Int32) (v9 : Int32) (σ : Mem), VK x z 12 (BQ QL x z) 90 [(0, .ref (z.2.2.1 0)), (2, .int v2), (3, .int v3), (4, .int v4), (5, .int v5), (6, .long v6), (8, .int v8), (9, .int v9)] [] σ (rc90 v2 v3 v4 v5 v6 v8 v9 σ)) (rc133 : Int32 → Int32 → Int32 → Int32 → Int64 → Int32 → Int32 → Int32 → Int32 → Mem → Option (Int64 × Mem)) (hc133 : ∀ (v2 : Int32) (v3 : Int32) (v4 : Int32) (v5 : Int32) (v6 : Int64) (v8 : Int32) (v9 : Int32) (v10 : Int32) (v11 : Int32) (σ : Mem), VK x z 12 (BQ QL x z) 133 [(0, .ref (z.2.2.1 0)), (2, .int v2), (3, .int v3), (4, .int v4), (5, .int v5), (6, .long v6), (8, .int v8), (9, .int v9), (10, .int v10), (11, .int v11)] [] σ (rc133 v2 v3 v4 v5 v6 v8 v9 v10 v11 σ)) (v2 : Int32) (v3 : Int32) (v4 : Int32) (v5 : Int32) (v6 : Int64) (v8 : Int32) (v9 : Int32) (v10 : Int32) (v11 : Int32) (t0 : Int32) (t1 : Int32) (σ : Mem) : VK x z 12 (BQ QL x z) 162 [(0, .ref (z.2.2.1 0)), (2, .int v2), (3, .int v3), (4, .int v4), (5, .int v5), (6, .long v6), (8, .int v8), (9, .int v9), (10, .int v10), (11, .int v11)] [.int t0, .int t1, .ref (z.2.2.1 13)] σ (fX12_weather_b162 N rc90 rc133 v2 v3 v4 v5 v6 v8 v9 v10 v11 t0 t1 σ) := by
  unfold fX12_weather_b162
  refine V_iadd X dX12_weather_162 ?_
  refine V_dup2 X dX12_weather_163 rfl rfl ?_
  refine V_lald X dX12_weather_164 (kM hZ 13 _ rfl) ?_
  refine V_iload 3 X dX12_weather_165 rfl ?_
  refine V_i2l X dX12_weather_167 ?_
  refine V_aload_n 0 X dX12_weather_168 rfl rfl ?_
  refine V_getR (k1 := 13) 32 X dX12_weather_169 co12 (kM hZ 0 _ rfl) (by decide) rfl rfl wfX12_47 ?_
  refine V_iload 6 X dX12_weather_172 rfl ?_
  refine V_iload 9 X dX12_weather_174 rfl ?_
  refine V_iadd X dX12_weather_176 ?_
  refine V_lald X dX12_weather_177 (kM hZ 13 _ rfl) ?_
  refine V_lmul X dX12_weather_178 ?_
  refine V_ladd X dX12_weather_179 ?_
  refine V_lastG X dX12_weather_180 (kM hZ 13 _ rfl) (fun s34 => ?_)
  refine V_aload_n 0 X dX12_weather_181 rfl rfl ?_
  refine V_getR (k1 := 13) 32 X dX12_weather_182 co12 (kM hZ 0 _ rfl) (by decide) rfl rfl wfX12_47 ?_
  refine V_iload 8 X dX12_weather_185 rfl ?_
  refine V_iload 9 X dX12_weather_187 rfl ?_
  refine V_if_le (tgt := 199) X dX12_weather_189 (by decide) ?_ ?_
  · refine V_iconst (v := 0) X dX12_weather_199 (by decide) ?_
    refine V_sub [0, 1, 2, 3, 4, 5, 6, 7, 8, 9] rfl ?_
    exact bX12_weather_200 X E hr hZ N rc90 hc90 rc133 hc133 v2 v3 v4 v5 v6 v8 v9 v10 v11 0 v10 s34
  · refine V_iload 9 X dX12_weather_192 rfl ?_
    refine V_iconst (v := 1) X dX12_weather_194 (by decide) ?_
    refine V_isub X dX12_weather_195 ?_
    refine V_goto (tgt := 200) X dX12_weather_196 (by decide) ?_
    refine V_sub [0, 1, 2, 3, 4, 5, 6, 7, 8, 9] rfl ?_
    exact bX12_weather_200 X E hr hZ N rc90 hc90 rc133 hc133 v2 v3 v4 v5 v6 v8 v9 v10 v11 (v11 - 1) v10 s34
def fX12_weather_b133 (N : Nat) (rc90 : Int32 → Int32 → Int32 → Int32 → Int64 → Int32 → Int32 → Mem → Option (Int64 × Mem)) (rc133 : Int32 → Int32 → Int32 → Int32 → Int64 → Int32 → Int32 → Int32 → Int32 → Mem → Option (Int64 × Mem)) (v2 : Int32) (v3 : Int32) (v4 : Int32) (v5 : Int32) (v6 : Int64) (v8 : Int32) (v9 : Int32) (v10 : Int32) (v11 : Int32) (σ : Mem) : Option (Int64 × Mem) :=
  if 10 ≤ v11 then lt_ v10 (fun v8_31 => lt_ (v6 * 10) (fun v6_32 => lt_ (v9 + 1) (fun v9_33 => rc90 v2 v3 v4 v5 v6_32 v8_31 v9_33 σ))) else if 9 ≤ v11 then fX12_weather_b162 N rc90 rc133 v2 v3 v4 v5 v6 v8 v9 v10 v11 9 v10 σ else fX12_weather_b162 N rc90 rc133 v2 v3 v4 v5 v6 v8 v9 v10 v11 (v11 + 1) v10 σ
set_option maxRecDepth 100000 in
set_option maxHeartbeats 4000000 in
theorem bX12_weather_133 {x : Cx} {z : Sx} (X : XG x z RX12 cX12_weather 12 5 113) (E : XE x z) (hr : XR x (some .long)) (hZ : z.2.2.2.1 = kdM) (N : Nat) (rc90 : Int32 → Int32 → Int32 → Int32 → Int64 → Int32 → Int32 → Mem → Option (Int64 × Mem)) (hc90 : ∀ (v2 : Int32) (v3 : Int32) (v4 : Int32) (v5 : Int32) (v6 : Int64) (v8 : Int32) (v9 : Int32) (σ : Mem), VK x z 12 (BQ QL x z) 90 [(0, .ref (z.2.2.1 0)), (2, .int v2), (3, .int v3), (4, .int v4), (5, .int v5), (6, .long v6), (8, .int v8), (9, .int v9)] [] σ (rc90 v2 v3 v4 v5 v6 v8 v9 σ)) (rc133 : Int32 → Int32 → Int32 → Int32 → Int64 → Int32 → Int32 → Int32 → Int32 → Mem → Option (Int64 × Mem)) (hc133 : ∀ (v2 : Int32) (v3 : Int32) (v4 : Int32) (v5 : Int32) (v6 : Int64) (v8 : Int32) (v9 : Int32) (v10 : Int32) (v11 : Int32) (σ : Mem), VK x z 12 (BQ QL x z) 133 [(0, .ref (z.2.2.1 0)), (2, .int v2), (3, .int v3), (4, .int v4), (5, .int v5), (6, .long v6), (8, .int v8), (9, .int v9), (10, .int v10), (11, .int v11)] [] σ (rc133 v2 v3 v4 v5 v6 v8 v9 v10 v11 σ)) (v2 : Int32) (v3 : Int32) (v4 : Int32) (v5 : Int32) (v6 : Int64) (v8 : Int32) (v9 : Int32) (v10 : Int32) (v11 : Int32) (σ : Mem) : VK x z 12 (BQ QL x z) 133 [(0, .ref (z.2.2.1 0)), (2, .int v2), (3, .int v3), (4, .int v4), (5, .int v5), (6, .long v6), (8, .int v8), (9, .int v9), (10, .int v10), (11, .int v11)] [] σ (fX12_weather_b133 N rc90 rc133 v2 v3 v4 v5 v6 v8 v9 v10 v11 σ) := by
  unfold fX12_weather_b133
  refine V_iload 9 X dX12_weather_133 rfl ?_
  refine V_bipush (v := 10) X dX12_weather_135 (by decide) ?_
  refine V_icmp_ge (tgt := 228) X dX12_weather_137 (by decide) ?_ ?_
  · refine V_iload 8 X dX12_weather_228 rfl ?_
    refine V_istoreG (L' := fun v8_31 => [(8, .int v8_31), (0, .ref (z.2.2.1 0)), (2, .int v2), (3, .int v3), (4, .int v4), (5, .int v5), (6, .long v6), (9, .int v9), (10, .int v10), (11, .int v11)]) X dX12_weather_230 (by decide) (fun _ => rfl) (fun v8_31 => ?_)
    refine V_lload 6 X dX12_weather_232 rfl ?_
    refine V_ldc2 (v := 10) X dX12_weather_234 csX12_346 ?_
    refine V_lmul X dX12_weather_237 ?_
    refine V_lstoreG (L' := fun v6_32 => [(6, .long v6_32), (8, .int v8_31), (0, .ref (z.2.2.1 0)), (2, .int v2), (3, .int v3), (4, .int v4), (5, .int v5), (9, .int v9), (10, .int v10), (11, .int v11)]) X dX12_weather_238 (by decide) (fun _ => rfl) (fun v6_32 => ?_)
    refine V_iincG (L' := fun v9_33 => [(9, .int v9_33), (6, .long v6_32), (8, .int v8_31), (0, .ref (z.2.2.1 0)), (2, .int v2), (3, .int v3), (4, .int v4), (5, .int v5), (10, .int v10), (11, .int v11)]) 7 X dX12_weather_240 rfl rfl (by decide) (fun _ => rfl) (fun v9_33 => ?_)
    refine V_goto (tgt := 90) X dX12_weather_243 (by decide) ?_
    refine V_sub [3, 4, 5, 6, 7, 1, 2, 0] rfl ?_
    exact hc90 v2 v3 v4 v5 v6_32 v8_31 v9_33 σ
  · refine V_aload_n 0 X dX12_weather_140 rfl rfl ?_
    refine V_getR (k1 := 13) 32 X dX12_weather_141 co12 (kM hZ 0 _ rfl) (by decide) rfl rfl wfX12_47 ?_
    refine V_iload 8 X dX12_weather_144 rfl ?_
    refine V_iload 9 X dX12_weather_146 rfl ?_
    refine V_bipush (v := 9) X dX12_weather_148 (by decide) ?_
    refine V_icmp_ge (tgt := 160) X dX12_weather_150 (by decide) ?_ ?_
    · refine V_bipush (v := 9) X dX12_weather_160 (by decide) ?_
      refine V_sub [0, 1, 2, 3, 4, 5, 6, 7, 8, 9] rfl ?_
      exact bX12_weather_162 X E hr hZ N rc90 hc90 rc133 hc133 v2 v3 v4 v5 v6 v8 v9 v10 v11 9 v10 σ
    · refine V_iload 9 X dX12_weather_153 rfl ?_
      refine V_iconst (v := 1) X dX12_weather_155 (by decide) ?_
      refine V_iadd X dX12_weather_156 ?_
      refine V_goto (tgt := 162) X dX12_weather_157 (by decide) ?_
      refine V_sub [0, 1, 2, 3, 4, 5, 6, 7, 8, 9] rfl ?_
      exact bX12_weather_162 X E hr hZ N rc90 hc90 rc133 hc133 v2 v3 v4 v5 v6 v8 v9 v10 v11 (v11 + 1) v10 σ
def fX12_weather_l133 (N : Nat) (rc90 : Int32 → Int32 → Int32 → Int32 → Int64 → Int32 → Int32 → Mem → Option (Int64 × Mem)) : Nat → Int32 → Int32 → Int32 → Int32 → Int64 → Int32 → Int32 → Int32 → Int32 → Mem → Option (Int64 × Mem)
  | 0 => fun _ _ _ _ _ _ _ _ _ _ => none
  | n + 1 => fX12_weather_b133 N rc90 (fX12_weather_l133 N rc90 n)
theorem lX12_weather_133 {x : Cx} {z : Sx} (X : XG x z RX12 cX12_weather 12 5 113) (E : XE x z) (hr : XR x (some .long)) (hZ : z.2.2.2.1 = kdM) (N : Nat) (rc90 : Int32 → Int32 → Int32 → Int32 → Int64 → Int32 → Int32 → Mem → Option (Int64 × Mem)) (hc90 : ∀ (v2 : Int32) (v3 : Int32) (v4 : Int32) (v5 : Int32) (v6 : Int64) (v8 : Int32) (v9 : Int32) (σ : Mem), VK x z 12 (BQ QL x z) 90 [(0, .ref (z.2.2.1 0)), (2, .int v2), (3, .int v3), (4, .int v4), (5, .int v5), (6, .long v6), (8, .int v8), (9, .int v9)] [] σ (rc90 v2 v3 v4 v5 v6 v8 v9 σ)) (n : Nat) (v2 : Int32) (v3 : Int32) (v4 : Int32) (v5 : Int32) (v6 : Int64) (v8 : Int32) (v9 : Int32) (v10 : Int32) (v11 : Int32) (σ : Mem) : VK x z 12 (BQ QL x z) 133 [(0, .ref (z.2.2.1 0)), (2, .int v2), (3, .int v3), (4, .int v4), (5, .int v5), (6, .long v6), (8, .int v8), (9, .int v9), (10, .int v10), (11, .int v11)] [] σ (fX12_weather_l133 N rc90 n v2 v3 v4 v5 v6 v8 v9 v10 v11 σ) := by
  induction n generalizing v2 v3 v4 v5 v6 v8 v9 v10 v11 σ with
  | zero => exact V_none
  | succ n ih => exact bX12_weather_133 X E hr hZ N rc90 hc90 (fX12_weather_l133 N rc90 n) ih v2 v3 v4 v5 v6 v8 v9 v10 v11 σ
def fX12_weather_b106 (N : Nat) (rc90 : Int32 → Int32 → Int32 → Int32 → Int64 → Int32 → Int32 → Mem → Option (Int64 × Mem)) (rc106 : Int32 → Int32 → Int32 → Int32 → Int64 → Int32 → Int32 → Int32 → Int32 → Mem → Option (Int64 × Mem)) (v2 : Int32) (v3 : Int32) (v4 : Int32) (v5 : Int32) (v6 : Int64) (v8 : Int32) (v9 : Int32) (v10 : Int32) (v11 : Int32) (σ : Mem) : Option (Int64 × Mem) :=
  if 10 ≤ v11 then lt_ 0 (fun v11_24 => fX12_weather_l133 N rc90 N v2 v3 v4 v5 v6 v8 v9 v10 v11_24 σ) else gd (inb (v10 + v11) 20) (lt_ (pL σ 13 (v10 + v11).toNatClampNeg 0) (fun s25 => lt_ (v11 + 1) (fun v11_26 => rc106 v2 v3 v4 v5 v6 v8 v9 v10 v11_26 s25)))
set_option maxRecDepth 100000 in
set_option maxHeartbeats 4000000 in
theorem bX12_weather_106 {x : Cx} {z : Sx} (X : XG x z RX12 cX12_weather 12 5 113) (E : XE x z) (hr : XR x (some .long)) (hZ : z.2.2.2.1 = kdM) (N : Nat) (rc90 : Int32 → Int32 → Int32 → Int32 → Int64 → Int32 → Int32 → Mem → Option (Int64 × Mem)) (hc90 : ∀ (v2 : Int32) (v3 : Int32) (v4 : Int32) (v5 : Int32) (v6 : Int64) (v8 : Int32) (v9 : Int32) (σ : Mem), VK x z 12 (BQ QL x z) 90 [(0, .ref (z.2.2.1 0)), (2, .int v2), (3, .int v3), (4, .int v4), (5, .int v5), (6, .long v6), (8, .int v8), (9, .int v9)] [] σ (rc90 v2 v3 v4 v5 v6 v8 v9 σ)) (rc106 : Int32 → Int32 → Int32 → Int32 → Int64 → Int32 → Int32 → Int32 → Int32 → Mem → Option (Int64 × Mem)) (hc106 : ∀ (v2 : Int32) (v3 : Int32) (v4 : Int32) (v5 : Int32) (v6 : Int64) (v8 : Int32) (v9 : Int32) (v10 : Int32) (v11 : Int32) (σ : Mem), VK x z 12 (BQ QL x z) 106 [(0, .ref (z.2.2.1 0)), (2, .int v2), (3, .int v3), (4, .int v4), (5, .int v5), (6, .long v6), (8, .int v8), (9, .int v9), (10, .int v10), (11, .int v11)] [] σ (rc106 v2 v3 v4 v5 v6 v8 v9 v10 v11 σ)) (v2 : Int32) (v3 : Int32) (v4 : Int32) (v5 : Int32) (v6 : Int64) (v8 : Int32) (v9 : Int32) (v10 : Int32) (v11 : Int32) (σ : Mem) : VK x z 12 (BQ QL x z) 106 [(0, .ref (z.2.2.1 0)), (2, .int v2), (3, .int v3), (4, .int v4), (5, .int v5), (6, .long v6), (8, .int v8), (9, .int v9), (10, .int v10), (11, .int v11)] [] σ (fX12_weather_b106 N rc90 rc106 v2 v3 v4 v5 v6 v8 v9 v10 v11 σ) := by
  unfold fX12_weather_b106
  refine V_iload 9 X dX12_weather_106 rfl ?_
  refine V_bipush (v := 10) X dX12_weather_108 (by decide) ?_
  refine V_icmp_ge (tgt := 130) X dX12_weather_110 (by decide) ?_ ?_
  · refine V_iconst (v := 0) X dX12_weather_130 (by decide) ?_
    refine V_istoreG (L' := fun v11_24 => [(11, .int v11_24), (0, .ref (z.2.2.1 0)), (2, .int v2), (3, .int v3), (4, .int v4), (5, .int v5), (6, .long v6), (8, .int v8), (9, .int v9), (10, .int v10)]) X dX12_weather_131 (by decide) (fun _ => rfl) (fun v11_24 => ?_)
    refine V_sub [1, 2, 3, 4, 5, 6, 7, 8, 9, 0] rfl ?_
    exact lX12_weather_133 X E hr hZ N rc90 hc90 N v2 v3 v4 v5 v6 v8 v9 v10 v11_24 σ
  · refine V_aload_n 0 X dX12_weather_113 rfl rfl ?_
    refine V_getR (k1 := 13) 32 X dX12_weather_114 co12 (kM hZ 0 _ rfl) (by decide) rfl rfl wfX12_47 ?_
    refine V_iload 8 X dX12_weather_117 rfl ?_
    refine V_iload 9 X dX12_weather_119 rfl ?_
    refine V_iadd X dX12_weather_121 ?_
    refine V_lconst (v := 0) X dX12_weather_122 (by decide) ?_
    refine V_lastG X dX12_weather_123 (kM hZ 13 _ rfl) (fun s25 => ?_)
    refine V_iincG (L' := fun v11_26 => [(11, .int v11_26), (0, .ref (z.2.2.1 0)), (2, .int v2), (3, .int v3), (4, .int v4), (5, .int v5), (6, .long v6), (8, .int v8), (9, .int v9), (10, .int v10)]) 9 X dX12_weather_124 rfl rfl (by decide) (fun _ => rfl) (fun v11_26 => ?_)
    refine V_goto (tgt := 106) X dX12_weather_127 (by decide) ?_
    refine V_sub [1, 2, 3, 4, 5, 6, 7, 8, 9, 0] rfl ?_
    exact hc106 v2 v3 v4 v5 v6 v8 v9 v10 v11_26 s25
def fX12_weather_l106 (N : Nat) (rc90 : Int32 → Int32 → Int32 → Int32 → Int64 → Int32 → Int32 → Mem → Option (Int64 × Mem)) : Nat → Int32 → Int32 → Int32 → Int32 → Int64 → Int32 → Int32 → Int32 → Int32 → Mem → Option (Int64 × Mem)
  | 0 => fun _ _ _ _ _ _ _ _ _ _ => none
  | n + 1 => fX12_weather_b106 N rc90 (fX12_weather_l106 N rc90 n)
theorem lX12_weather_106 {x : Cx} {z : Sx} (X : XG x z RX12 cX12_weather 12 5 113) (E : XE x z) (hr : XR x (some .long)) (hZ : z.2.2.2.1 = kdM) (N : Nat) (rc90 : Int32 → Int32 → Int32 → Int32 → Int64 → Int32 → Int32 → Mem → Option (Int64 × Mem)) (hc90 : ∀ (v2 : Int32) (v3 : Int32) (v4 : Int32) (v5 : Int32) (v6 : Int64) (v8 : Int32) (v9 : Int32) (σ : Mem), VK x z 12 (BQ QL x z) 90 [(0, .ref (z.2.2.1 0)), (2, .int v2), (3, .int v3), (4, .int v4), (5, .int v5), (6, .long v6), (8, .int v8), (9, .int v9)] [] σ (rc90 v2 v3 v4 v5 v6 v8 v9 σ)) (n : Nat) (v2 : Int32) (v3 : Int32) (v4 : Int32) (v5 : Int32) (v6 : Int64) (v8 : Int32) (v9 : Int32) (v10 : Int32) (v11 : Int32) (σ : Mem) : VK x z 12 (BQ QL x z) 106 [(0, .ref (z.2.2.1 0)), (2, .int v2), (3, .int v3), (4, .int v4), (5, .int v5), (6, .long v6), (8, .int v8), (9, .int v9), (10, .int v10), (11, .int v11)] [] σ (fX12_weather_l106 N rc90 n v2 v3 v4 v5 v6 v8 v9 v10 v11 σ) := by
  induction n generalizing v2 v3 v4 v5 v6 v8 v9 v10 v11 σ with
  | zero => exact V_none
  | succ n ih => exact bX12_weather_106 X E hr hZ N rc90 hc90 (fX12_weather_l106 N rc90 n) ih v2 v3 v4 v5 v6 v8 v9 v10 v11 σ
def fX12_weather_b90 (N : Nat) (rc90 : Int32 → Int32 → Int32 → Int32 → Int64 → Int32 → Int32 → Mem → Option (Int64 × Mem)) (v2 : Int32) (v3 : Int32) (v4 : Int32) (v5 : Int32) (v6 : Int64) (v8 : Int32) (v9 : Int32) (σ : Mem) : Option (Int64 × Mem) :=
  if v3 ≤ v9 then lt_ 0 (fun v9_15 => lt_ 0 (fun v11_16 => fX12_weather_l252 N N v2 v5 v6 v8 v9_15 v11_16 σ)) else lt_ (10 - v8) (fun v10_17 => lt_ 0 (fun v11_18 => fX12_weather_l106 N rc90 N v2 v3 v4 v5 v6 v8 v9 v10_17 v11_18 σ))
set_option maxRecDepth 100000 in
set_option maxHeartbeats 4000000 in
theorem bX12_weather_90 {x : Cx} {z : Sx} (X : XG x z RX12 cX12_weather 12 5 113) (E : XE x z) (hr : XR x (some .long)) (hZ : z.2.2.2.1 = kdM) (N : Nat) (rc90 : Int32 → Int32 → Int32 → Int32 → Int64 → Int32 → Int32 → Mem → Option (Int64 × Mem)) (hc90 : ∀ (v2 : Int32) (v3 : Int32) (v4 : Int32) (v5 : Int32) (v6 : Int64) (v8 : Int32) (v9 : Int32) (σ : Mem), VK x z 12 (BQ QL x z) 90 [(0, .ref (z.2.2.1 0)), (2, .int v2), (3, .int v3), (4, .int v4), (5, .int v5), (6, .long v6), (8, .int v8), (9, .int v9)] [] σ (rc90 v2 v3 v4 v5 v6 v8 v9 σ)) (v2 : Int32) (v3 : Int32) (v4 : Int32) (v5 : Int32) (v6 : Int64) (v8 : Int32) (v9 : Int32) (σ : Mem) : VK x z 12 (BQ QL x z) 90 [(0, .ref (z.2.2.1 0)), (2, .int v2), (3, .int v3), (4, .int v4), (5, .int v5), (6, .long v6), (8, .int v8), (9, .int v9)] [] σ (fX12_weather_b90 N rc90 v2 v3 v4 v5 v6 v8 v9 σ) := by
  unfold fX12_weather_b90
  refine V_iload 7 X dX12_weather_90 rfl ?_
  refine V_iload_n 2 X dX12_weather_92 rfl rfl ?_
  refine V_icmp_ge (tgt := 246) X dX12_weather_93 (by decide) ?_ ?_
  · refine V_lconst (v := 0) X dX12_weather_246 (by decide) ?_
    refine V_lstoreG (L' := fun v9_15 => [(9, .long v9_15), (0, .ref (z.2.2.1 0)), (2, .int v2), (3, .int v3), (4, .int v4), (5, .int v5), (6, .long v6), (8, .int v8)]) X dX12_weather_247 (by decide) (fun _ => rfl) (fun v9_15 => ?_)
    refine V_iconst (v := 0) X dX12_weather_249 (by decide) ?_
    refine V_istoreG (L' := fun v11_16 => [(11, .int v11_16), (9, .long v9_15), (0, .ref (z.2.2.1 0)), (2, .int v2), (3, .int v3), (4, .int v4), (5, .int v5), (6, .long v6), (8, .int v8)]) X dX12_weather_250 (by decide) (fun _ => rfl) (fun v11_16 => ?_)
    refine V_sub [2, 3, 6, 7, 8, 1, 0] rfl ?_
    exact lX12_weather_252 X E hr hZ N N v2 v5 v6 v8 v9_15 v11_16 σ
  · refine V_bipush (v := 10) X dX12_weather_96 (by decide) ?_
    refine V_iload 6 X dX12_weather_98 rfl ?_
    refine V_isub X dX12_weather_100 ?_
    refine V_istoreG (L' := fun v10_17 => [(10, .int v10_17), (0, .ref (z.2.2.1 0)), (2, .int v2), (3, .int v3), (4, .int v4), (5, .int v5), (6, .long v6), (8, .int v8), (9, .int v9)]) X dX12_weather_101 (by decide) (fun _ => rfl) (fun v10_17 => ?_)
    refine V_iconst (v := 0) X dX12_weather_103 (by decide) ?_
    refine V_istoreG (L' := fun v11_18 => [(11, .int v11_18), (10, .int v10_17), (0, .ref (z.2.2.1 0)), (2, .int v2), (3, .int v3), (4, .int v4), (5, .int v5), (6, .long v6), (8, .int v8), (9, .int v9)]) X dX12_weather_104 (by decide) (fun _ => rfl) (fun v11_18 => ?_)
    refine V_sub [2, 3, 4, 5, 6, 7, 8, 9, 1, 0] rfl ?_
    exact lX12_weather_106 X E hr hZ N rc90 hc90 N v2 v3 v4 v5 v6 v8 v9 v10_17 v11_18 σ
def fX12_weather_l90 (N : Nat) : Nat → Int32 → Int32 → Int32 → Int32 → Int64 → Int32 → Int32 → Mem → Option (Int64 × Mem)
  | 0 => fun _ _ _ _ _ _ _ _ => none
  | n + 1 => fX12_weather_b90 N (fX12_weather_l90 N n)
theorem lX12_weather_90 {x : Cx} {z : Sx} (X : XG x z RX12 cX12_weather 12 5 113) (E : XE x z) (hr : XR x (some .long)) (hZ : z.2.2.2.1 = kdM) (N : Nat) (n : Nat) (v2 : Int32) (v3 : Int32) (v4 : Int32) (v5 : Int32) (v6 : Int64) (v8 : Int32) (v9 : Int32) (σ : Mem) : VK x z 12 (BQ QL x z) 90 [(0, .ref (z.2.2.1 0)), (2, .int v2), (3, .int v3), (4, .int v4), (5, .int v5), (6, .long v6), (8, .int v8), (9, .int v9)] [] σ (fX12_weather_l90 N n v2 v3 v4 v5 v6 v8 v9 σ) := by
  induction n generalizing v2 v3 v4 v5 v6 v8 v9 σ with
  | zero => exact V_none
  | succ n ih => exact bX12_weather_90 X E hr hZ N (fX12_weather_l90 N n) ih v2 v3 v4 v5 v6 v8 v9 σ
def fX12_weather_b74 (N : Nat) (rc47 : Int32 → Int32 → Int32 → Int32 → Int32 → Mem → Option (Int64 × Mem)) (v2 : Int32) (v3 : Int32) (v4 : Int32) (v5 : Int32) (v6 : Int32) (t0 : Int64) (t1 : Int32) (σ : Mem) : Option (Int64 × Mem) :=
  gd (inb t1 20) (lt_ (pL σ 13 t1.toNatClampNeg t0) (fun s19 => lt_ (v6 + 1) (fun v6_20 => rc47 v2 v3 v4 v5 v6_20 s19)))
set_option maxRecDepth 100000 in
set_option maxHeartbeats 4000000 in
theorem bX12_weather_74 {x : Cx} {z : Sx} (X : XG x z RX12 cX12_weather 12 5 113) (E : XE x z) (hr : XR x (some .long)) (hZ : z.2.2.2.1 = kdM) (N : Nat) (rc47 : Int32 → Int32 → Int32 → Int32 → Int32 → Mem → Option (Int64 × Mem)) (hc47 : ∀ (v2 : Int32) (v3 : Int32) (v4 : Int32) (v5 : Int32) (v6 : Int32) (σ : Mem), VK x z 12 (BQ QL x z) 47 [(0, .ref (z.2.2.1 0)), (2, .int v2), (3, .int v3), (4, .int v4), (5, .int v5), (6, .int v6)] [] σ (rc47 v2 v3 v4 v5 v6 σ)) (v2 : Int32) (v3 : Int32) (v4 : Int32) (v5 : Int32) (v6 : Int32) (t0 : Int64) (t1 : Int32) (σ : Mem) : VK x z 12 (BQ QL x z) 74 [(0, .ref (z.2.2.1 0)), (2, .int v2), (3, .int v3), (4, .int v4), (5, .int v5), (6, .int v6)] [.long t0, .int t1, .ref (z.2.2.1 13)] σ (fX12_weather_b74 N rc47 v2 v3 v4 v5 v6 t0 t1 σ) := by
  unfold fX12_weather_b74
  refine V_lastG X dX12_weather_74 (kM hZ 13 _ rfl) (fun s19 => ?_)
  refine V_iincG (L' := fun v6_20 => [(6, .int v6_20), (0, .ref (z.2.2.1 0)), (2, .int v2), (3, .int v3), (4, .int v4), (5, .int v5)]) 5 X dX12_weather_75 rfl rfl (by decide) (fun _ => rfl) (fun v6_20 => ?_)
  refine V_goto (tgt := 47) X dX12_weather_78 (by decide) ?_
  refine V_sub [1, 2, 3, 4, 5, 0] rfl ?_
  exact hc47 v2 v3 v4 v5 v6_20 s19
def fX12_weather_b47 (N : Nat) (rc47 : Int32 → Int32 → Int32 → Int32 → Int32 → Mem → Option (Int64 × Mem)) (v2 : Int32) (v3 : Int32) (v4 : Int32) (v5 : Int32) (v6 : Int32) (σ : Mem) : Option (Int64 × Mem) :=
  if 20 ≤ v6 then lt_ 1 (fun v6_12 => lt_ 0 (fun v8_13 => lt_ 0 (fun v9_14 => fX12_weather_l90 N N v2 v3 v4 v5 v6_12 v8_13 v9_14 σ))) else if v6 = (σ.1 0 14) then fX12_weather_b74 N rc47 v2 v3 v4 v5 v6 1 v6 σ else fX12_weather_b74 N rc47 v2 v3 v4 v5 v6 0 v6 σ
set_option maxRecDepth 100000 in
set_option maxHeartbeats 4000000 in
theorem bX12_weather_47 {x : Cx} {z : Sx} (X : XG x z RX12 cX12_weather 12 5 113) (E : XE x z) (hr : XR x (some .long)) (hZ : z.2.2.2.1 = kdM) (N : Nat) (rc47 : Int32 → Int32 → Int32 → Int32 → Int32 → Mem → Option (Int64 × Mem)) (hc47 : ∀ (v2 : Int32) (v3 : Int32) (v4 : Int32) (v5 : Int32) (v6 : Int32) (σ : Mem), VK x z 12 (BQ QL x z) 47 [(0, .ref (z.2.2.1 0)), (2, .int v2), (3, .int v3), (4, .int v4), (5, .int v5), (6, .int v6)] [] σ (rc47 v2 v3 v4 v5 v6 σ)) (v2 : Int32) (v3 : Int32) (v4 : Int32) (v5 : Int32) (v6 : Int32) (σ : Mem) : VK x z 12 (BQ QL x z) 47 [(0, .ref (z.2.2.1 0)), (2, .int v2), (3, .int v3), (4, .int v4), (5, .int v5), (6, .int v6)] [] σ (fX12_weather_b47 N rc47 v2 v3 v4 v5 v6 σ) := by
  unfold fX12_weather_b47
  refine V_iload 5 X dX12_weather_47 rfl ?_
  refine V_bipush (v := 20) X dX12_weather_49 (by decide) ?_
  refine V_icmp_ge (tgt := 81) X dX12_weather_51 (by decide) ?_ ?_
  · refine V_lconst (v := 1) X dX12_weather_81 (by decide) ?_
    refine V_lstoreG (L' := fun v6_12 => [(6, .long v6_12), (0, .ref (z.2.2.1 0)), (2, .int v2), (3, .int v3), (4, .int v4), (5, .int v5)]) X dX12_weather_82 (by decide) (fun _ => rfl) (fun v6_12 => ?_)
    refine V_iconst (v := 0) X dX12_weather_84 (by decide) ?_
    refine V_istoreG (L' := fun v8_13 => [(8, .int v8_13), (6, .long v6_12), (0, .ref (z.2.2.1 0)), (2, .int v2), (3, .int v3), (4, .int v4), (5, .int v5)]) X dX12_weather_85 (by decide) (fun _ => rfl) (fun v8_13 => ?_)
    refine V_iconst (v := 0) X dX12_weather_87 (by decide) ?_
    refine V_istoreG (L' := fun v9_14 => [(9, .int v9_14), (8, .int v8_13), (6, .long v6_12), (0, .ref (z.2.2.1 0)), (2, .int v2), (3, .int v3), (4, .int v4), (5, .int v5)]) X dX12_weather_88 (by decide) (fun _ => rfl) (fun v9_14 => ?_)
    refine V_sub [3, 4, 5, 6, 7, 2, 1, 0] rfl ?_
    exact lX12_weather_90 X E hr hZ N N v2 v3 v4 v5 v6_12 v8_13 v9_14 σ
  · refine V_aload_n 0 X dX12_weather_54 rfl rfl ?_
    refine V_getR (k1 := 13) 32 X dX12_weather_55 co12 (kM hZ 0 _ rfl) (by decide) rfl rfl wfX12_47 ?_
    refine V_iload 5 X dX12_weather_58 rfl ?_
    refine V_iload 5 X dX12_weather_60 rfl ?_
    refine V_aload_n 0 X dX12_weather_62 rfl rfl ?_
    refine V_getI 14 X dX12_weather_63 co12 (kM hZ 0 _ rfl) (by decide) rfl wfX12_180 ?_
    refine V_icmp_ne (tgt := 73) X dX12_weather_66 (by decide) ?_ ?_
    · refine V_lconst (v := 0) X dX12_weather_73 (by decide) ?_
      refine V_sub [0, 1, 2, 3, 4, 5] rfl ?_
      exact bX12_weather_74 X E hr hZ N rc47 hc47 v2 v3 v4 v5 v6 0 v6 σ
    · refine V_lconst (v := 1) X dX12_weather_69 (by decide) ?_
      refine V_goto (tgt := 74) X dX12_weather_70 (by decide) ?_
      refine V_sub [0, 1, 2, 3, 4, 5] rfl ?_
      exact bX12_weather_74 X E hr hZ N rc47 hc47 v2 v3 v4 v5 v6 1 v6 σ
def fX12_weather_l47 (N : Nat) : Nat → Int32 → Int32 → Int32 → Int32 → Int32 → Mem → Option (Int64 × Mem)
  | 0 => fun _ _ _ _ _ _ => none
  | n + 1 => fX12_weather_b47 N (fX12_weather_l47 N n)
theorem lX12_weather_47 {x : Cx} {z : Sx} (X : XG x z RX12 cX12_weather 12 5 113) (E : XE x z) (hr : XR x (some .long)) (hZ : z.2.2.2.1 = kdM) (N : Nat) (n : Nat) (v2 : Int32) (v3 : Int32) (v4 : Int32) (v5 : Int32) (v6 : Int32) (σ : Mem) : VK x z 12 (BQ QL x z) 47 [(0, .ref (z.2.2.1 0)), (2, .int v2), (3, .int v3), (4, .int v4), (5, .int v5), (6, .int v6)] [] σ (fX12_weather_l47 N n v2 v3 v4 v5 v6 σ) := by
  induction n generalizing v2 v3 v4 v5 v6 σ with
  | zero => exact V_none
  | succ n ih => exact bX12_weather_47 X E hr hZ N (fX12_weather_l47 N n) ih v2 v3 v4 v5 v6 σ
def fX12_weather (N : Nat) (v1 : Int32) (v2 : Int32) (v3 : Int32) (v4 : Int32) (v5 : Int32) (σ : Mem) : Option (Int64 × Mem) :=
  bd (fX12_isChamber N v1 σ) (fun r1 s2 => if r1 = 0 then some ((-1), s2) else bd (fX12_isMotion N v2 s2) (fun r3 s4 => if r3 = 0 then some ((-1), s4) else bd (fX12_isIn N v3 0 9 s4) (fun r5 s6 => if r5 = 0 then some ((-1), s6) else bd (fX12_isIn N v4 0 10 s6) (fun r7 s8 => if r7 = 0 then some ((-1), s8) else bd (fX12_asTold N s8) (fun r9 s10 => lt_ 0 (fun v6_11 => fX12_weather_l47 N N v2 v3 v4 v5 v6_11 s10))))))
set_option maxRecDepth 100000 in
set_option maxHeartbeats 4000000 in
theorem bX12_weather_0 {x : Cx} {z : Sx} (X : XG x z RX12 cX12_weather 12 5 113) (E : XE x z) (hr : XR x (some .long)) (hZ : z.2.2.2.1 = kdM) (N : Nat) (v1 : Int32) (v2 : Int32) (v3 : Int32) (v4 : Int32) (v5 : Int32) (σ : Mem) : VK x z 12 (BQ QL x z) 0 [(0, .ref (z.2.2.1 0)), (1, .int v1), (2, .int v2), (3, .int v3), (4, .int v4), (5, .int v5)] [] σ (fX12_weather N v1 v2 v3 v4 v5 σ) := by
  unfold fX12_weather
  refine V_aload_n 0 X dX12_weather_0 rfl rfl ?_
  refine V_iload_n 1 X dX12_weather_1 rfl rfl ?_
  refine V_callI [.int v1] [] X E dX12_weather_2 (kX12_isChamber x.2.1 z hZ N v1 σ) co12 (kM hZ 0 _ rfl) gcX12_165 hyX12_isChamber rfl ⟨by decide, by decide⟩ rfl (Nat.le_of_ble_eq_true rfl) (fun r1 s2 => ?_)
  refine V_if_eq (tgt := 36) X dX12_weather_5 (by decide) ?_ ?_
  · refine V_ldc2 (v := -1) X dX12_weather_36 csX12_308 ?_
    exact V_lret X E hr dX12_weather_39
  · refine V_iload_n 2 X dX12_weather_8 rfl rfl ?_
    refine V_calSI [.int v2] [] X E dX12_weather_9 (kX12_isMotion x.2.1 z hZ N v2 s2) gcX12_210 hyX12_isMotion rfl ⟨by decide, by decide⟩ rfl (Nat.le_of_ble_eq_true rfl) (fun r3 s4 => ?_)
    refine V_if_eq (tgt := 36) X dX12_weather_12 (by decide) ?_ ?_
    · refine V_ldc2 (v := -1) X dX12_weather_36 csX12_308 ?_
      exact V_lret X E hr dX12_weather_39
    · refine V_iload_n 3 X dX12_weather_15 rfl rfl ?_
      refine V_iconst (v := 0) X dX12_weather_16 (by decide) ?_
      refine V_bipush (v := 9) X dX12_weather_17 (by decide) ?_
      refine V_calSI [.int v3, .int 0, .int 9] [] X E dX12_weather_19 (kX12_isIn x.2.1 z hZ N v3 0 9 s4) gcX12_106 hyX12_isIn rfl ⟨by decide, by decide⟩ rfl (Nat.le_of_ble_eq_true rfl) (fun r5 s6 => ?_)
      refine V_if_eq (tgt := 36) X dX12_weather_22 (by decide) ?_ ?_
      · refine V_ldc2 (v := -1) X dX12_weather_36 csX12_308 ?_
        exact V_lret X E hr dX12_weather_39
      · refine V_iload 4 X dX12_weather_25 rfl ?_
        refine V_iconst (v := 0) X dX12_weather_27 (by decide) ?_
        refine V_bipush (v := 10) X dX12_weather_28 (by decide) ?_
        refine V_calSI [.int v4, .int 0, .int 10] [] X E dX12_weather_30 (kX12_isIn x.2.1 z hZ N v4 0 10 s6) gcX12_106 hyX12_isIn rfl ⟨by decide, by decide⟩ rfl (Nat.le_of_ble_eq_true rfl) (fun r7 s8 => ?_)
        refine V_if_ne (tgt := 40) X dX12_weather_33 (by decide) ?_ ?_
        · refine V_aload_n 0 X dX12_weather_40 rfl rfl ?_
          refine V_callV [] [] X E dX12_weather_41 (kX12_asTold x.2.1 z hZ N s8) co12 (kM hZ 0 _ rfl) gcX12_213 hyX12_asTold rfl ⟨by decide, by decide⟩ rfl (Nat.le_of_ble_eq_true rfl) (fun r9 s10 => ?_)
          refine V_iconst (v := 0) X dX12_weather_44 (by decide) ?_
          refine V_istoreG (L' := fun v6_11 => [(6, .int v6_11), (0, .ref (z.2.2.1 0)), (1, .int v1), (2, .int v2), (3, .int v3), (4, .int v4), (5, .int v5)]) X dX12_weather_45 (by decide) (fun _ => rfl) (fun v6_11 => ?_)
          refine V_sub [1, 3, 4, 5, 6, 0] rfl ?_
          exact lX12_weather_47 X E hr hZ N N v2 v3 v4 v5 v6_11 s10
        · refine V_ldc2 (v := -1) X dX12_weather_36 csX12_308 ?_
          exact V_lret X E hr dX12_weather_39
theorem kX12_weather (l : Launch) (z : Sx) (hZ : z.2.2.2.1 = kdM) (N : Nat) (v1 : Int32) (v2 : Int32) (v3 : Int32) (v4 : Int32) (v5 : Int32) (σ : Mem) : Ct QL yX12_weather cX12_weather 12 (some .long) 5 113 l z [.ref (z.2.2.1 0), .int v1, .int v2, .int v3, .int v4, .int v5] σ (fX12_weather N v1 v2 v3 v4 v5 σ) := by
  refine Ct_of (by decide +kernel) (Nat.le_of_ble_eq_true rfl) rfl ?_
  intro x _ X E hr
  exact bX12_weather_0 X E hr hZ N v1 v2 v3 v4 v5 σ
def fX12_isLog (N : Nat) (v1 : Int32) (σ : Mem) : Option (Int32 × Mem) :=
  bd (fX12_isOf N 2 v1 σ) (fun r1 s2 => if r1 = 0 then some (0, s2) else bd (fX12_placeOf N 2 v1 s2) (fun r3 s4 => lt_ (pI s4 0 33 r3) (fun s5 => some (1, s5))))
set_option maxRecDepth 100000 in
set_option maxHeartbeats 4000000 in
theorem bX12_isLog_0 {x : Cx} {z : Sx} (X : XG x z RX12 cX12_isLog 2 2 44) (E : XE x z) (hr : XR x (some .boolean)) (hZ : z.2.2.2.1 = kdM) (N : Nat) (v1 : Int32) (σ : Mem) : VK x z 2 (BQ QI x z) 0 [(0, .ref (z.2.2.1 0)), (1, .int v1)] [] σ (fX12_isLog N v1 σ) := by
  unfold fX12_isLog
  refine V_aload_n 0 X dX12_isLog_0 rfl rfl ?_
  refine V_iconst (v := 2) X dX12_isLog_1 (by decide) ?_
  refine V_iload_n 1 X dX12_isLog_2 rfl rfl ?_
  refine V_callI [.int 2, .int v1] [] X E dX12_isLog_3 (kX12_isOf x.2.1 z hZ N 2 v1 σ) co12 (kM hZ 0 _ rfl) gcX12_137 hyX12_isOf rfl ⟨by decide, by decide⟩ rfl (Nat.le_of_ble_eq_true rfl) (fun r1 s2 => ?_)
  refine V_if_ne (tgt := 11) X dX12_isLog_6 (by decide) ?_ ?_
  · refine V_aload_n 0 X dX12_isLog_11 rfl rfl ?_
    refine V_iconst (v := 2) X dX12_isLog_12 (by decide) ?_
    refine V_iload_n 1 X dX12_isLog_13 rfl rfl ?_
    refine V_calSI [.int 2, .int v1] [.ref (z.2.2.1 0)] X E dX12_isLog_14 (kX12_placeOf x.2.1 z hZ N 2 v1 s2) gcX12_153 hyX12_placeOf rfl ⟨by decide, by decide⟩ rfl (Nat.le_of_ble_eq_true rfl) (fun r3 s4 => ?_)
    refine V_putIG 33 X dX12_isLog_17 co12 (kM hZ 0 _ rfl) (by decide) rfl wfX12_348 rfl rfl rfl (fun s5 => ?_)
    refine V_iconst (v := 1) X dX12_isLog_20 (by decide) ?_
    exact V_zret X E hr dX12_isLog_21 (by decide)
  · refine V_iconst (v := 0) X dX12_isLog_9 (by decide) ?_
    exact V_zret X E hr dX12_isLog_10 (by decide)
theorem kX12_isLog (l : Launch) (z : Sx) (hZ : z.2.2.2.1 = kdM) (N : Nat) (v1 : Int32) (σ : Mem) : Ct QI yX12_isLog cX12_isLog 2 (some .boolean) 2 44 l z [.ref (z.2.2.1 0), .int v1] σ (fX12_isLog N v1 σ) := by
  refine Ct_of (by decide +kernel) (Nat.le_of_ble_eq_true rfl) rfl ?_
  intro x _ X E hr
  exact bX12_isLog_0 X E hr hZ N v1 σ
def fX12_fact (N : Nat) (v1 : Int32) (v2 : Int32) (v3 : Int32) (σ : Mem) : Option (Int32 × Mem) :=
  bd (fX12_isLog N v1 σ) (fun r1 s2 => if r1 = 0 then some ((-2), s2) else if v2 = (-1) then if v3 = 0 then gd (inb (s2.1 0 33) 4176) (some ((s2.1 1 (s2.1 0 33).toNatClampNeg), s2)) else some ((-2), s2) else gd (inb (s2.1 0 33) 4176) (bd (fX12_isIn N v2 0 ((s2.1 1 (s2.1 0 33).toNatClampNeg) - 1) s2) (fun r3 s4 => if r3 = 0 then some ((-2), s4) else bd (fX12_isIn N v3 0 3 s4) (fun r5 s6 => if r5 = 0 then some ((-2), s6) else gd (inb ((((s6.1 0 33) + 1) + (4 * v2)) + v3) 4176) (some ((s6.1 1 ((((s6.1 0 33) + 1) + (4 * v2)) + v3).toNatClampNeg), s6))))))
set_option maxRecDepth 100000 in
set_option maxHeartbeats 4000000 in
theorem bX12_fact_0 {x : Cx} {z : Sx} (X : XG x z RX12 cX12_fact 4 3 65) (E : XE x z) (hr : XR x (some .int)) (hZ : z.2.2.2.1 = kdM) (N : Nat) (v1 : Int32) (v2 : Int32) (v3 : Int32) (σ : Mem) : VK x z 4 (BQ QI x z) 0 [(0, .ref (z.2.2.1 0)), (1, .int v1), (2, .int v2), (3, .int v3)] [] σ (fX12_fact N v1 v2 v3 σ) := by
  unfold fX12_fact
  refine V_aload_n 0 X dX12_fact_0 rfl rfl ?_
  refine V_iload_n 1 X dX12_fact_1 rfl rfl ?_
  refine V_callI [.int v1] [] X E dX12_fact_2 (kX12_isLog x.2.1 z hZ N v1 σ) co12 (kM hZ 0 _ rfl) gcX12_351 hyX12_isLog rfl ⟨by decide, by decide⟩ rfl (Nat.le_of_ble_eq_true rfl) (fun r1 s2 => ?_)
  refine V_if_ne (tgt := 11) X dX12_fact_5 (by decide) ?_ ?_
  · refine V_iload_n 2 X dX12_fact_11 rfl rfl ?_
    refine V_iconst (v := -1) X dX12_fact_12 (by decide) ?_
    refine V_icmp_ne (tgt := 35) X dX12_fact_13 (by decide) ?_ ?_
    · refine V_iload_n 2 X dX12_fact_35 rfl rfl ?_
      refine V_iconst (v := 0) X dX12_fact_36 (by decide) ?_
      refine V_aload_n 0 X dX12_fact_37 rfl rfl ?_
      refine V_getR (k1 := 1) 0 X dX12_fact_38 co12 (kM hZ 0 _ rfl) (by decide) rfl rfl wfX12_7 ?_
      refine V_aload_n 0 X dX12_fact_41 rfl rfl ?_
      refine V_getI 33 X dX12_fact_42 co12 (kM hZ 0 _ rfl) (by decide) rfl wfX12_348 ?_
      refine V_iald X dX12_fact_45 (kM hZ 1 _ rfl) ?_
      refine V_iconst (v := 1) X dX12_fact_46 (by decide) ?_
      refine V_isub X dX12_fact_47 ?_
      refine V_calSI [.int v2, .int 0, .int ((s2.1 1 (s2.1 0 33).toNatClampNeg) - 1)] [] X E dX12_fact_48 (kX12_isIn x.2.1 z hZ N v2 0 ((s2.1 1 (s2.1 0 33).toNatClampNeg) - 1) s2) gcX12_106 hyX12_isIn rfl ⟨by decide, by decide⟩ rfl (Nat.le_of_ble_eq_true rfl) (fun r3 s4 => ?_)
      refine V_if_eq (tgt := 83) X dX12_fact_51 (by decide) ?_ ?_
      · refine V_bipush (v := -2) X dX12_fact_83 (by decide) ?_
        exact V_iret X E hr dX12_fact_85
      · refine V_iload_n 3 X dX12_fact_54 rfl rfl ?_
        refine V_iconst (v := 0) X dX12_fact_55 (by decide) ?_
        refine V_iconst (v := 3) X dX12_fact_56 (by decide) ?_
        refine V_calSI [.int v3, .int 0, .int 3] [] X E dX12_fact_57 (kX12_isIn x.2.1 z hZ N v3 0 3 s4) gcX12_106 hyX12_isIn rfl ⟨by decide, by decide⟩ rfl (Nat.le_of_ble_eq_true rfl) (fun r5 s6 => ?_)
        refine V_if_eq (tgt := 83) X dX12_fact_60 (by decide) ?_ ?_
        · refine V_bipush (v := -2) X dX12_fact_83 (by decide) ?_
          exact V_iret X E hr dX12_fact_85
        · refine V_aload_n 0 X dX12_fact_63 rfl rfl ?_
          refine V_getR (k1 := 1) 0 X dX12_fact_64 co12 (kM hZ 0 _ rfl) (by decide) rfl rfl wfX12_7 ?_
          refine V_aload_n 0 X dX12_fact_67 rfl rfl ?_
          refine V_getI 33 X dX12_fact_68 co12 (kM hZ 0 _ rfl) (by decide) rfl wfX12_348 ?_
          refine V_iconst (v := 1) X dX12_fact_71 (by decide) ?_
          refine V_iadd X dX12_fact_72 ?_
          refine V_iconst (v := 4) X dX12_fact_73 (by decide) ?_
          refine V_iload_n 2 X dX12_fact_74 rfl rfl ?_
          refine V_imul X dX12_fact_75 ?_
          refine V_iadd X dX12_fact_76 ?_
          refine V_iload_n 3 X dX12_fact_77 rfl rfl ?_
          refine V_iadd X dX12_fact_78 ?_
          refine V_iald X dX12_fact_79 (kM hZ 1 _ rfl) ?_
          refine V_goto (tgt := 85) X dX12_fact_80 (by decide) ?_
          exact V_iret X E hr dX12_fact_85
    · refine V_iload_n 3 X dX12_fact_16 rfl rfl ?_
      refine V_if_ne (tgt := 32) X dX12_fact_17 (by decide) ?_ ?_
      · refine V_bipush (v := -2) X dX12_fact_32 (by decide) ?_
        exact V_iret X E hr dX12_fact_34
      · refine V_aload_n 0 X dX12_fact_20 rfl rfl ?_
        refine V_getR (k1 := 1) 0 X dX12_fact_21 co12 (kM hZ 0 _ rfl) (by decide) rfl rfl wfX12_7 ?_
        refine V_aload_n 0 X dX12_fact_24 rfl rfl ?_
        refine V_getI 33 X dX12_fact_25 co12 (kM hZ 0 _ rfl) (by decide) rfl wfX12_348 ?_
        refine V_iald X dX12_fact_28 (kM hZ 1 _ rfl) ?_
        refine V_goto (tgt := 34) X dX12_fact_29 (by decide) ?_
        exact V_iret X E hr dX12_fact_34
  · refine V_bipush (v := -2) X dX12_fact_8 (by decide) ?_
    exact V_iret X E hr dX12_fact_10
theorem kX12_fact (l : Launch) (z : Sx) (hZ : z.2.2.2.1 = kdM) (N : Nat) (v1 : Int32) (v2 : Int32) (v3 : Int32) (σ : Mem) : Ct QI yX12_fact cX12_fact 4 (some .int) 3 65 l z [.ref (z.2.2.1 0), .int v1, .int v2, .int v3] σ (fX12_fact N v1 v2 v3 σ) := by
  refine Ct_of (by decide +kernel) (Nat.le_of_ble_eq_true rfl) rfl ?_
  intro x _ X E hr
  exact bX12_fact_0 X E hr hZ N v1 v2 v3 σ
def fX12_sounds (N : Nat) (v0 : Int32) (v1 : Int32) (v2 : Int32) (v3 : Int32) (σ : Mem) : Option (Int32 × Mem) :=
  if ((v1 + (v2 * (v0 / 99))) + (3 * v3)) < ((rmI v0 99) + 1) then some (0, σ) else some (1, σ)
set_option maxRecDepth 100000 in
set_option maxHeartbeats 4000000 in
theorem bX12_sounds_0 {x : Cx} {z : Sx} (X : XG x z RX12 cX12_sounds 4 0 0) (E : XE x z) (hr : XR x (some .boolean)) (hZ : z.2.2.2.1 = kdM) (N : Nat) (v0 : Int32) (v1 : Int32) (v2 : Int32) (v3 : Int32) (σ : Mem) : VK x z 4 (BQ QI x z) 0 [(0, .int v0), (1, .int v1), (2, .int v2), (3, .int v3)] [] σ (fX12_sounds N v0 v1 v2 v3 σ) := by
  unfold fX12_sounds
  refine V_iload_n 1 X dX12_sounds_0 rfl rfl ?_
  refine V_iload_n 2 X dX12_sounds_1 rfl rfl ?_
  refine V_iload_n 0 X dX12_sounds_2 rfl rfl ?_
  refine V_bipush (v := 99) X dX12_sounds_3 (by decide) ?_
  refine V_idivK X dX12_sounds_5 (by decide) ?_
  refine V_imul X dX12_sounds_6 ?_
  refine V_iadd X dX12_sounds_7 ?_
  refine V_iconst (v := 3) X dX12_sounds_8 (by decide) ?_
  refine V_iload_n 3 X dX12_sounds_9 rfl rfl ?_
  refine V_imul X dX12_sounds_10 ?_
  refine V_iadd X dX12_sounds_11 ?_
  refine V_iload_n 0 X dX12_sounds_12 rfl rfl ?_
  refine V_bipush (v := 99) X dX12_sounds_13 (by decide) ?_
  refine V_iremKG X dX12_sounds_15 (by decide) ?_
  refine V_iconst (v := 1) X dX12_sounds_16 (by decide) ?_
  refine V_iadd X dX12_sounds_17 ?_
  refine V_icmp_lt (tgt := 25) X dX12_sounds_18 (by decide) ?_ ?_
  · refine V_iconst (v := 0) X dX12_sounds_25 (by decide) ?_
    exact V_zret X E hr dX12_sounds_26 (by decide)
  · refine V_iconst (v := 1) X dX12_sounds_21 (by decide) ?_
    refine V_goto (tgt := 26) X dX12_sounds_22 (by decide) ?_
    exact V_zret X E hr dX12_sounds_26 (by decide)
theorem kX12_sounds (l : Launch) (z : Sx) (hZ : z.2.2.2.1 = kdM) (N : Nat) (v0 : Int32) (v1 : Int32) (v2 : Int32) (v3 : Int32) (σ : Mem) : Ct QI yX12_sounds cX12_sounds 4 (some .boolean) 0 0 l z [.int v0, .int v1, .int v2, .int v3] σ (fX12_sounds N v0 v1 v2 v3 σ) := by
  refine Ct_of (by decide +kernel) (Nat.le_of_ble_eq_true rfl) rfl ?_
  intro x _ X E hr
  exact bX12_sounds_0 X E hr hZ N v0 v1 v2 v3 σ
def fX12_isSo_b88 (N : Nat) (rc4 : Int32 → Int32 → Int32 → Mem → Option (Int32 × Mem)) (v1 : Int32) (v3 : Int32) (t0 : Int32) (σ : Mem) : Option (Int32 × Mem) :=
  lt_ t0 (fun v2_6 => lt_ (v3 + 1) (fun v3_7 => rc4 v1 v2_6 v3_7 σ))
set_option maxRecDepth 100000 in
set_option maxHeartbeats 4000000 in
theorem bX12_isSo_88 {x : Cx} {z : Sx} (X : XG x z RX12 cX12_isSo 5 1 23) (E : XE x z) (hr : XR x (some .boolean)) (hZ : z.2.2.2.1 = kdM) (N : Nat) (rc4 : Int32 → Int32 → Int32 → Mem → Option (Int32 × Mem)) (hc4 : ∀ (v1 : Int32) (v2 : Int32) (v3 : Int32) (σ : Mem), VK x z 5 (BQ QI x z) 4 [(0, .ref (z.2.2.1 0)), (1, .int v1), (2, .int v2), (3, .int v3)] [] σ (rc4 v1 v2 v3 σ)) (v1 : Int32) (v3 : Int32) (t0 : Int32) (σ : Mem) : VK x z 5 (BQ QI x z) 88 [(0, .ref (z.2.2.1 0)), (1, .int v1), (3, .int v3)] [.int t0] σ (fX12_isSo_b88 N rc4 v1 v3 t0 σ) := by
  unfold fX12_isSo_b88
  refine V_istore_nG (L' := fun v2_6 => [(2, .int v2_6), (0, .ref (z.2.2.1 0)), (1, .int v1), (3, .int v3)]) X dX12_isSo_88 rfl (by decide) (fun _ => rfl) (fun v2_6 => ?_)
  refine V_iincG (L' := fun v3_7 => [(3, .int v3_7), (2, .int v2_6), (0, .ref (z.2.2.1 0)), (1, .int v1)]) 3 X dX12_isSo_89 rfl rfl (by decide) (fun _ => rfl) (fun v3_7 => ?_)
  refine V_goto (tgt := 4) X dX12_isSo_92 (by decide) ?_
  refine V_sub [2, 3, 1, 0] rfl ?_
  exact hc4 v1 v2_6 v3_7 σ
def fX12_isSo_b80 (N : Nat) (rc4 : Int32 → Int32 → Int32 → Mem → Option (Int32 × Mem)) (v1 : Int32) (v3 : Int32) (t0 : Int32) (t1 : Int32) (σ : Mem) : Option (Int32 × Mem) :=
  if t1 = t0 then fX12_isSo_b88 N rc4 v1 v3 1 σ else fX12_isSo_b88 N rc4 v1 v3 0 σ
set_option maxRecDepth 100000 in
set_option maxHeartbeats 4000000 in
theorem bX12_isSo_80 {x : Cx} {z : Sx} (X : XG x z RX12 cX12_isSo 5 1 23) (E : XE x z) (hr : XR x (some .boolean)) (hZ : z.2.2.2.1 = kdM) (N : Nat) (rc4 : Int32 → Int32 → Int32 → Mem → Option (Int32 × Mem)) (hc4 : ∀ (v1 : Int32) (v2 : Int32) (v3 : Int32) (σ : Mem), VK x z 5 (BQ QI x z) 4 [(0, .ref (z.2.2.1 0)), (1, .int v1), (2, .int v2), (3, .int v3)] [] σ (rc4 v1 v2 v3 σ)) (v1 : Int32) (v3 : Int32) (t0 : Int32) (t1 : Int32) (σ : Mem) : VK x z 5 (BQ QI x z) 80 [(0, .ref (z.2.2.1 0)), (1, .int v1), (3, .int v3)] [.int t0, .int t1] σ (fX12_isSo_b80 N rc4 v1 v3 t0 t1 σ) := by
  unfold fX12_isSo_b80
  refine V_icmp_ne (tgt := 87) X dX12_isSo_80 (by decide) ?_ ?_
  · refine V_iconst (v := 0) X dX12_isSo_87 (by decide) ?_
    refine V_sub [0, 1, 2] rfl ?_
    exact bX12_isSo_88 X E hr hZ N rc4 hc4 v1 v3 0 σ
  · refine V_iconst (v := 1) X dX12_isSo_83 (by decide) ?_
    refine V_goto (tgt := 88) X dX12_isSo_84 (by decide) ?_
    refine V_sub [0, 1, 2] rfl ?_
    exact bX12_isSo_88 X E hr hZ N rc4 hc4 v1 v3 1 σ
def fX12_isSo_b4 (N : Nat) (rc4 : Int32 → Int32 → Int32 → Mem → Option (Int32 × Mem)) (v1 : Int32) (v2 : Int32) (v3 : Int32) (σ : Mem) : Option (Int32 × Mem) :=
  gd (inb (σ.1 0 33) 4176) (if (σ.1 1 (σ.1 0 33).toNatClampNeg) ≤ v3 then gd (decide (v2 = 0 ∨ v2 = 1)) (some (v2, σ)) else if v2 = 0 then gd (decide (v2 = 0 ∨ v2 = 1)) (some (v2, σ)) else lt_ (((σ.1 0 33) + 1) + (4 * v3)) (fun v4_3 => gd (inb (v4_3 + 1) 4176) (gd (inb (v4_3 + 2) 4176) (gd (inb (v4_3 + 3) 4176) (bd (fX12_sounds N v1 (σ.1 1 (v4_3 + 1).toNatClampNeg) (σ.1 1 (v4_3 + 2).toNatClampNeg) (σ.1 1 (v4_3 + 3).toNatClampNeg) σ) (fun r4 s5 => gd (inb v4_3 4176) (if (s5.1 1 v4_3.toNatClampNeg) = 1 then fX12_isSo_b80 N rc4 v1 v3 1 r4 s5 else fX12_isSo_b80 N rc4 v1 v3 0 r4 s5)))))))
set_option maxRecDepth 100000 in
set_option maxHeartbeats 4000000 in
theorem bX12_isSo_4 {x : Cx} {z : Sx} (X : XG x z RX12 cX12_isSo 5 1 23) (E : XE x z) (hr : XR x (some .boolean)) (hZ : z.2.2.2.1 = kdM) (N : Nat) (rc4 : Int32 → Int32 → Int32 → Mem → Option (Int32 × Mem)) (hc4 : ∀ (v1 : Int32) (v2 : Int32) (v3 : Int32) (σ : Mem), VK x z 5 (BQ QI x z) 4 [(0, .ref (z.2.2.1 0)), (1, .int v1), (2, .int v2), (3, .int v3)] [] σ (rc4 v1 v2 v3 σ)) (v1 : Int32) (v2 : Int32) (v3 : Int32) (σ : Mem) : VK x z 5 (BQ QI x z) 4 [(0, .ref (z.2.2.1 0)), (1, .int v1), (2, .int v2), (3, .int v3)] [] σ (fX12_isSo_b4 N rc4 v1 v2 v3 σ) := by
  unfold fX12_isSo_b4
  refine V_iload_n 3 X dX12_isSo_4 rfl rfl ?_
  refine V_aload_n 0 X dX12_isSo_5 rfl rfl ?_
  refine V_getR (k1 := 1) 0 X dX12_isSo_6 co12 (kM hZ 0 _ rfl) (by decide) rfl rfl wfX12_7 ?_
  refine V_aload_n 0 X dX12_isSo_9 rfl rfl ?_
  refine V_getI 33 X dX12_isSo_10 co12 (kM hZ 0 _ rfl) (by decide) rfl wfX12_348 ?_
  refine V_iald X dX12_isSo_13 (kM hZ 1 _ rfl) ?_
  refine V_icmp_ge (tgt := 95) X dX12_isSo_14 (by decide) ?_ ?_
  · refine V_iload_n 2 X dX12_isSo_95 rfl rfl ?_
    exact V_zretG X E hr dX12_isSo_96
  · refine V_iload_n 2 X dX12_isSo_17 rfl rfl ?_
    refine V_if_eq (tgt := 95) X dX12_isSo_18 (by decide) ?_ ?_
    · refine V_iload_n 2 X dX12_isSo_95 rfl rfl ?_
      exact V_zretG X E hr dX12_isSo_96
    · refine V_aload_n 0 X dX12_isSo_21 rfl rfl ?_
      refine V_getI 33 X dX12_isSo_22 co12 (kM hZ 0 _ rfl) (by decide) rfl wfX12_348 ?_
      refine V_iconst (v := 1) X dX12_isSo_25 (by decide) ?_
      refine V_iadd X dX12_isSo_26 ?_
      refine V_iconst (v := 4) X dX12_isSo_27 (by decide) ?_
      refine V_iload_n 3 X dX12_isSo_28 rfl rfl ?_
      refine V_imul X dX12_isSo_29 ?_
      refine V_iadd X dX12_isSo_30 ?_
      refine V_istoreG (L' := fun v4_3 => [(4, .int v4_3), (0, .ref (z.2.2.1 0)), (1, .int v1), (2, .int v2), (3, .int v3)]) X dX12_isSo_31 (by decide) (fun _ => rfl) (fun v4_3 => ?_)
      refine V_iload_n 2 X dX12_isSo_33 rfl rfl ?_
      refine V_aload_n 1 X dX12_isSo_34 rfl rfl ?_
      refine V_getR (k1 := 1) 0 X dX12_isSo_35 co12 (kM hZ 0 _ rfl) (by decide) rfl rfl wfX12_7 ?_
      refine V_iload 0 X dX12_isSo_38 rfl ?_
      refine V_iconst (v := 1) X dX12_isSo_40 (by decide) ?_
      refine V_iadd X dX12_isSo_41 ?_
      refine V_iald X dX12_isSo_42 (kM hZ 1 _ rfl) ?_
      refine V_aload_n 1 X dX12_isSo_43 rfl rfl ?_
      refine V_getR (k1 := 1) 0 X dX12_isSo_44 co12 (kM hZ 0 _ rfl) (by decide) rfl rfl wfX12_7 ?_
      refine V_iload 0 X dX12_isSo_47 rfl ?_
      refine V_iconst (v := 2) X dX12_isSo_49 (by decide) ?_
      refine V_iadd X dX12_isSo_50 ?_
      refine V_iald X dX12_isSo_51 (kM hZ 1 _ rfl) ?_
      refine V_aload_n 1 X dX12_isSo_52 rfl rfl ?_
      refine V_getR (k1 := 1) 0 X dX12_isSo_53 co12 (kM hZ 0 _ rfl) (by decide) rfl rfl wfX12_7 ?_
      refine V_iload 0 X dX12_isSo_56 rfl ?_
      refine V_iconst (v := 3) X dX12_isSo_58 (by decide) ?_
      refine V_iadd X dX12_isSo_59 ?_
      refine V_iald X dX12_isSo_60 (kM hZ 1 _ rfl) ?_
      refine V_calSI [.int v1, .int (σ.1 1 (v4_3 + 1).toNatClampNeg), .int (σ.1 1 (v4_3 + 2).toNatClampNeg), .int (σ.1 1 (v4_3 + 3).toNatClampNeg)] [] X E dX12_isSo_61 (kX12_sounds x.2.1 z hZ N v1 (σ.1 1 (v4_3 + 1).toNatClampNeg) (σ.1 1 (v4_3 + 2).toNatClampNeg) (σ.1 1 (v4_3 + 3).toNatClampNeg) σ) gcX12_354 hyX12_sounds rfl ⟨by decide, by decide⟩ rfl (Nat.le_of_ble_eq_true rfl) (fun r4 s5 => ?_)
      refine V_aload_n 1 X dX12_isSo_64 rfl rfl ?_
      refine V_getR (k1 := 1) 0 X dX12_isSo_65 co12 (kM hZ 0 _ rfl) (by decide) rfl rfl wfX12_7 ?_
      refine V_iload 0 X dX12_isSo_68 rfl ?_
      refine V_iald X dX12_isSo_70 (kM hZ 1 _ rfl) ?_
      refine V_iconst (v := 1) X dX12_isSo_71 (by decide) ?_
      refine V_icmp_ne (tgt := 79) X dX12_isSo_72 (by decide) ?_ ?_
      · refine V_iconst (v := 0) X dX12_isSo_79 (by decide) ?_
        refine V_sub [1, 2, 4] rfl ?_
        exact bX12_isSo_80 X E hr hZ N rc4 hc4 v1 v3 0 r4 s5
      · refine V_iconst (v := 1) X dX12_isSo_75 (by decide) ?_
        refine V_goto (tgt := 80) X dX12_isSo_76 (by decide) ?_
        refine V_sub [1, 2, 4] rfl ?_
        exact bX12_isSo_80 X E hr hZ N rc4 hc4 v1 v3 1 r4 s5
def fX12_isSo_l4 (N : Nat) : Nat → Int32 → Int32 → Int32 → Mem → Option (Int32 × Mem)
  | 0 => fun _ _ _ _ => none
  | n + 1 => fX12_isSo_b4 N (fX12_isSo_l4 N n)
theorem lX12_isSo_4 {x : Cx} {z : Sx} (X : XG x z RX12 cX12_isSo 5 1 23) (E : XE x z) (hr : XR x (some .boolean)) (hZ : z.2.2.2.1 = kdM) (N : Nat) (n : Nat) (v1 : Int32) (v2 : Int32) (v3 : Int32) (σ : Mem) : VK x z 5 (BQ QI x z) 4 [(0, .ref (z.2.2.1 0)), (1, .int v1), (2, .int v2), (3, .int v3)] [] σ (fX12_isSo_l4 N n v1 v2 v3 σ) := by
  induction n generalizing v1 v2 v3 σ with
  | zero => exact V_none
  | succ n ih => exact bX12_isSo_4 X E hr hZ N (fX12_isSo_l4 N n) ih v1 v2 v3 σ
def fX12_isSo (N : Nat) (v1 : Int32) (σ : Mem) : Option (Int32 × Mem) :=
  lt_ 1 (fun v2_1 => lt_ 0 (fun v3_2 => fX12_isSo_l4 N N v1 v2_1 v3_2 σ))
set_option maxRecDepth 100000 in
set_option maxHeartbeats 4000000 in
theorem bX12_isSo_0 {x : Cx} {z : Sx} (X : XG x z RX12 cX12_isSo 5 1 23) (E : XE x z) (hr : XR x (some .boolean)) (hZ : z.2.2.2.1 = kdM) (N : Nat) (v1 : Int32) (σ : Mem) : VK x z 5 (BQ QI x z) 0 [(0, .ref (z.2.2.1 0)), (1, .int v1)] [] σ (fX12_isSo N v1 σ) := by
  unfold fX12_isSo
  refine V_iconst (v := 1) X dX12_isSo_0 (by decide) ?_
  refine V_istore_nG (L' := fun v2_1 => [(2, .int v2_1), (0, .ref (z.2.2.1 0)), (1, .int v1)]) X dX12_isSo_1 rfl (by decide) (fun _ => rfl) (fun v2_1 => ?_)
  refine V_iconst (v := 0) X dX12_isSo_2 (by decide) ?_
  refine V_istore_nG (L' := fun v3_2 => [(3, .int v3_2), (2, .int v2_1), (0, .ref (z.2.2.1 0)), (1, .int v1)]) X dX12_isSo_3 rfl (by decide) (fun _ => rfl) (fun v3_2 => ?_)
  refine V_sub [2, 3, 1, 0] rfl ?_
  exact lX12_isSo_4 X E hr hZ N N v1 v2_1 v3_2 σ
theorem kX12_isSo (l : Launch) (z : Sx) (hZ : z.2.2.2.1 = kdM) (N : Nat) (v1 : Int32) (σ : Mem) : Ct QI yX12_isSo cX12_isSo 5 (some .boolean) 1 23 l z [.ref (z.2.2.1 0), .int v1] σ (fX12_isSo N v1 σ) := by
  refine Ct_of (by decide +kernel) (Nat.le_of_ble_eq_true rfl) rfl ?_
  intro x _ X E hr
  exact bX12_isSo_0 X E hr hZ N v1 σ
def fX12_fitting_b25 (N : Nat) (rc4 : Int32 → Int32 → Mem → Option (Int32 × Mem)) (v2 : Int32) (t0 : Int32) (t1 : Int32) (σ : Mem) : Option (Int32 × Mem) :=
  lt_ (t1 + t0) (fun v1_5 => lt_ (v2 + 1) (fun v2_6 => rc4 v1_5 v2_6 σ))
set_option maxRecDepth 100000 in
set_option maxHeartbeats 4000000 in
theorem bX12_fitting_25 {x : Cx} {z : Sx} (X : XG x z RX12 cX12_fitting 3 2 47) (E : XE x z) (hr : XR x (some .int)) (hZ : z.2.2.2.1 = kdM) (N : Nat) (rc4 : Int32 → Int32 → Mem → Option (Int32 × Mem)) (hc4 : ∀ (v1 : Int32) (v2 : Int32) (σ : Mem), VK x z 3 (BQ QI x z) 4 [(0, .ref (z.2.2.1 0)), (1, .int v1), (2, .int v2)] [] σ (rc4 v1 v2 σ)) (v2 : Int32) (t0 : Int32) (t1 : Int32) (σ : Mem) : VK x z 3 (BQ QI x z) 25 [(0, .ref (z.2.2.1 0)), (2, .int v2)] [.int t0, .int t1] σ (fX12_fitting_b25 N rc4 v2 t0 t1 σ) := by
  unfold fX12_fitting_b25
  refine V_iadd X dX12_fitting_25 ?_
  refine V_istore_nG (L' := fun v1_5 => [(1, .int v1_5), (0, .ref (z.2.2.1 0)), (2, .int v2)]) X dX12_fitting_26 rfl (by decide) (fun _ => rfl) (fun v1_5 => ?_)
  refine V_iincG (L' := fun v2_6 => [(2, .int v2_6), (1, .int v1_5), (0, .ref (z.2.2.1 0))]) 2 X dX12_fitting_27 rfl rfl (by decide) (fun _ => rfl) (fun v2_6 => ?_)
  refine V_goto (tgt := 4) X dX12_fitting_30 (by decide) ?_
  refine V_sub [2, 1, 0] rfl ?_
  exact hc4 v1_5 v2_6 σ
def fX12_fitting_b4 (N : Nat) (rc4 : Int32 → Int32 → Mem → Option (Int32 × Mem)) (v1 : Int32) (v2 : Int32) (σ : Mem) : Option (Int32 × Mem) :=
  if 297 ≤ v2 then some (v1, σ) else bd (fX12_isSo N v2 σ) (fun r3 s4 => if r3 = 0 then fX12_fitting_b25 N rc4 v2 0 v1 s4 else fX12_fitting_b25 N rc4 v2 1 v1 s4)
set_option maxRecDepth 100000 in
set_option maxHeartbeats 4000000 in
theorem bX12_fitting_4 {x : Cx} {z : Sx} (X : XG x z RX12 cX12_fitting 3 2 47) (E : XE x z) (hr : XR x (some .int)) (hZ : z.2.2.2.1 = kdM) (N : Nat) (rc4 : Int32 → Int32 → Mem → Option (Int32 × Mem)) (hc4 : ∀ (v1 : Int32) (v2 : Int32) (σ : Mem), VK x z 3 (BQ QI x z) 4 [(0, .ref (z.2.2.1 0)), (1, .int v1), (2, .int v2)] [] σ (rc4 v1 v2 σ)) (v1 : Int32) (v2 : Int32) (σ : Mem) : VK x z 3 (BQ QI x z) 4 [(0, .ref (z.2.2.1 0)), (1, .int v1), (2, .int v2)] [] σ (fX12_fitting_b4 N rc4 v1 v2 σ) := by
  unfold fX12_fitting_b4
  refine V_iload_n 2 X dX12_fitting_4 rfl rfl ?_
  refine V_sipush (v := 297) X dX12_fitting_5 (by decide) ?_
  refine V_icmp_ge (tgt := 33) X dX12_fitting_8 (by decide) ?_ ?_
  · refine V_iload_n 1 X dX12_fitting_33 rfl rfl ?_
    exact V_iret X E hr dX12_fitting_34
  · refine V_iload_n 1 X dX12_fitting_11 rfl rfl ?_
    refine V_aload_n 0 X dX12_fitting_12 rfl rfl ?_
    refine V_iload_n 2 X dX12_fitting_13 rfl rfl ?_
    refine V_callI [.int v2] [.int v1] X E dX12_fitting_14 (kX12_isSo x.2.1 z hZ N v2 σ) co12 (kM hZ 0 _ rfl) gcX12_358 hyX12_isSo rfl ⟨by decide, by decide⟩ rfl (Nat.le_of_ble_eq_true rfl) (fun r3 s4 => ?_)
    refine V_if_eq (tgt := 24) X dX12_fitting_17 (by decide) ?_ ?_
    · refine V_iconst (v := 0) X dX12_fitting_24 (by decide) ?_
      refine V_sub [0, 2] rfl ?_
      exact bX12_fitting_25 X E hr hZ N rc4 hc4 v2 0 v1 s4
    · refine V_iconst (v := 1) X dX12_fitting_20 (by decide) ?_
      refine V_goto (tgt := 25) X dX12_fitting_21 (by decide) ?_
      refine V_sub [0, 2] rfl ?_
      exact bX12_fitting_25 X E hr hZ N rc4 hc4 v2 1 v1 s4
def fX12_fitting_l4 (N : Nat) : Nat → Int32 → Int32 → Mem → Option (Int32 × Mem)
  | 0 => fun _ _ _ => none
  | n + 1 => fX12_fitting_b4 N (fX12_fitting_l4 N n)
theorem lX12_fitting_4 {x : Cx} {z : Sx} (X : XG x z RX12 cX12_fitting 3 2 47) (E : XE x z) (hr : XR x (some .int)) (hZ : z.2.2.2.1 = kdM) (N : Nat) (n : Nat) (v1 : Int32) (v2 : Int32) (σ : Mem) : VK x z 3 (BQ QI x z) 4 [(0, .ref (z.2.2.1 0)), (1, .int v1), (2, .int v2)] [] σ (fX12_fitting_l4 N n v1 v2 σ) := by
  induction n generalizing v1 v2 σ with
  | zero => exact V_none
  | succ n ih => exact bX12_fitting_4 X E hr hZ N (fX12_fitting_l4 N n) ih v1 v2 σ
def fX12_fitting (N : Nat) (σ : Mem) : Option (Int32 × Mem) :=
  lt_ 0 (fun v1_1 => lt_ 0 (fun v2_2 => fX12_fitting_l4 N N v1_1 v2_2 σ))
set_option maxRecDepth 100000 in
set_option maxHeartbeats 4000000 in
theorem bX12_fitting_0 {x : Cx} {z : Sx} (X : XG x z RX12 cX12_fitting 3 2 47) (E : XE x z) (hr : XR x (some .int)) (hZ : z.2.2.2.1 = kdM) (N : Nat) (σ : Mem) : VK x z 3 (BQ QI x z) 0 [(0, .ref (z.2.2.1 0))] [] σ (fX12_fitting N σ) := by
  unfold fX12_fitting
  refine V_iconst (v := 0) X dX12_fitting_0 (by decide) ?_
  refine V_istore_nG (L' := fun v1_1 => [(1, .int v1_1), (0, .ref (z.2.2.1 0))]) X dX12_fitting_1 rfl (by decide) (fun _ => rfl) (fun v1_1 => ?_)
  refine V_iconst (v := 0) X dX12_fitting_2 (by decide) ?_
  refine V_istore_nG (L' := fun v2_2 => [(2, .int v2_2), (1, .int v1_1), (0, .ref (z.2.2.1 0))]) X dX12_fitting_3 rfl (by decide) (fun _ => rfl) (fun v2_2 => ?_)
  refine V_sub [2, 1, 0] rfl ?_
  exact lX12_fitting_4 X E hr hZ N N v1_1 v2_2 σ
theorem kX12_fitting (l : Launch) (z : Sx) (hZ : z.2.2.2.1 = kdM) (N : Nat) (σ : Mem) : Ct QI yX12_fitting cX12_fitting 3 (some .int) 2 47 l z [.ref (z.2.2.1 0)] σ (fX12_fitting N σ) := by
  refine Ct_of (by decide +kernel) (Nat.le_of_ble_eq_true rfl) rfl ?_
  intro x _ X E hr
  exact bX12_fitting_0 X E hr hZ N σ
def fX12_sureOf_b57 (N : Nat) (rc4 : Int32 → Int32 → Int32 → Mem → Option (Int32 × Mem)) (v1 : Int32) (v2 : Int32) (v3 : Int32) (σ : Mem) : Option (Int32 × Mem) :=
  lt_ (v3 + 1) (fun v3_6 => rc4 v1 v2 v3_6 σ)
set_option maxRecDepth 100000 in
set_option maxHeartbeats 4000000 in
theorem bX12_sureOf_57 {x : Cx} {z : Sx} (X : XG x z RX12 cX12_sureOf 5 2 47) (E : XE x z) (hr : XR x (some .int)) (hZ : z.2.2.2.1 = kdM) (N : Nat) (rc4 : Int32 → Int32 → Int32 → Mem → Option (Int32 × Mem)) (hc4 : ∀ (v1 : Int32) (v2 : Int32) (v3 : Int32) (σ : Mem), VK x z 5 (BQ QI x z) 4 [(0, .ref (z.2.2.1 0)), (1, .int v1), (2, .int v2), (3, .int v3)] [] σ (rc4 v1 v2 v3 σ)) (v1 : Int32) (v2 : Int32) (v3 : Int32) (σ : Mem) : VK x z 5 (BQ QI x z) 57 [(0, .ref (z.2.2.1 0)), (1, .int v1), (2, .int v2), (3, .int v3)] [] σ (fX12_sureOf_b57 N rc4 v1 v2 v3 σ) := by
  unfold fX12_sureOf_b57
  refine V_iincG (L' := fun v3_6 => [(3, .int v3_6), (0, .ref (z.2.2.1 0)), (1, .int v1), (2, .int v2)]) 3 X dX12_sureOf_57 rfl rfl (by decide) (fun _ => rfl) (fun v3_6 => ?_)
  refine V_goto (tgt := 4) X dX12_sureOf_60 (by decide) ?_
  refine V_sub [1, 2, 3, 0] rfl ?_
  exact hc4 v1 v2 v3_6 σ
def fX12_sureOf_b54 (N : Nat) (rc4 : Int32 → Int32 → Int32 → Mem → Option (Int32 × Mem)) (v1 : Int32) (v3 : Int32) (v4 : Int32) (σ : Mem) : Option (Int32 × Mem) :=
  lt_ v4 (fun v2_7 => fX12_sureOf_b57 N rc4 v1 v2_7 v3 σ)
set_option maxRecDepth 100000 in
set_option maxHeartbeats 4000000 in
theorem bX12_sureOf_54 {x : Cx} {z : Sx} (X : XG x z RX12 cX12_sureOf 5 2 47) (E : XE x z) (hr : XR x (some .int)) (hZ : z.2.2.2.1 = kdM) (N : Nat) (rc4 : Int32 → Int32 → Int32 → Mem → Option (Int32 × Mem)) (hc4 : ∀ (v1 : Int32) (v2 : Int32) (v3 : Int32) (σ : Mem), VK x z 5 (BQ QI x z) 4 [(0, .ref (z.2.2.1 0)), (1, .int v1), (2, .int v2), (3, .int v3)] [] σ (rc4 v1 v2 v3 σ)) (v1 : Int32) (v3 : Int32) (v4 : Int32) (σ : Mem) : VK x z 5 (BQ QI x z) 54 [(0, .ref (z.2.2.1 0)), (1, .int v1), (3, .int v3), (4, .int v4)] [] σ (fX12_sureOf_b54 N rc4 v1 v3 v4 σ) := by
  unfold fX12_sureOf_b54
  refine V_iload 3 X dX12_sureOf_54 rfl ?_
  refine V_istore_nG (L' := fun v2_7 => [(2, .int v2_7), (0, .ref (z.2.2.1 0)), (1, .int v1), (3, .int v3), (4, .int v4)]) X dX12_sureOf_56 rfl (by decide) (fun _ => rfl) (fun v2_7 => ?_)
  refine V_sub [1, 2, 0, 3] rfl ?_
  exact bX12_sureOf_57 X E hr hZ N rc4 hc4 v1 v2_7 v3 σ
def fX12_sureOf_b39 (N : Nat) (rc4 : Int32 → Int32 → Int32 → Mem → Option (Int32 × Mem)) (v1 : Int32) (v2 : Int32) (v3 : Int32) (t0 : Int32) (σ : Mem) : Option (Int32 × Mem) :=
  lt_ t0 (fun v4_5 => if v2 = (-1) then fX12_sureOf_b54 N rc4 v1 v3 v4_5 σ else if v2 = v4_5 then fX12_sureOf_b54 N rc4 v1 v3 v4_5 σ else some ((-1), σ))
set_option maxRecDepth 100000 in
set_option maxHeartbeats 4000000 in
theorem bX12_sureOf_39 {x : Cx} {z : Sx} (X : XG x z RX12 cX12_sureOf 5 2 47) (E : XE x z) (hr : XR x (some .int)) (hZ : z.2.2.2.1 = kdM) (N : Nat) (rc4 : Int32 → Int32 → Int32 → Mem → Option (Int32 × Mem)) (hc4 : ∀ (v1 : Int32) (v2 : Int32) (v3 : Int32) (σ : Mem), VK x z 5 (BQ QI x z) 4 [(0, .ref (z.2.2.1 0)), (1, .int v1), (2, .int v2), (3, .int v3)] [] σ (rc4 v1 v2 v3 σ)) (v1 : Int32) (v2 : Int32) (v3 : Int32) (t0 : Int32) (σ : Mem) : VK x z 5 (BQ QI x z) 39 [(0, .ref (z.2.2.1 0)), (1, .int v1), (2, .int v2), (3, .int v3)] [.int t0] σ (fX12_sureOf_b39 N rc4 v1 v2 v3 t0 σ) := by
  unfold fX12_sureOf_b39
  refine V_istoreG (L' := fun v4_5 => [(4, .int v4_5), (0, .ref (z.2.2.1 0)), (1, .int v1), (2, .int v2), (3, .int v3)]) X dX12_sureOf_39 (by decide) (fun _ => rfl) (fun v4_5 => ?_)
  refine V_iload_n 3 X dX12_sureOf_41 rfl rfl ?_
  refine V_iconst (v := -1) X dX12_sureOf_42 (by decide) ?_
  refine V_icmp_eq (tgt := 54) X dX12_sureOf_43 (by decide) ?_ ?_
  · refine V_sub [1, 2, 4, 0] rfl ?_
    exact bX12_sureOf_54 X E hr hZ N rc4 hc4 v1 v3 v4_5 σ
  · refine V_iload_n 3 X dX12_sureOf_46 rfl rfl ?_
    refine V_iload 0 X dX12_sureOf_47 rfl ?_
    refine V_icmp_eq (tgt := 54) X dX12_sureOf_49 (by decide) ?_ ?_
    · refine V_sub [1, 2, 4, 0] rfl ?_
      exact bX12_sureOf_54 X E hr hZ N rc4 hc4 v1 v3 v4_5 σ
    · refine V_iconst (v := -1) X dX12_sureOf_52 (by decide) ?_
      exact V_iret X E hr dX12_sureOf_53
def fX12_sureOf_b4 (N : Nat) (rc4 : Int32 → Int32 → Int32 → Mem → Option (Int32 × Mem)) (v1 : Int32) (v2 : Int32) (v3 : Int32) (σ : Mem) : Option (Int32 × Mem) :=
  if 297 ≤ v3 then some (v2, σ) else bd (fX12_isSo N v3 σ) (fun r3 s4 => if r3 = 0 then fX12_sureOf_b57 N rc4 v1 v2 v3 s4 else if v1 = 0 then fX12_sureOf_b39 N rc4 v1 v2 v3 ((rmI v3 99) + 1) s4 else fX12_sureOf_b39 N rc4 v1 v2 v3 (v3 / 99) s4)
set_option maxRecDepth 100000 in
set_option maxHeartbeats 4000000 in
theorem bX12_sureOf_4 {x : Cx} {z : Sx} (X : XG x z RX12 cX12_sureOf 5 2 47) (E : XE x z) (hr : XR x (some .int)) (hZ : z.2.2.2.1 = kdM) (N : Nat) (rc4 : Int32 → Int32 → Int32 → Mem → Option (Int32 × Mem)) (hc4 : ∀ (v1 : Int32) (v2 : Int32) (v3 : Int32) (σ : Mem), VK x z 5 (BQ QI x z) 4 [(0, .ref (z.2.2.1 0)), (1, .int v1), (2, .int v2), (3, .int v3)] [] σ (rc4 v1 v2 v3 σ)) (v1 : Int32) (v2 : Int32) (v3 : Int32) (σ : Mem) : VK x z 5 (BQ QI x z) 4 [(0, .ref (z.2.2.1 0)), (1, .int v1), (2, .int v2), (3, .int v3)] [] σ (fX12_sureOf_b4 N rc4 v1 v2 v3 σ) := by
  unfold fX12_sureOf_b4
  refine V_iload_n 3 X dX12_sureOf_4 rfl rfl ?_
  refine V_sipush (v := 297) X dX12_sureOf_5 (by decide) ?_
  refine V_icmp_ge (tgt := 63) X dX12_sureOf_8 (by decide) ?_ ?_
  · refine V_iload_n 2 X dX12_sureOf_63 rfl rfl ?_
    exact V_iret X E hr dX12_sureOf_64
  · refine V_aload_n 0 X dX12_sureOf_11 rfl rfl ?_
    refine V_iload_n 3 X dX12_sureOf_12 rfl rfl ?_
    refine V_callI [.int v3] [] X E dX12_sureOf_13 (kX12_isSo x.2.1 z hZ N v3 σ) co12 (kM hZ 0 _ rfl) gcX12_358 hyX12_isSo rfl ⟨by decide, by decide⟩ rfl (Nat.le_of_ble_eq_true rfl) (fun r3 s4 => ?_)
    refine V_if_ne (tgt := 22) X dX12_sureOf_16 (by decide) ?_ ?_
    · refine V_iload_n 1 X dX12_sureOf_22 rfl rfl ?_
      refine V_if_eq (tgt := 33) X dX12_sureOf_23 (by decide) ?_ ?_
      · refine V_iload_n 3 X dX12_sureOf_33 rfl rfl ?_
        refine V_bipush (v := 99) X dX12_sureOf_34 (by decide) ?_
        refine V_iremKG X dX12_sureOf_36 (by decide) ?_
        refine V_iconst (v := 1) X dX12_sureOf_37 (by decide) ?_
        refine V_iadd X dX12_sureOf_38 ?_
        refine V_sub [0, 1, 2, 3] rfl ?_
        exact bX12_sureOf_39 X E hr hZ N rc4 hc4 v1 v2 v3 ((rmI v3 99) + 1) s4
      · refine V_iload_n 3 X dX12_sureOf_26 rfl rfl ?_
        refine V_bipush (v := 99) X dX12_sureOf_27 (by decide) ?_
        refine V_idivK X dX12_sureOf_29 (by decide) ?_
        refine V_goto (tgt := 39) X dX12_sureOf_30 (by decide) ?_
        refine V_sub [0, 1, 2, 3] rfl ?_
        exact bX12_sureOf_39 X E hr hZ N rc4 hc4 v1 v2 v3 (v3 / 99) s4
    · refine V_goto (tgt := 57) X dX12_sureOf_19 (by decide) ?_
      refine V_sub [0, 1, 2, 3] rfl ?_
      exact bX12_sureOf_57 X E hr hZ N rc4 hc4 v1 v2 v3 s4
def fX12_sureOf_l4 (N : Nat) : Nat → Int32 → Int32 → Int32 → Mem → Option (Int32 × Mem)
  | 0 => fun _ _ _ _ => none
  | n + 1 => fX12_sureOf_b4 N (fX12_sureOf_l4 N n)
theorem lX12_sureOf_4 {x : Cx} {z : Sx} (X : XG x z RX12 cX12_sureOf 5 2 47) (E : XE x z) (hr : XR x (some .int)) (hZ : z.2.2.2.1 = kdM) (N : Nat) (n : Nat) (v1 : Int32) (v2 : Int32) (v3 : Int32) (σ : Mem) : VK x z 5 (BQ QI x z) 4 [(0, .ref (z.2.2.1 0)), (1, .int v1), (2, .int v2), (3, .int v3)] [] σ (fX12_sureOf_l4 N n v1 v2 v3 σ) := by
  induction n generalizing v1 v2 v3 σ with
  | zero => exact V_none
  | succ n ih => exact bX12_sureOf_4 X E hr hZ N (fX12_sureOf_l4 N n) ih v1 v2 v3 σ
def fX12_sureOf (N : Nat) (v1 : Int32) (σ : Mem) : Option (Int32 × Mem) :=
  lt_ (-1) (fun v2_1 => lt_ 0 (fun v3_2 => fX12_sureOf_l4 N N v1 v2_1 v3_2 σ))
set_option maxRecDepth 100000 in
set_option maxHeartbeats 4000000 in
theorem bX12_sureOf_0 {x : Cx} {z : Sx} (X : XG x z RX12 cX12_sureOf 5 2 47) (E : XE x z) (hr : XR x (some .int)) (hZ : z.2.2.2.1 = kdM) (N : Nat) (v1 : Int32) (σ : Mem) : VK x z 5 (BQ QI x z) 0 [(0, .ref (z.2.2.1 0)), (1, .int v1)] [] σ (fX12_sureOf N v1 σ) := by
  unfold fX12_sureOf
  refine V_iconst (v := -1) X dX12_sureOf_0 (by decide) ?_
  refine V_istore_nG (L' := fun v2_1 => [(2, .int v2_1), (0, .ref (z.2.2.1 0)), (1, .int v1)]) X dX12_sureOf_1 rfl (by decide) (fun _ => rfl) (fun v2_1 => ?_)
  refine V_iconst (v := 0) X dX12_sureOf_2 (by decide) ?_
  refine V_istore_nG (L' := fun v3_2 => [(3, .int v3_2), (2, .int v2_1), (0, .ref (z.2.2.1 0)), (1, .int v1)]) X dX12_sureOf_3 rfl (by decide) (fun _ => rfl) (fun v3_2 => ?_)
  refine V_sub [2, 3, 1, 0] rfl ?_
  exact lX12_sureOf_4 X E hr hZ N N v1 v2_1 v3_2 σ
theorem kX12_sureOf (l : Launch) (z : Sx) (hZ : z.2.2.2.1 = kdM) (N : Nat) (v1 : Int32) (σ : Mem) : Ct QI yX12_sureOf cX12_sureOf 5 (some .int) 2 47 l z [.ref (z.2.2.1 0), .int v1] σ (fX12_sureOf N v1 σ) := by
  refine Ct_of (by decide +kernel) (Nat.le_of_ble_eq_true rfl) rfl ?_
  intro x _ X E hr
  exact bX12_sureOf_0 X E hr hZ N v1 σ
def fX12_fits_b93 (N : Nat) (rc59 : Int32 → Int32 → Int32 → Mem → Option (Int32 × Mem)) (v2 : Int32) (v3 : Int32) (v4 : Int32) (σ : Mem) : Option (Int32 × Mem) :=
  lt_ (v4 + 1) (fun v4_14 => rc59 v2 v3 v4_14 σ)
set_option maxRecDepth 100000 in
set_option maxHeartbeats 4000000 in
theorem bX12_fits_93 {x : Cx} {z : Sx} (X : XG x z RX12 cX12_fits 5 3 71) (E : XE x z) (hr : XR x (some .int)) (hZ : z.2.2.2.1 = kdM) (N : Nat) (rc59 : Int32 → Int32 → Int32 → Mem → Option (Int32 × Mem)) (hc59 : ∀ (v2 : Int32) (v3 : Int32) (v4 : Int32) (σ : Mem), VK x z 5 (BQ QI x z) 59 [(0, .ref (z.2.2.1 0)), (2, .int v2), (3, .int v3), (4, .int v4)] [] σ (rc59 v2 v3 v4 σ)) (v2 : Int32) (v3 : Int32) (v4 : Int32) (σ : Mem) : VK x z 5 (BQ QI x z) 93 [(0, .ref (z.2.2.1 0)), (2, .int v2), (3, .int v3), (4, .int v4)] [] σ (fX12_fits_b93 N rc59 v2 v3 v4 σ) := by
  unfold fX12_fits_b93
  refine V_iincG (L' := fun v4_14 => [(4, .int v4_14), (0, .ref (z.2.2.1 0)), (2, .int v2), (3, .int v3)]) 3 X dX12_fits_93 rfl rfl (by decide) (fun _ => rfl) (fun v4_14 => ?_)
  refine V_goto (tgt := 59) X dX12_fits_96 (by decide) ?_
  refine V_sub [1, 2, 3, 0] rfl ?_
  exact hc59 v2 v3 v4_14 σ
def fX12_fits_b59 (N : Nat) (rc59 : Int32 → Int32 → Int32 → Mem → Option (Int32 × Mem)) (v2 : Int32) (v3 : Int32) (v4 : Int32) (σ : Mem) : Option (Int32 × Mem) :=
  if 297 ≤ v4 then some ((-2), σ) else bd (fX12_isSo N v4 σ) (fun r9 s10 => if r9 = 0 then fX12_fits_b93 N rc59 v2 v3 v4 s10 else if v3 = (v2 - 10) then some (v4, s10) else lt_ (v3 + 1) (fun v3_11 => fX12_fits_b93 N rc59 v2 v3_11 v4 s10))
set_option maxRecDepth 100000 in
set_option maxHeartbeats 4000000 in
theorem bX12_fits_59 {x : Cx} {z : Sx} (X : XG x z RX12 cX12_fits 5 3 71) (E : XE x z) (hr : XR x (some .int)) (hZ : z.2.2.2.1 = kdM) (N : Nat) (rc59 : Int32 → Int32 → Int32 → Mem → Option (Int32 × Mem)) (hc59 : ∀ (v2 : Int32) (v3 : Int32) (v4 : Int32) (σ : Mem), VK x z 5 (BQ QI x z) 59 [(0, .ref (z.2.2.1 0)), (2, .int v2), (3, .int v3), (4, .int v4)] [] σ (rc59 v2 v3 v4 σ)) (v2 : Int32) (v3 : Int32) (v4 : Int32) (σ : Mem) : VK x z 5 (BQ QI x z) 59 [(0, .ref (z.2.2.1 0)), (2, .int v2), (3, .int v3), (4, .int v4)] [] σ (fX12_fits_b59 N rc59 v2 v3 v4 σ) := by
  unfold fX12_fits_b59
  refine V_iload 3 X dX12_fits_59 rfl ?_
  refine V_sipush (v := 297) X dX12_fits_61 (by decide) ?_
  refine V_icmp_ge (tgt := 99) X dX12_fits_64 (by decide) ?_ ?_
  · refine V_bipush (v := -2) X dX12_fits_99 (by decide) ?_
    exact V_iret X E hr dX12_fits_101
  · refine V_aload_n 0 X dX12_fits_67 rfl rfl ?_
    refine V_iload 3 X dX12_fits_68 rfl ?_
    refine V_callI [.int v4] [] X E dX12_fits_70 (kX12_isSo x.2.1 z hZ N v4 σ) co12 (kM hZ 0 _ rfl) gcX12_358 hyX12_isSo rfl ⟨by decide, by decide⟩ rfl (Nat.le_of_ble_eq_true rfl) (fun r9 s10 => ?_)
    refine V_if_ne (tgt := 79) X dX12_fits_73 (by decide) ?_ ?_
    · refine V_iload_n 2 X dX12_fits_79 rfl rfl ?_
      refine V_iload_n 1 X dX12_fits_80 rfl rfl ?_
      refine V_bipush (v := 10) X dX12_fits_81 (by decide) ?_
      refine V_isub X dX12_fits_83 ?_
      refine V_icmp_ne (tgt := 90) X dX12_fits_84 (by decide) ?_ ?_
      · refine V_iincG (L' := fun v3_11 => [(3, .int v3_11), (0, .ref (z.2.2.1 0)), (2, .int v2), (4, .int v4)]) 2 X dX12_fits_90 rfl rfl (by decide) (fun _ => rfl) (fun v3_11 => ?_)
        refine V_sub [1, 2, 0, 3] rfl ?_
        exact bX12_fits_93 X E hr hZ N rc59 hc59 v2 v3_11 v4 s10
      · refine V_iload 3 X dX12_fits_87 rfl ?_
        exact V_iret X E hr dX12_fits_89
    · refine V_goto (tgt := 93) X dX12_fits_76 (by decide) ?_
      refine V_sub [0, 1, 2, 3] rfl ?_
      exact bX12_fits_93 X E hr hZ N rc59 hc59 v2 v3 v4 s10
def fX12_fits_l59 (N : Nat) : Nat → Int32 → Int32 → Int32 → Mem → Option (Int32 × Mem)
  | 0 => fun _ _ _ _ => none
  | n + 1 => fX12_fits_b59 N (fX12_fits_l59 N n)
theorem lX12_fits_59 {x : Cx} {z : Sx} (X : XG x z RX12 cX12_fits 5 3 71) (E : XE x z) (hr : XR x (some .int)) (hZ : z.2.2.2.1 = kdM) (N : Nat) (n : Nat) (v2 : Int32) (v3 : Int32) (v4 : Int32) (σ : Mem) : VK x z 5 (BQ QI x z) 59 [(0, .ref (z.2.2.1 0)), (2, .int v2), (3, .int v3), (4, .int v4)] [] σ (fX12_fits_l59 N n v2 v3 v4 σ) := by
  induction n generalizing v2 v3 v4 σ with
  | zero => exact V_none
  | succ n ih => exact bX12_fits_59 X E hr hZ N (fX12_fits_l59 N n) ih v2 v3 v4 σ
def fX12_fits_b50 (N : Nat) (t0 : Int32) (σ : Mem) : Option (Int32 × Mem) :=
  bd (fX12_sureOf N t0 σ) (fun r12 s13 => some (r12, s13))
set_option maxRecDepth 100000 in
set_option maxHeartbeats 4000000 in
theorem bX12_fits_50 {x : Cx} {z : Sx} (X : XG x z RX12 cX12_fits 5 3 71) (E : XE x z) (hr : XR x (some .int)) (hZ : z.2.2.2.1 = kdM) (N : Nat) (t0 : Int32) (σ : Mem) : VK x z 5 (BQ QI x z) 50 [(0, .ref (z.2.2.1 0))] [.int t0, .ref (z.2.2.1 0)] σ (fX12_fits_b50 N t0 σ) := by
  unfold fX12_fits_b50
  refine V_callI [.int t0] [] X E dX12_fits_50 (kX12_sureOf x.2.1 z hZ N t0 σ) co12 (kM hZ 0 _ rfl) gcX12_364 hyX12_sureOf rfl ⟨by decide, by decide⟩ rfl (Nat.le_of_ble_eq_true rfl) (fun r12 s13 => ?_)
  exact V_iret X E hr dX12_fits_53
def fX12_fits (N : Nat) (v1 : Int32) (v2 : Int32) (σ : Mem) : Option (Int32 × Mem) :=
  bd (fX12_isLog N v1 σ) (fun r1 s2 => if r1 = 0 then some ((-2), s2) else if v2 < 0 then some ((-2), s2) else bd (fX12_isIn N v2 3 9 s2) (fun r3 s4 => if r3 = 0 then if v2 = 0 then bd (fX12_fitting N s4) (fun r7 s8 => some (r7, s8)) else if 3 ≤ v2 then lt_ 0 (fun v3_5 => lt_ 0 (fun v4_6 => fX12_fits_l59 N N v2 v3_5 v4_6 s4)) else if v2 = 1 then fX12_fits_b50 N 1 s4 else fX12_fits_b50 N 0 s4 else some ((-2), s4)))
set_option maxRecDepth 100000 in
set_option maxHeartbeats 4000000 in
theorem bX12_fits_0 {x : Cx} {z : Sx} (X : XG x z RX12 cX12_fits 5 3 71) (E : XE x z) (hr : XR x (some .int)) (hZ : z.2.2.2.1 = kdM) (N : Nat) (v1 : Int32) (v2 : Int32) (σ : Mem) : VK x z 5 (BQ QI x z) 0 [(0, .ref (z.2.2.1 0)), (1, .int v1), (2, .int v2)] [] σ (fX12_fits N v1 v2 σ) := by
  unfold fX12_fits
  refine V_aload_n 0 X dX12_fits_0 rfl rfl ?_
  refine V_iload_n 1 X dX12_fits_1 rfl rfl ?_
  refine V_callI [.int v1] [] X E dX12_fits_2 (kX12_isLog x.2.1 z hZ N v1 σ) co12 (kM hZ 0 _ rfl) gcX12_351 hyX12_isLog rfl ⟨by decide, by decide⟩ rfl (Nat.le_of_ble_eq_true rfl) (fun r1 s2 => ?_)
  refine V_if_eq (tgt := 22) X dX12_fits_5 (by decide) ?_ ?_
  · refine V_bipush (v := -2) X dX12_fits_22 (by decide) ?_
    exact V_iret X E hr dX12_fits_24
  · refine V_iload_n 2 X dX12_fits_8 rfl rfl ?_
    refine V_if_lt (tgt := 22) X dX12_fits_9 (by decide) ?_ ?_
    · refine V_bipush (v := -2) X dX12_fits_22 (by decide) ?_
      exact V_iret X E hr dX12_fits_24
    · refine V_iload_n 2 X dX12_fits_12 rfl rfl ?_
      refine V_iconst (v := 3) X dX12_fits_13 (by decide) ?_
      refine V_bipush (v := 9) X dX12_fits_14 (by decide) ?_
      refine V_calSI [.int v2, .int 3, .int 9] [] X E dX12_fits_16 (kX12_isIn x.2.1 z hZ N v2 3 9 s2) gcX12_106 hyX12_isIn rfl ⟨by decide, by decide⟩ rfl (Nat.le_of_ble_eq_true rfl) (fun r3 s4 => ?_)
      refine V_if_eq (tgt := 25) X dX12_fits_19 (by decide) ?_ ?_
      · refine V_iload_n 2 X dX12_fits_25 rfl rfl ?_
        refine V_if_ne (tgt := 34) X dX12_fits_26 (by decide) ?_ ?_
        · refine V_iload_n 2 X dX12_fits_34 rfl rfl ?_
          refine V_iconst (v := 3) X dX12_fits_35 (by decide) ?_
          refine V_icmp_ge (tgt := 54) X dX12_fits_36 (by decide) ?_ ?_
          · refine V_iconst (v := 0) X dX12_fits_54 (by decide) ?_
            refine V_istore_nG (L' := fun v3_5 => [(3, .int v3_5), (0, .ref (z.2.2.1 0)), (1, .int v1), (2, .int v2)]) X dX12_fits_55 rfl (by decide) (fun _ => rfl) (fun v3_5 => ?_)
            refine V_iconst (v := 0) X dX12_fits_56 (by decide) ?_
            refine V_istoreG (L' := fun v4_6 => [(4, .int v4_6), (3, .int v3_5), (0, .ref (z.2.2.1 0)), (1, .int v1), (2, .int v2)]) X dX12_fits_57 (by decide) (fun _ => rfl) (fun v4_6 => ?_)
            refine V_sub [2, 4, 1, 0] rfl ?_
            exact lX12_fits_59 X E hr hZ N N v2 v3_5 v4_6 s4
          · refine V_aload_n 0 X dX12_fits_39 rfl rfl ?_
            refine V_iload_n 2 X dX12_fits_40 rfl rfl ?_
            refine V_iconst (v := 1) X dX12_fits_41 (by decide) ?_
            refine V_icmp_ne (tgt := 49) X dX12_fits_42 (by decide) ?_ ?_
            · refine V_iconst (v := 0) X dX12_fits_49 (by decide) ?_
              refine V_sub [0] rfl ?_
              exact bX12_fits_50 X E hr hZ N 0 s4
            · refine V_iconst (v := 1) X dX12_fits_45 (by decide) ?_
              refine V_goto (tgt := 50) X dX12_fits_46 (by decide) ?_
              refine V_sub [0] rfl ?_
              exact bX12_fits_50 X E hr hZ N 1 s4
        · refine V_aload_n 0 X dX12_fits_29 rfl rfl ?_
          refine V_callI [] [] X E dX12_fits_30 (kX12_fitting x.2.1 z hZ N s4) co12 (kM hZ 0 _ rfl) gcX12_361 hyX12_fitting rfl ⟨by decide, by decide⟩ rfl (Nat.le_of_ble_eq_true rfl) (fun r7 s8 => ?_)
          exact V_iret X E hr dX12_fits_33
      · refine V_bipush (v := -2) X dX12_fits_22 (by decide) ?_
        exact V_iret X E hr dX12_fits_24
theorem kX12_fits (l : Launch) (z : Sx) (hZ : z.2.2.2.1 = kdM) (N : Nat) (v1 : Int32) (v2 : Int32) (σ : Mem) : Ct QI yX12_fits cX12_fits 5 (some .int) 3 71 l z [.ref (z.2.2.1 0), .int v1, .int v2] σ (fX12_fits N v1 v2 σ) := by
  refine Ct_of (by decide +kernel) (Nat.le_of_ble_eq_true rfl) rfl ?_
  intro x _ X E hr
  exact bX12_fits_0 X E hr hZ N v1 v2 σ
def fX12_ask_b158 (N : Nat) (rc42 : Int32 → Int32 → Int32 → Int32 → Int32 → Mem → Option (Int32 × Mem)) (v2 : Int32) (v3 : Int32) (v4 : Int32) (v5 : Int32) (v6 : Int32) (σ : Mem) : Option (Int32 × Mem) :=
  lt_ (v6 + 1) (fun v6_17 => rc42 v2 v3 v4 v5 v6_17 σ)
set_option maxRecDepth 100000 in
set_option maxHeartbeats 4000000 in
theorem bX12_ask_158 {x : Cx} {z : Sx} (X : XG x z RX12 cX12_ask 9 3 69) (E : XE x z) (hr : XR x (some .int)) (hZ : z.2.2.2.1 = kdM) (N : Nat) (rc42 : Int32 → Int32 → Int32 → Int32 → Int32 → Mem → Option (Int32 × Mem)) (hc42 : ∀ (v2 : Int32) (v3 : Int32) (v4 : Int32) (v5 : Int32) (v6 : Int32) (σ : Mem), VK x z 9 (BQ QI x z) 42 [(0, .ref (z.2.2.1 0)), (2, .int v2), (3, .int v3), (4, .int v4), (5, .int v5), (6, .int v6)] [] σ (rc42 v2 v3 v4 v5 v6 σ)) (v2 : Int32) (v3 : Int32) (v4 : Int32) (v5 : Int32) (v6 : Int32) (σ : Mem) : VK x z 9 (BQ QI x z) 158 [(0, .ref (z.2.2.1 0)), (2, .int v2), (3, .int v3), (4, .int v4), (5, .int v5), (6, .int v6)] [] σ (fX12_ask_b158 N rc42 v2 v3 v4 v5 v6 σ) := by
  unfold fX12_ask_b158
  refine V_iincG (L' := fun v6_17 => [(6, .int v6_17), (0, .ref (z.2.2.1 0)), (2, .int v2), (3, .int v3), (4, .int v4), (5, .int v5)]) 5 X dX12_ask_158 rfl rfl (by decide) (fun _ => rfl) (fun v6_17 => ?_)
  refine V_goto (tgt := 42) X dX12_ask_161 (by decide) ?_
  refine V_sub [1, 2, 3, 4, 5, 0] rfl ?_
  exact hc42 v2 v3 v4 v5 v6_17 σ
def fX12_ask_b138 (N : Nat) (rc42 : Int32 → Int32 → Int32 → Int32 → Int32 → Mem → Option (Int32 × Mem)) (v2 : Int32) (v3 : Int32) (v4 : Int32) (v5 : Int32) (v6 : Int32) (t0 : Int32) (σ : Mem) : Option (Int32 × Mem) :=
  lt_ t0 (fun v8_18 => if v8_18 < v5 then lt_ v6 (fun v4_19 => lt_ v8_18 (fun v5_20 => fX12_ask_b158 N rc42 v2 v3 v4_19 v5_20 v6 σ)) else fX12_ask_b158 N rc42 v2 v3 v4 v5 v6 σ)
set_option maxRecDepth 100000 in
set_option maxHeartbeats 4000000 in
theorem bX12_ask_138 {x : Cx} {z : Sx} (X : XG x z RX12 cX12_ask 9 3 69) (E : XE x z) (hr : XR x (some .int)) (hZ : z.2.2.2.1 = kdM) (N : Nat) (rc42 : Int32 → Int32 → Int32 → Int32 → Int32 → Mem → Option (Int32 × Mem)) (hc42 : ∀ (v2 : Int32) (v3 : Int32) (v4 : Int32) (v5 : Int32) (v6 : Int32) (σ : Mem), VK x z 9 (BQ QI x z) 42 [(0, .ref (z.2.2.1 0)), (2, .int v2), (3, .int v3), (4, .int v4), (5, .int v5), (6, .int v6)] [] σ (rc42 v2 v3 v4 v5 v6 σ)) (v2 : Int32) (v3 : Int32) (v4 : Int32) (v5 : Int32) (v6 : Int32) (t0 : Int32) (σ : Mem) : VK x z 9 (BQ QI x z) 138 [(0, .ref (z.2.2.1 0)), (2, .int v2), (3, .int v3), (4, .int v4), (5, .int v5), (6, .int v6)] [.int t0] σ (fX12_ask_b138 N rc42 v2 v3 v4 v5 v6 t0 σ) := by
  unfold fX12_ask_b138
  refine V_istoreG (L' := fun v8_18 => [(8, .int v8_18), (0, .ref (z.2.2.1 0)), (2, .int v2), (3, .int v3), (4, .int v4), (5, .int v5), (6, .int v6)]) X dX12_ask_138 (by decide) (fun _ => rfl) (fun v8_18 => ?_)
  refine V_iload 0 X dX12_ask_140 rfl ?_
  refine V_iload 5 X dX12_ask_142 rfl ?_
  refine V_icmp_lt (tgt := 150) X dX12_ask_144 (by decide) ?_ ?_
  · refine V_iload 6 X dX12_ask_150 rfl ?_
    refine V_istoreG (L' := fun v4_19 => [(4, .int v4_19), (8, .int v8_18), (0, .ref (z.2.2.1 0)), (2, .int v2), (3, .int v3), (5, .int v5), (6, .int v6)]) X dX12_ask_152 (by decide) (fun _ => rfl) (fun v4_19 => ?_)
    refine V_iload 1 X dX12_ask_154 rfl ?_
    refine V_istoreG (L' := fun v5_20 => [(5, .int v5_20), (4, .int v4_19), (8, .int v8_18), (0, .ref (z.2.2.1 0)), (2, .int v2), (3, .int v3), (6, .int v6)]) X dX12_ask_156 (by decide) (fun _ => rfl) (fun v5_20 => ?_)
    refine V_sub [3, 4, 5, 1, 0, 6] rfl ?_
    exact bX12_ask_158 X E hr hZ N rc42 hc42 v2 v3 v4_19 v5_20 v6 σ
  · refine V_goto (tgt := 158) X dX12_ask_147 (by decide) ?_
    refine V_sub [1, 2, 3, 4, 5, 6] rfl ?_
    exact bX12_ask_158 X E hr hZ N rc42 hc42 v2 v3 v4 v5 v6 σ
def fX12_ask_b111 (N : Nat) (rc42 : Int32 → Int32 → Int32 → Int32 → Int32 → Mem → Option (Int32 × Mem)) (rc68 : Int32 → Int32 → Int32 → Int32 → Int32 → Int32 → Int32 → Mem → Option (Int32 × Mem)) (v2 : Int32) (v3 : Int32) (v4 : Int32) (v5 : Int32) (v6 : Int32) (v8 : Int32) (t0 : Int32) (t1 : Int32) (σ : Mem) : Option (Int32 × Mem) :=
  lt_ (t1 + t0) (fun v7_21 => lt_ (v8 + 1) (fun v8_22 => rc68 v2 v3 v4 v5 v6 v7_21 v8_22 σ))
set_option maxRecDepth 100000 in
set_option maxHeartbeats 4000000 in
theorem bX12_ask_111 {x : Cx} {z : Sx} (X : XG x z RX12 cX12_ask 9 3 69) (E : XE x z) (hr : XR x (some .int)) (hZ : z.2.2.2.1 = kdM) (N : Nat) (rc42 : Int32 → Int32 → Int32 → Int32 → Int32 → Mem → Option (Int32 × Mem)) (hc42 : ∀ (v2 : Int32) (v3 : Int32) (v4 : Int32) (v5 : Int32) (v6 : Int32) (σ : Mem), VK x z 9 (BQ QI x z) 42 [(0, .ref (z.2.2.1 0)), (2, .int v2), (3, .int v3), (4, .int v4), (5, .int v5), (6, .int v6)] [] σ (rc42 v2 v3 v4 v5 v6 σ)) (rc68 : Int32 → Int32 → Int32 → Int32 → Int32 → Int32 → Int32 → Mem → Option (Int32 × Mem)) (hc68 : ∀ (v2 : Int32) (v3 : Int32) (v4 : Int32) (v5 : Int32) (v6 : Int32) (v7 : Int32) (v8 : Int32) (σ : Mem), VK x z 9 (BQ QI x z) 68 [(0, .ref (z.2.2.1 0)), (2, .int v2), (3, .int v3), (4, .int v4), (5, .int v5), (6, .int v6), (7, .int v7), (8, .int v8)] [] σ (rc68 v2 v3 v4 v5 v6 v7 v8 σ)) (v2 : Int32) (v3 : Int32) (v4 : Int32) (v5 : Int32) (v6 : Int32) (v8 : Int32) (t0 : Int32) (t1 : Int32) (σ : Mem) : VK x z 9 (BQ QI x z) 111 [(0, .ref (z.2.2.1 0)), (2, .int v2), (3, .int v3), (4, .int v4), (5, .int v5), (6, .int v6), (8, .int v8)] [.int t0, .int t1] σ (fX12_ask_b111 N rc42 rc68 v2 v3 v4 v5 v6 v8 t0 t1 σ) := by
  unfold fX12_ask_b111
  refine V_iadd X dX12_ask_111 ?_
  refine V_istoreG (L' := fun v7_21 => [(7, .int v7_21), (0, .ref (z.2.2.1 0)), (2, .int v2), (3, .int v3), (4, .int v4), (5, .int v5), (6, .int v6), (8, .int v8)]) X dX12_ask_112 (by decide) (fun _ => rfl) (fun v7_21 => ?_)
  refine V_iincG (L' := fun v8_22 => [(8, .int v8_22), (7, .int v7_21), (0, .ref (z.2.2.1 0)), (2, .int v2), (3, .int v3), (4, .int v4), (5, .int v5), (6, .int v6)]) 7 X dX12_ask_114 rfl rfl (by decide) (fun _ => rfl) (fun v8_22 => ?_)
  refine V_goto (tgt := 68) X dX12_ask_117 (by decide) ?_
  refine V_sub [2, 3, 4, 5, 6, 7, 1, 0] rfl ?_
  exact hc68 v2 v3 v4 v5 v6 v7_21 v8_22 σ
def fX12_ask_b110 (N : Nat) (rc42 : Int32 → Int32 → Int32 → Int32 → Int32 → Mem → Option (Int32 × Mem)) (rc68 : Int32 → Int32 → Int32 → Int32 → Int32 → Int32 → Int32 → Mem → Option (Int32 × Mem)) (v2 : Int32) (v3 : Int32) (v4 : Int32) (v5 : Int32) (v6 : Int32) (v8 : Int32) (t0 : Int32) (σ : Mem) : Option (Int32 × Mem) :=
  fX12_ask_b111 N rc42 rc68 v2 v3 v4 v5 v6 v8 0 t0 σ
set_option maxRecDepth 100000 in
set_option maxHeartbeats 4000000 in
theorem bX12_ask_110 {x : Cx} {z : Sx} (X : XG x z RX12 cX12_ask 9 3 69) (E : XE x z) (hr : XR x (some .int)) (hZ : z.2.2.2.1 = kdM) (N : Nat) (rc42 : Int32 → Int32 → Int32 → Int32 → Int32 → Mem → Option (Int32 × Mem)) (hc42 : ∀ (v2 : Int32) (v3 : Int32) (v4 : Int32) (v5 : Int32) (v6 : Int32) (σ : Mem), VK x z 9 (BQ QI x z) 42 [(0, .ref (z.2.2.1 0)), (2, .int v2), (3, .int v3), (4, .int v4), (5, .int v5), (6, .int v6)] [] σ (rc42 v2 v3 v4 v5 v6 σ)) (rc68 : Int32 → Int32 → Int32 → Int32 → Int32 → Int32 → Int32 → Mem → Option (Int32 × Mem)) (hc68 : ∀ (v2 : Int32) (v3 : Int32) (v4 : Int32) (v5 : Int32) (v6 : Int32) (v7 : Int32) (v8 : Int32) (σ : Mem), VK x z 9 (BQ QI x z) 68 [(0, .ref (z.2.2.1 0)), (2, .int v2), (3, .int v3), (4, .int v4), (5, .int v5), (6, .int v6), (7, .int v7), (8, .int v8)] [] σ (rc68 v2 v3 v4 v5 v6 v7 v8 σ)) (v2 : Int32) (v3 : Int32) (v4 : Int32) (v5 : Int32) (v6 : Int32) (v8 : Int32) (t0 : Int32) (σ : Mem) : VK x z 9 (BQ QI x z) 110 [(0, .ref (z.2.2.1 0)), (2, .int v2), (3, .int v3), (4, .int v4), (5, .int v5), (6, .int v6), (8, .int v8)] [.int t0] σ (fX12_ask_b110 N rc42 rc68 v2 v3 v4 v5 v6 v8 t0 σ) := by
  unfold fX12_ask_b110
  refine V_iconst (v := 0) X dX12_ask_110 (by decide) ?_
  refine V_sub [0, 1, 2, 3, 4, 5, 6] rfl ?_
  exact bX12_ask_111 X E hr hZ N rc42 hc42 rc68 hc68 v2 v3 v4 v5 v6 v8 0 t0 σ
def fX12_ask_b68 (N : Nat) (rc42 : Int32 → Int32 → Int32 → Int32 → Int32 → Mem → Option (Int32 × Mem)) (rc68 : Int32 → Int32 → Int32 → Int32 → Int32 → Int32 → Int32 → Mem → Option (Int32 × Mem)) (v2 : Int32) (v3 : Int32) (v4 : Int32) (v5 : Int32) (v6 : Int32) (v7 : Int32) (v8 : Int32) (σ : Mem) : Option (Int32 × Mem) :=
  if 297 ≤ v8 then if v7 ≤ (v3 - v7) then fX12_ask_b138 N rc42 v2 v3 v4 v5 v6 (v3 - v7) σ else fX12_ask_b138 N rc42 v2 v3 v4 v5 v6 v7 σ else bd (fX12_sounds N v8 v2 (v6 / 10) (rmI v6 10) σ) (fun r13 s14 => if r13 = 0 then fX12_ask_b110 N rc42 rc68 v2 v3 v4 v5 v6 v8 v7 s14 else bd (fX12_isSo N v8 s14) (fun r15 s16 => if r15 = 0 then fX12_ask_b110 N rc42 rc68 v2 v3 v4 v5 v6 v8 v7 s16 else fX12_ask_b111 N rc42 rc68 v2 v3 v4 v5 v6 v8 1 v7 s16))
set_option maxRecDepth 100000 in
set_option maxHeartbeats 4000000 in
theorem bX12_ask_68 {x : Cx} {z : Sx} (X : XG x z RX12 cX12_ask 9 3 69) (E : XE x z) (hr : XR x (some .int)) (hZ : z.2.2.2.1 = kdM) (N : Nat) (rc42 : Int32 → Int32 → Int32 → Int32 → Int32 → Mem → Option (Int32 × Mem)) (hc42 : ∀ (v2 : Int32) (v3 : Int32) (v4 : Int32) (v5 : Int32) (v6 : Int32) (σ : Mem), VK x z 9 (BQ QI x z) 42 [(0, .ref (z.2.2.1 0)), (2, .int v2), (3, .int v3), (4, .int v4), (5, .int v5), (6, .int v6)] [] σ (rc42 v2 v3 v4 v5 v6 σ)) (rc68 : Int32 → Int32 → Int32 → Int32 → Int32 → Int32 → Int32 → Mem → Option (Int32 × Mem)) (hc68 : ∀ (v2 : Int32) (v3 : Int32) (v4 : Int32) (v5 : Int32) (v6 : Int32) (v7 : Int32) (v8 : Int32) (σ : Mem), VK x z 9 (BQ QI x z) 68 [(0, .ref (z.2.2.1 0)), (2, .int v2), (3, .int v3), (4, .int v4), (5, .int v5), (6, .int v6), (7, .int v7), (8, .int v8)] [] σ (rc68 v2 v3 v4 v5 v6 v7 v8 σ)) (v2 : Int32) (v3 : Int32) (v4 : Int32) (v5 : Int32) (v6 : Int32) (v7 : Int32) (v8 : Int32) (σ : Mem) : VK x z 9 (BQ QI x z) 68 [(0, .ref (z.2.2.1 0)), (2, .int v2), (3, .int v3), (4, .int v4), (5, .int v5), (6, .int v6), (7, .int v7), (8, .int v8)] [] σ (fX12_ask_b68 N rc42 rc68 v2 v3 v4 v5 v6 v7 v8 σ) := by
  unfold fX12_ask_b68
  refine V_iload 7 X dX12_ask_68 rfl ?_
  refine V_sipush (v := 297) X dX12_ask_70 (by decide) ?_
  refine V_icmp_ge (tgt := 120) X dX12_ask_73 (by decide) ?_ ?_
  · refine V_iload 6 X dX12_ask_120 rfl ?_
    refine V_iload_n 2 X dX12_ask_122 rfl rfl ?_
    refine V_iload 6 X dX12_ask_123 rfl ?_
    refine V_isub X dX12_ask_125 ?_
    refine V_icmp_le (tgt := 134) X dX12_ask_126 (by decide) ?_ ?_
    · refine V_iload_n 2 X dX12_ask_134 rfl rfl ?_
      refine V_iload 6 X dX12_ask_135 rfl ?_
      refine V_isub X dX12_ask_137 ?_
      refine V_sub [0, 1, 2, 3, 4, 5] rfl ?_
      exact bX12_ask_138 X E hr hZ N rc42 hc42 v2 v3 v4 v5 v6 (v3 - v7) σ
    · refine V_iload 6 X dX12_ask_129 rfl ?_
      refine V_goto (tgt := 138) X dX12_ask_131 (by decide) ?_
      refine V_sub [0, 1, 2, 3, 4, 5] rfl ?_
      exact bX12_ask_138 X E hr hZ N rc42 hc42 v2 v3 v4 v5 v6 v7 σ
  · refine V_iload 6 X dX12_ask_76 rfl ?_
    refine V_iload 7 X dX12_ask_78 rfl ?_
    refine V_iload_n 1 X dX12_ask_80 rfl rfl ?_
    refine V_iload 5 X dX12_ask_81 rfl ?_
    refine V_bipush (v := 10) X dX12_ask_83 (by decide) ?_
    refine V_idivK X dX12_ask_85 (by decide) ?_
    refine V_iload 5 X dX12_ask_86 rfl ?_
    refine V_bipush (v := 10) X dX12_ask_88 (by decide) ?_
    refine V_iremKG X dX12_ask_90 (by decide) ?_
    refine V_calSI [.int v8, .int v2, .int (v6 / 10), .int (rmI v6 10)] [.int v7] X E dX12_ask_91 (kX12_sounds x.2.1 z hZ N v8 v2 (v6 / 10) (rmI v6 10) σ) gcX12_354 hyX12_sounds rfl ⟨by decide, by decide⟩ rfl (Nat.le_of_ble_eq_true rfl) (fun r13 s14 => ?_)
    refine V_if_eq (tgt := 110) X dX12_ask_94 (by decide) ?_ ?_
    · refine V_sub [0, 1, 2, 3, 4, 5, 7] rfl ?_
      exact bX12_ask_110 X E hr hZ N rc42 hc42 rc68 hc68 v2 v3 v4 v5 v6 v8 v7 s14
    · refine V_aload_n 0 X dX12_ask_97 rfl rfl ?_
      refine V_iload 7 X dX12_ask_98 rfl ?_
      refine V_callI [.int v8] [.int v7] X E dX12_ask_100 (kX12_isSo x.2.1 z hZ N v8 s14) co12 (kM hZ 0 _ rfl) gcX12_358 hyX12_isSo rfl ⟨by decide, by decide⟩ rfl (Nat.le_of_ble_eq_true rfl) (fun r15 s16 => ?_)
      refine V_if_eq (tgt := 110) X dX12_ask_103 (by decide) ?_ ?_
      · refine V_sub [0, 1, 2, 3, 4, 5, 7] rfl ?_
        exact bX12_ask_110 X E hr hZ N rc42 hc42 rc68 hc68 v2 v3 v4 v5 v6 v8 v7 s16
      · refine V_iconst (v := 1) X dX12_ask_106 (by decide) ?_
        refine V_goto (tgt := 111) X dX12_ask_107 (by decide) ?_
        refine V_sub [0, 1, 2, 3, 4, 5, 7] rfl ?_
        exact bX12_ask_111 X E hr hZ N rc42 hc42 rc68 hc68 v2 v3 v4 v5 v6 v8 1 v7 s16
def fX12_ask_l68 (N : Nat) (rc42 : Int32 → Int32 → Int32 → Int32 → Int32 → Mem → Option (Int32 × Mem)) : Nat → Int32 → Int32 → Int32 → Int32 → Int32 → Int32 → Int32 → Mem → Option (Int32 × Mem)
  | 0 => fun _ _ _ _ _ _ _ _ => none
  | n + 1 => fX12_ask_b68 N rc42 (fX12_ask_l68 N rc42 n)
theorem lX12_ask_68 {x : Cx} {z : Sx} (X : XG x z RX12 cX12_ask 9 3 69) (E : XE x z) (hr : XR x (some .int)) (hZ : z.2.2.2.1 = kdM) (N : Nat) (rc42 : Int32 → Int32 → Int32 → Int32 → Int32 → Mem → Option (Int32 × Mem)) (hc42 : ∀ (v2 : Int32) (v3 : Int32) (v4 : Int32) (v5 : Int32) (v6 : Int32) (σ : Mem), VK x z 9 (BQ QI x z) 42 [(0, .ref (z.2.2.1 0)), (2, .int v2), (3, .int v3), (4, .int v4), (5, .int v5), (6, .int v6)] [] σ (rc42 v2 v3 v4 v5 v6 σ)) (n : Nat) (v2 : Int32) (v3 : Int32) (v4 : Int32) (v5 : Int32) (v6 : Int32) (v7 : Int32) (v8 : Int32) (σ : Mem) : VK x z 9 (BQ QI x z) 68 [(0, .ref (z.2.2.1 0)), (2, .int v2), (3, .int v3), (4, .int v4), (5, .int v5), (6, .int v6), (7, .int v7), (8, .int v8)] [] σ (fX12_ask_l68 N rc42 n v2 v3 v4 v5 v6 v7 v8 σ) := by
  induction n generalizing v2 v3 v4 v5 v6 v7 v8 σ with
  | zero => exact V_none
  | succ n ih => exact bX12_ask_68 X E hr hZ N rc42 hc42 (fX12_ask_l68 N rc42 n) ih v2 v3 v4 v5 v6 v7 v8 σ
def fX12_ask_b42 (N : Nat) (rc42 : Int32 → Int32 → Int32 → Int32 → Int32 → Mem → Option (Int32 × Mem)) (v2 : Int32) (v3 : Int32) (v4 : Int32) (v5 : Int32) (v6 : Int32) (σ : Mem) : Option (Int32 × Mem) :=
  if 100 ≤ v6 then some (v4, σ) else if (rmI v6 10) ≤ 6 then lt_ 0 (fun v7_11 => lt_ 0 (fun v8_12 => fX12_ask_l68 N rc42 N v2 v3 v4 v5 v6 v7_11 v8_12 σ)) else fX12_ask_b158 N rc42 v2 v3 v4 v5 v6 σ
set_option maxRecDepth 100000 in
set_option maxHeartbeats 4000000 in
theorem bX12_ask_42 {x : Cx} {z : Sx} (X : XG x z RX12 cX12_ask 9 3 69) (E : XE x z) (hr : XR x (some .int)) (hZ : z.2.2.2.1 = kdM) (N : Nat) (rc42 : Int32 → Int32 → Int32 → Int32 → Int32 → Mem → Option (Int32 × Mem)) (hc42 : ∀ (v2 : Int32) (v3 : Int32) (v4 : Int32) (v5 : Int32) (v6 : Int32) (σ : Mem), VK x z 9 (BQ QI x z) 42 [(0, .ref (z.2.2.1 0)), (2, .int v2), (3, .int v3), (4, .int v4), (5, .int v5), (6, .int v6)] [] σ (rc42 v2 v3 v4 v5 v6 σ)) (v2 : Int32) (v3 : Int32) (v4 : Int32) (v5 : Int32) (v6 : Int32) (σ : Mem) : VK x z 9 (BQ QI x z) 42 [(0, .ref (z.2.2.1 0)), (2, .int v2), (3, .int v3), (4, .int v4), (5, .int v5), (6, .int v6)] [] σ (fX12_ask_b42 N rc42 v2 v3 v4 v5 v6 σ) := by
  unfold fX12_ask_b42
  refine V_iload 5 X dX12_ask_42 rfl ?_
  refine V_bipush (v := 100) X dX12_ask_44 (by decide) ?_
  refine V_icmp_ge (tgt := 164) X dX12_ask_46 (by decide) ?_ ?_
  · refine V_iload 3 X dX12_ask_164 rfl ?_
    exact V_iret X E hr dX12_ask_166
  · refine V_iload 5 X dX12_ask_49 rfl ?_
    refine V_bipush (v := 10) X dX12_ask_51 (by decide) ?_
    refine V_iremKG X dX12_ask_53 (by decide) ?_
    refine V_bipush (v := 6) X dX12_ask_54 (by decide) ?_
    refine V_icmp_le (tgt := 62) X dX12_ask_56 (by decide) ?_ ?_
    · refine V_iconst (v := 0) X dX12_ask_62 (by decide) ?_
      refine V_istoreG (L' := fun v7_11 => [(7, .int v7_11), (0, .ref (z.2.2.1 0)), (2, .int v2), (3, .int v3), (4, .int v4), (5, .int v5), (6, .int v6)]) X dX12_ask_63 (by decide) (fun _ => rfl) (fun v7_11 => ?_)
      refine V_iconst (v := 0) X dX12_ask_65 (by decide) ?_
      refine V_istoreG (L' := fun v8_12 => [(8, .int v8_12), (7, .int v7_11), (0, .ref (z.2.2.1 0)), (2, .int v2), (3, .int v3), (4, .int v4), (5, .int v5), (6, .int v6)]) X dX12_ask_66 (by decide) (fun _ => rfl) (fun v8_12 => ?_)
      refine V_sub [2, 3, 4, 5, 6, 7, 1, 0] rfl ?_
      exact lX12_ask_68 X E hr hZ N rc42 hc42 N v2 v3 v4 v5 v6 v7_11 v8_12 σ
    · refine V_goto (tgt := 158) X dX12_ask_59 (by decide) ?_
      refine V_sub [0, 1, 2, 3, 4, 5] rfl ?_
      exact bX12_ask_158 X E hr hZ N rc42 hc42 v2 v3 v4 v5 v6 σ
def fX12_ask_l42 (N : Nat) : Nat → Int32 → Int32 → Int32 → Int32 → Int32 → Mem → Option (Int32 × Mem)
  | 0 => fun _ _ _ _ _ _ => none
  | n + 1 => fX12_ask_b42 N (fX12_ask_l42 N n)
theorem lX12_ask_42 {x : Cx} {z : Sx} (X : XG x z RX12 cX12_ask 9 3 69) (E : XE x z) (hr : XR x (some .int)) (hZ : z.2.2.2.1 = kdM) (N : Nat) (n : Nat) (v2 : Int32) (v3 : Int32) (v4 : Int32) (v5 : Int32) (v6 : Int32) (σ : Mem) : VK x z 9 (BQ QI x z) 42 [(0, .ref (z.2.2.1 0)), (2, .int v2), (3, .int v3), (4, .int v4), (5, .int v5), (6, .int v6)] [] σ (fX12_ask_l42 N n v2 v3 v4 v5 v6 σ) := by
  induction n generalizing v2 v3 v4 v5 v6 σ with
  | zero => exact V_none
  | succ n ih => exact bX12_ask_42 X E hr hZ N (fX12_ask_l42 N n) ih v2 v3 v4 v5 v6 σ
def fX12_ask (N : Nat) (v1 : Int32) (v2 : Int32) (σ : Mem) : Option (Int32 × Mem) :=
  bd (fX12_isLog N v1 σ) (fun r1 s2 => if r1 = 0 then some ((-1), s2) else bd (fX12_isIn N v2 0 60 s2) (fun r3 s4 => if r3 = 0 then some ((-1), s4) else bd (fX12_fitting N s4) (fun r5 s6 => lt_ r5 (fun v3_7 => if v3_7 = 0 then some ((-1), s6) else lt_ (-1) (fun v4_8 => lt_ 999 (fun v5_9 => lt_ 0 (fun v6_10 => fX12_ask_l42 N N v2 v3_7 v4_8 v5_9 v6_10 s6)))))))
set_option maxRecDepth 100000 in
set_option maxHeartbeats 4000000 in
theorem bX12_ask_0 {x : Cx} {z : Sx} (X : XG x z RX12 cX12_ask 9 3 69) (E : XE x z) (hr : XR x (some .int)) (hZ : z.2.2.2.1 = kdM) (N : Nat) (v1 : Int32) (v2 : Int32) (σ : Mem) : VK x z 9 (BQ QI x z) 0 [(0, .ref (z.2.2.1 0)), (1, .int v1), (2, .int v2)] [] σ (fX12_ask N v1 v2 σ) := by
  unfold fX12_ask
  refine V_aload_n 0 X dX12_ask_0 rfl rfl ?_
  refine V_iload_n 1 X dX12_ask_1 rfl rfl ?_
  refine V_callI [.int v1] [] X E dX12_ask_2 (kX12_isLog x.2.1 z hZ N v1 σ) co12 (kM hZ 0 _ rfl) gcX12_351 hyX12_isLog rfl ⟨by decide, by decide⟩ rfl (Nat.le_of_ble_eq_true rfl) (fun r1 s2 => ?_)
  refine V_if_eq (tgt := 18) X dX12_ask_5 (by decide) ?_ ?_
  · refine V_iconst (v := -1) X dX12_ask_18 (by decide) ?_
    exact V_iret X E hr dX12_ask_19
  · refine V_iload_n 2 X dX12_ask_8 rfl rfl ?_
    refine V_iconst (v := 0) X dX12_ask_9 (by decide) ?_
    refine V_bipush (v := 60) X dX12_ask_10 (by decide) ?_
    refine V_calSI [.int v2, .int 0, .int 60] [] X E dX12_ask_12 (kX12_isIn x.2.1 z hZ N v2 0 60 s2) gcX12_106 hyX12_isIn rfl ⟨by decide, by decide⟩ rfl (Nat.le_of_ble_eq_true rfl) (fun r3 s4 => ?_)
    refine V_if_ne (tgt := 20) X dX12_ask_15 (by decide) ?_ ?_
    · refine V_aload_n 0 X dX12_ask_20 rfl rfl ?_
      refine V_callI [] [] X E dX12_ask_21 (kX12_fitting x.2.1 z hZ N s4) co12 (kM hZ 0 _ rfl) gcX12_361 hyX12_fitting rfl ⟨by decide, by decide⟩ rfl (Nat.le_of_ble_eq_true rfl) (fun r5 s6 => ?_)
      refine V_istore_nG (L' := fun v3_7 => [(3, .int v3_7), (0, .ref (z.2.2.1 0)), (1, .int v1), (2, .int v2)]) X dX12_ask_24 rfl (by decide) (fun _ => rfl) (fun v3_7 => ?_)
      refine V_iload_n 0 X dX12_ask_25 rfl rfl ?_
      refine V_if_ne (tgt := 31) X dX12_ask_26 (by decide) ?_ ?_
      · refine V_iconst (v := -1) X dX12_ask_31 (by decide) ?_
        refine V_istoreG (L' := fun v4_8 => [(4, .int v4_8), (3, .int v3_7), (0, .ref (z.2.2.1 0)), (1, .int v1), (2, .int v2)]) X dX12_ask_32 (by decide) (fun _ => rfl) (fun v4_8 => ?_)
        refine V_sipush (v := 999) X dX12_ask_34 (by decide) ?_
        refine V_istoreG (L' := fun v5_9 => [(5, .int v5_9), (4, .int v4_8), (3, .int v3_7), (0, .ref (z.2.2.1 0)), (1, .int v1), (2, .int v2)]) X dX12_ask_37 (by decide) (fun _ => rfl) (fun v5_9 => ?_)
        refine V_iconst (v := 0) X dX12_ask_39 (by decide) ?_
        refine V_istoreG (L' := fun v6_10 => [(6, .int v6_10), (5, .int v5_9), (4, .int v4_8), (3, .int v3_7), (0, .ref (z.2.2.1 0)), (1, .int v1), (2, .int v2)]) X dX12_ask_40 (by decide) (fun _ => rfl) (fun v6_10 => ?_)
        refine V_sub [4, 6, 3, 2, 1, 0] rfl ?_
        exact lX12_ask_42 X E hr hZ N N v2 v3_7 v4_8 v5_9 v6_10 s6
      · refine V_iconst (v := -1) X dX12_ask_29 (by decide) ?_
        exact V_iret X E hr dX12_ask_30
    · refine V_iconst (v := -1) X dX12_ask_18 (by decide) ?_
      exact V_iret X E hr dX12_ask_19
theorem kX12_ask (l : Launch) (z : Sx) (hZ : z.2.2.2.1 = kdM) (N : Nat) (v1 : Int32) (v2 : Int32) (σ : Mem) : Ct QI yX12_ask cX12_ask 9 (some .int) 3 69 l z [.ref (z.2.2.1 0), .int v1, .int v2] σ (fX12_ask N v1 v2 σ) := by
  refine Ct_of (by decide +kernel) (Nat.le_of_ble_eq_true rfl) rfl ?_
  intro x _ X E hr
  exact bX12_ask_0 X E hr hZ N v1 v2 σ
def fX12_bears_b62 (N : Nat) (rc25 : Int32 → Int32 → Int32 → Int32 → Mem → Option (Int32 × Mem)) (v2 : Int32) (v3 : Int32) (v4 : Int32) (v5 : Int32) (σ : Mem) : Option (Int32 × Mem) :=
  lt_ (v5 + 1) (fun v5_10 => rc25 v2 v3 v4 v5_10 σ)
set_option maxRecDepth 100000 in
set_option maxHeartbeats 4000000 in
theorem bX12_bears_62 {x : Cx} {z : Sx} (X : XG x z RX12 cX12_bears 6 3 65) (E : XE x z) (hr : XR x (some .int)) (hZ : z.2.2.2.1 = kdM) (N : Nat) (rc25 : Int32 → Int32 → Int32 → Int32 → Mem → Option (Int32 × Mem)) (hc25 : ∀ (v2 : Int32) (v3 : Int32) (v4 : Int32) (v5 : Int32) (σ : Mem), VK x z 6 (BQ QI x z) 25 [(0, .ref (z.2.2.1 0)), (2, .int v2), (3, .int v3), (4, .int v4), (5, .int v5)] [] σ (rc25 v2 v3 v4 v5 σ)) (v2 : Int32) (v3 : Int32) (v4 : Int32) (v5 : Int32) (σ : Mem) : VK x z 6 (BQ QI x z) 62 [(0, .ref (z.2.2.1 0)), (2, .int v2), (3, .int v3), (4, .int v4), (5, .int v5)] [] σ (fX12_bears_b62 N rc25 v2 v3 v4 v5 σ) := by
  unfold fX12_bears_b62
  refine V_iincG (L' := fun v5_10 => [(5, .int v5_10), (0, .ref (z.2.2.1 0)), (2, .int v2), (3, .int v3), (4, .int v4)]) 4 X dX12_bears_62 rfl rfl (by decide) (fun _ => rfl) (fun v5_10 => ?_)
  refine V_goto (tgt := 25) X dX12_bears_65 (by decide) ?_
  refine V_sub [1, 2, 3, 4, 0] rfl ?_
  exact hc25 v2 v3 v4 v5_10 σ
def fX12_bears_b42 (N : Nat) (rc25 : Int32 → Int32 → Int32 → Int32 → Mem → Option (Int32 × Mem)) (v2 : Int32) (v3 : Int32) (v4 : Int32) (v5 : Int32) (σ : Mem) : Option (Int32 × Mem) :=
  bd (fX12_isSo N (((99 * v2) + v5) - 1) σ) (fun r7 s8 => if r7 = 0 then fX12_bears_b62 N rc25 v2 v3 v4 v5 s8 else lt_ v5 (fun v4_9 => fX12_bears_b62 N rc25 v2 v3 v4_9 v5 s8))
set_option maxRecDepth 100000 in
set_option maxHeartbeats 4000000 in
theorem bX12_bears_42 {x : Cx} {z : Sx} (X : XG x z RX12 cX12_bears 6 3 65) (E : XE x z) (hr : XR x (some .int)) (hZ : z.2.2.2.1 = kdM) (N : Nat) (rc25 : Int32 → Int32 → Int32 → Int32 → Mem → Option (Int32 × Mem)) (hc25 : ∀ (v2 : Int32) (v3 : Int32) (v4 : Int32) (v5 : Int32) (σ : Mem), VK x z 6 (BQ QI x z) 25 [(0, .ref (z.2.2.1 0)), (2, .int v2), (3, .int v3), (4, .int v4), (5, .int v5)] [] σ (rc25 v2 v3 v4 v5 σ)) (v2 : Int32) (v3 : Int32) (v4 : Int32) (v5 : Int32) (σ : Mem) : VK x z 6 (BQ QI x z) 42 [(0, .ref (z.2.2.1 0)), (2, .int v2), (3, .int v3), (4, .int v4), (5, .int v5)] [] σ (fX12_bears_b42 N rc25 v2 v3 v4 v5 σ) := by
  unfold fX12_bears_b42
  refine V_aload_n 0 X dX12_bears_42 rfl rfl ?_
  refine V_bipush (v := 99) X dX12_bears_43 (by decide) ?_
  refine V_iload_n 1 X dX12_bears_45 rfl rfl ?_
  refine V_imul X dX12_bears_46 ?_
  refine V_iload 4 X dX12_bears_47 rfl ?_
  refine V_iadd X dX12_bears_49 ?_
  refine V_iconst (v := 1) X dX12_bears_50 (by decide) ?_
  refine V_isub X dX12_bears_51 ?_
  refine V_callI [.int (((99 * v2) + v5) - 1)] [] X E dX12_bears_52 (kX12_isSo x.2.1 z hZ N (((99 * v2) + v5) - 1) σ) co12 (kM hZ 0 _ rfl) gcX12_358 hyX12_isSo rfl ⟨by decide, by decide⟩ rfl (Nat.le_of_ble_eq_true rfl) (fun r7 s8 => ?_)
  refine V_if_eq (tgt := 62) X dX12_bears_55 (by decide) ?_ ?_
  · refine V_sub [0, 1, 2, 3, 4] rfl ?_
    exact bX12_bears_62 X E hr hZ N rc25 hc25 v2 v3 v4 v5 s8
  · refine V_iload 4 X dX12_bears_58 rfl ?_
    refine V_istoreG (L' := fun v4_9 => [(4, .int v4_9), (0, .ref (z.2.2.1 0)), (2, .int v2), (3, .int v3), (5, .int v5)]) X dX12_bears_60 (by decide) (fun _ => rfl) (fun v4_9 => ?_)
    refine V_sub [1, 2, 3, 0, 4] rfl ?_
    exact bX12_bears_62 X E hr hZ N rc25 hc25 v2 v3 v4_9 v5 s8
def fX12_bears_b25 (N : Nat) (rc25 : Int32 → Int32 → Int32 → Int32 → Mem → Option (Int32 × Mem)) (v2 : Int32) (v3 : Int32) (v4 : Int32) (v5 : Int32) (σ : Mem) : Option (Int32 × Mem) :=
  if 100 ≤ v5 then some (v4, σ) else if v4 = (-1) then fX12_bears_b42 N rc25 v2 v3 v4 v5 σ else if v3 = 0 then fX12_bears_b62 N rc25 v2 v3 v4 v5 σ else fX12_bears_b42 N rc25 v2 v3 v4 v5 σ
set_option maxRecDepth 100000 in
set_option maxHeartbeats 4000000 in
theorem bX12_bears_25 {x : Cx} {z : Sx} (X : XG x z RX12 cX12_bears 6 3 65) (E : XE x z) (hr : XR x (some .int)) (hZ : z.2.2.2.1 = kdM) (N : Nat) (rc25 : Int32 → Int32 → Int32 → Int32 → Mem → Option (Int32 × Mem)) (hc25 : ∀ (v2 : Int32) (v3 : Int32) (v4 : Int32) (v5 : Int32) (σ : Mem), VK x z 6 (BQ QI x z) 25 [(0, .ref (z.2.2.1 0)), (2, .int v2), (3, .int v3), (4, .int v4), (5, .int v5)] [] σ (rc25 v2 v3 v4 v5 σ)) (v2 : Int32) (v3 : Int32) (v4 : Int32) (v5 : Int32) (σ : Mem) : VK x z 6 (BQ QI x z) 25 [(0, .ref (z.2.2.1 0)), (2, .int v2), (3, .int v3), (4, .int v4), (5, .int v5)] [] σ (fX12_bears_b25 N rc25 v2 v3 v4 v5 σ) := by
  unfold fX12_bears_b25
  refine V_iload 4 X dX12_bears_25 rfl ?_
  refine V_bipush (v := 100) X dX12_bears_27 (by decide) ?_
  refine V_icmp_ge (tgt := 68) X dX12_bears_29 (by decide) ?_ ?_
  · refine V_iload 3 X dX12_bears_68 rfl ?_
    exact V_iret X E hr dX12_bears_70
  · refine V_iload 3 X dX12_bears_32 rfl ?_
    refine V_iconst (v := -1) X dX12_bears_34 (by decide) ?_
    refine V_icmp_eq (tgt := 42) X dX12_bears_35 (by decide) ?_ ?_
    · refine V_sub [0, 1, 2, 3, 4] rfl ?_
      exact bX12_bears_42 X E hr hZ N rc25 hc25 v2 v3 v4 v5 σ
    · refine V_iload_n 2 X dX12_bears_38 rfl rfl ?_
      refine V_if_eq (tgt := 62) X dX12_bears_39 (by decide) ?_ ?_
      · refine V_sub [0, 1, 2, 3, 4] rfl ?_
        exact bX12_bears_62 X E hr hZ N rc25 hc25 v2 v3 v4 v5 σ
      · refine V_sub [0, 1, 2, 3, 4] rfl ?_
        exact bX12_bears_42 X E hr hZ N rc25 hc25 v2 v3 v4 v5 σ
def fX12_bears_l25 (N : Nat) : Nat → Int32 → Int32 → Int32 → Int32 → Mem → Option (Int32 × Mem)
  | 0 => fun _ _ _ _ _ => none
  | n + 1 => fX12_bears_b25 N (fX12_bears_l25 N n)
theorem lX12_bears_25 {x : Cx} {z : Sx} (X : XG x z RX12 cX12_bears 6 3 65) (E : XE x z) (hr : XR x (some .int)) (hZ : z.2.2.2.1 = kdM) (N : Nat) (n : Nat) (v2 : Int32) (v3 : Int32) (v4 : Int32) (v5 : Int32) (σ : Mem) : VK x z 6 (BQ QI x z) 25 [(0, .ref (z.2.2.1 0)), (2, .int v2), (3, .int v3), (4, .int v4), (5, .int v5)] [] σ (fX12_bears_l25 N n v2 v3 v4 v5 σ) := by
  induction n generalizing v2 v3 v4 v5 σ with
  | zero => exact V_none
  | succ n ih => exact bX12_bears_25 X E hr hZ N (fX12_bears_l25 N n) ih v2 v3 v4 v5 σ
def fX12_bears (N : Nat) (v1 : Int32) (v2 : Int32) (v3 : Int32) (σ : Mem) : Option (Int32 × Mem) :=
  bd (fX12_isLog N v1 σ) (fun r1 s2 => if r1 = 0 then some ((-1), s2) else bd (fX12_isIn N v2 0 2 s2) (fun r3 s4 => if r3 = 0 then some ((-1), s4) else lt_ (-1) (fun v4_5 => lt_ 1 (fun v5_6 => fX12_bears_l25 N N v2 v3 v4_5 v5_6 s4))))
set_option maxRecDepth 100000 in
set_option maxHeartbeats 4000000 in
theorem bX12_bears_0 {x : Cx} {z : Sx} (X : XG x z RX12 cX12_bears 6 3 65) (E : XE x z) (hr : XR x (some .int)) (hZ : z.2.2.2.1 = kdM) (N : Nat) (v1 : Int32) (v2 : Int32) (v3 : Int32) (σ : Mem) : VK x z 6 (BQ QI x z) 0 [(0, .ref (z.2.2.1 0)), (1, .int v1), (2, .int v2), (3, .int v3)] [] σ (fX12_bears N v1 v2 v3 σ) := by
  unfold fX12_bears
  refine V_aload_n 0 X dX12_bears_0 rfl rfl ?_
  refine V_iload_n 1 X dX12_bears_1 rfl rfl ?_
  refine V_callI [.int v1] [] X E dX12_bears_2 (kX12_isLog x.2.1 z hZ N v1 σ) co12 (kM hZ 0 _ rfl) gcX12_351 hyX12_isLog rfl ⟨by decide, by decide⟩ rfl (Nat.le_of_ble_eq_true rfl) (fun r1 s2 => ?_)
  refine V_if_eq (tgt := 17) X dX12_bears_5 (by decide) ?_ ?_
  · refine V_iconst (v := -1) X dX12_bears_17 (by decide) ?_
    exact V_iret X E hr dX12_bears_18
  · refine V_iload_n 2 X dX12_bears_8 rfl rfl ?_
    refine V_iconst (v := 0) X dX12_bears_9 (by decide) ?_
    refine V_iconst (v := 2) X dX12_bears_10 (by decide) ?_
    refine V_calSI [.int v2, .int 0, .int 2] [] X E dX12_bears_11 (kX12_isIn x.2.1 z hZ N v2 0 2 s2) gcX12_106 hyX12_isIn rfl ⟨by decide, by decide⟩ rfl (Nat.le_of_ble_eq_true rfl) (fun r3 s4 => ?_)
    refine V_if_ne (tgt := 19) X dX12_bears_14 (by decide) ?_ ?_
    · refine V_iconst (v := -1) X dX12_bears_19 (by decide) ?_
      refine V_istoreG (L' := fun v4_5 => [(4, .int v4_5), (0, .ref (z.2.2.1 0)), (1, .int v1), (2, .int v2), (3, .int v3)]) X dX12_bears_20 (by decide) (fun _ => rfl) (fun v4_5 => ?_)
      refine V_iconst (v := 1) X dX12_bears_22 (by decide) ?_
      refine V_istoreG (L' := fun v5_6 => [(5, .int v5_6), (4, .int v4_5), (0, .ref (z.2.2.1 0)), (1, .int v1), (2, .int v2), (3, .int v3)]) X dX12_bears_23 (by decide) (fun _ => rfl) (fun v5_6 => ?_)
      refine V_sub [2, 4, 5, 1, 0] rfl ?_
      exact lX12_bears_25 X E hr hZ N N v2 v3 v4_5 v5_6 s4
    · refine V_iconst (v := -1) X dX12_bears_17 (by decide) ?_
      exact V_iret X E hr dX12_bears_18
theorem kX12_bears (l : Launch) (z : Sx) (hZ : z.2.2.2.1 = kdM) (N : Nat) (v1 : Int32) (v2 : Int32) (v3 : Int32) (σ : Mem) : Ct QI yX12_bears cX12_bears 6 (some .int) 3 65 l z [.ref (z.2.2.1 0), .int v1, .int v2, .int v3] σ (fX12_bears N v1 v2 v3 σ) := by
  refine Ct_of (by decide +kernel) (Nat.le_of_ble_eq_true rfl) rfl ?_
  intro x _ X E hr
  exact bX12_bears_0 X E hr hZ N v1 v2 v3 σ
def fX12_below (N : Nat) (v1 : Int32) (σ : Mem) : Option (Int32 × Mem) :=
  lt_ (pI σ 0 34 (((σ.1 0 34) * 1103515245) + 12345)) (fun s1 => gd (!(decide (v1 = 0))) (some ((rmI (usI (s1.1 0 34) 16) v1), s1)))
set_option maxRecDepth 100000 in
set_option maxHeartbeats 4000000 in
theorem bX12_below_0 {x : Cx} {z : Sx} (X : XG x z RX12 cX12_below 2 0 0) (E : XE x z) (hr : XR x (some .int)) (hZ : z.2.2.2.1 = kdM) (N : Nat) (v1 : Int32) (σ : Mem) : VK x z 2 (BQ QI x z) 0 [(0, .ref (z.2.2.1 0)), (1, .int v1)] [] σ (fX12_below N v1 σ) := by
  unfold fX12_below
  refine V_aload_n 0 X dX12_below_0 rfl rfl ?_
  refine V_aload_n 0 X dX12_below_1 rfl rfl ?_
  refine V_getI 34 X dX12_below_2 co12 (kM hZ 0 _ rfl) (by decide) rfl wfX12_368 ?_
  refine V_ldcw (v := 1103515245) X dX12_below_5 csX12_371 ?_
  refine V_imul X dX12_below_8 ?_
  refine V_sipush (v := 12345) X dX12_below_9 (by decide) ?_
  refine V_iadd X dX12_below_12 ?_
  refine V_putIG 34 X dX12_below_13 co12 (kM hZ 0 _ rfl) (by decide) rfl wfX12_368 rfl rfl rfl (fun s1 => ?_)
  refine V_aload_n 0 X dX12_below_16 rfl rfl ?_
  refine V_getI 34 X dX12_below_17 co12 (kM hZ 0 _ rfl) (by decide) rfl wfX12_368 ?_
  refine V_bipush (v := 16) X dX12_below_20 (by decide) ?_
  refine V_iushrG X dX12_below_22 ?_
  refine V_iload_n 1 X dX12_below_23 rfl rfl ?_
  refine V_iremG X dX12_below_24 ?_
  exact V_iret X E hr dX12_below_25
theorem kX12_below (l : Launch) (z : Sx) (hZ : z.2.2.2.1 = kdM) (N : Nat) (v1 : Int32) (σ : Mem) : Ct QI yX12_below cX12_below 2 (some .int) 0 0 l z [.ref (z.2.2.1 0), .int v1] σ (fX12_below N v1 σ) := by
  refine Ct_of (by decide +kernel) (Nat.le_of_ble_eq_true rfl) rfl ?_
  intro x _ X E hr
  exact bX12_below_0 X E hr hZ N v1 σ
def fX12_draws_b143 (N : Nat) (t0 : Int32) (σ : Mem) : Option (Unit × Mem) :=
  bd (fX12_does N t0 (-1) (-1) σ) (fun r23 s24 => some ((), s24))
set_option maxRecDepth 100000 in
set_option maxHeartbeats 4000000 in
theorem bX12_draws_143 {x : Cx} {z : Sx} (X : XG x z RX12 cX12_draws 3 7 159) (E : XE x z) (hr : XR x none) (hZ : z.2.2.2.1 = kdM) (N : Nat) (t0 : Int32) (σ : Mem) : VK x z 3 (BQ QV x z) 143 [(0, .ref (z.2.2.1 0))] [.int t0, .ref (z.2.2.1 0)] σ (fX12_draws_b143 N t0 σ) := by
  unfold fX12_draws_b143
  refine V_iconst (v := -1) X dX12_draws_143 (by decide) ?_
  refine V_iconst (v := -1) X dX12_draws_144 (by decide) ?_
  refine V_callI [.int t0, .int (-1), .int (-1)] [] X E dX12_draws_145 (kX12_does x.2.1 z hZ N t0 (-1) (-1) σ) co12 (kM hZ 0 _ rfl) gcX12_258 hyX12_does rfl ⟨by decide, by decide⟩ rfl (Nat.le_of_ble_eq_true rfl) (fun r23 s24 => ?_)
  refine V_pop X dX12_draws_148 rfl ?_
  exact V_vret X E hr dX12_draws_149
def fX12_draws (N : Nat) (σ : Mem) : Option (Unit × Mem) :=
  bd (fX12_below N 8 σ) (fun r1 s2 => lt_ r1 (fun v1_3 => if 2 ≤ v1_3 then if 4 ≤ v1_3 then if 6 ≤ v1_3 then if v1_3 = 7 then fX12_draws_b143 N 7 s2 else bd (fX12_below N 2 s2) (fun r4 s5 => fX12_draws_b143 N (5 + r4) s5) else if (s2.1 0 12) ≤ 0 then some ((), s2) else bd (fX12_below N (s2.1 0 12) s2) (fun r6 s7 => bd (fX12_does N (v1_3 - 2) r6 (-1) s7) (fun r8 s9 => some ((), s9))) else if (s2.1 0 13) = 0 then some ((), s2) else bd (fX12_below N (s2.1 0 13) s2) (fun r10 s11 => lt_ r10 (fun v2_12 => if v1_3 = 3 then bd (fX12_does N 1 v2_12 (-1) s11) (fun r17 s18 => some ((), s18)) else if (s11.1 0 12) ≤ 0 then some ((), s11) else bd (fX12_below N (s11.1 0 12) s11) (fun r13 s14 => bd (fX12_does N 4 v2_12 r13 s14) (fun r15 s16 => some ((), s16))))) else bd (fX12_below N 64 s2) (fun r19 s20 => bd (fX12_does N 0 r19 (-1) s20) (fun r21 s22 => some ((), s22)))))
set_option maxRecDepth 100000 in
set_option maxHeartbeats 4000000 in
theorem bX12_draws_0 {x : Cx} {z : Sx} (X : XG x z RX12 cX12_draws 3 7 159) (E : XE x z) (hr : XR x none) (hZ : z.2.2.2.1 = kdM) (N : Nat) (σ : Mem) : VK x z 3 (BQ QV x z) 0 [(0, .ref (z.2.2.1 0))] [] σ (fX12_draws N σ) := by
  unfold fX12_draws
  refine V_aload_n 0 X dX12_draws_0 rfl rfl ?_
  refine V_bipush (v := 8) X dX12_draws_1 (by decide) ?_
  refine V_callI [.int 8] [] X E dX12_draws_3 (kX12_below x.2.1 z hZ N 8 σ) co12 (kM hZ 0 _ rfl) gcX12_372 hyX12_below rfl ⟨by decide, by decide⟩ rfl (Nat.le_of_ble_eq_true rfl) (fun r1 s2 => ?_)
  refine V_istore_nG (L' := fun v1_3 => [(1, .int v1_3), (0, .ref (z.2.2.1 0))]) X dX12_draws_6 rfl (by decide) (fun _ => rfl) (fun v1_3 => ?_)
  refine V_iload_n 0 X dX12_draws_7 rfl rfl ?_
  refine V_iconst (v := 2) X dX12_draws_8 (by decide) ?_
  refine V_icmp_ge (tgt := 28) X dX12_draws_9 (by decide) ?_ ?_
  · refine V_iload_n 0 X dX12_draws_28 rfl rfl ?_
    refine V_iconst (v := 4) X dX12_draws_29 (by decide) ?_
    refine V_icmp_ge (tgt := 91) X dX12_draws_30 (by decide) ?_ ?_
    · refine V_iload_n 0 X dX12_draws_91 rfl rfl ?_
      refine V_bipush (v := 6) X dX12_draws_92 (by decide) ?_
      refine V_icmp_ge (tgt := 124) X dX12_draws_94 (by decide) ?_ ?_
      · refine V_aload_n 1 X dX12_draws_124 rfl rfl ?_
        refine V_iload_n 0 X dX12_draws_125 rfl rfl ?_
        refine V_bipush (v := 7) X dX12_draws_126 (by decide) ?_
        refine V_icmp_ne (tgt := 136) X dX12_draws_128 (by decide) ?_ ?_
        · refine V_iconst (v := 5) X dX12_draws_136 (by decide) ?_
          refine V_aload_n 1 X dX12_draws_137 rfl rfl ?_
          refine V_iconst (v := 2) X dX12_draws_138 (by decide) ?_
          refine V_callI [.int 2] [.int 5, .ref (z.2.2.1 0)] X E dX12_draws_139 (kX12_below x.2.1 z hZ N 2 s2) co12 (kM hZ 0 _ rfl) gcX12_372 hyX12_below rfl ⟨by decide, by decide⟩ rfl (Nat.le_of_ble_eq_true rfl) (fun r4 s5 => ?_)
          refine V_iadd X dX12_draws_142 ?_
          refine V_sub [1] rfl ?_
          exact bX12_draws_143 X E hr hZ N (5 + r4) s5
        · refine V_bipush (v := 7) X dX12_draws_131 (by decide) ?_
          refine V_goto (tgt := 143) X dX12_draws_133 (by decide) ?_
          refine V_sub [1] rfl ?_
          exact bX12_draws_143 X E hr hZ N 7 s2
      · refine V_aload_n 1 X dX12_draws_97 rfl rfl ?_
        refine V_getI 12 X dX12_draws_98 co12 (kM hZ 0 _ rfl) (by decide) rfl wfX12_159 ?_
        refine V_if_le (tgt := 149) X dX12_draws_101 (by decide) ?_ ?_
        · exact V_vret X E hr dX12_draws_149
        · refine V_aload_n 1 X dX12_draws_104 rfl rfl ?_
          refine V_iload_n 0 X dX12_draws_105 rfl rfl ?_
          refine V_iconst (v := 2) X dX12_draws_106 (by decide) ?_
          refine V_isub X dX12_draws_107 ?_
          refine V_aload_n 1 X dX12_draws_108 rfl rfl ?_
          refine V_aload_n 1 X dX12_draws_109 rfl rfl ?_
          refine V_getI 12 X dX12_draws_110 co12 (kM hZ 0 _ rfl) (by decide) rfl wfX12_159 ?_
          refine V_callI [.int (s2.1 0 12)] [.int (v1_3 - 2), .ref (z.2.2.1 0)] X E dX12_draws_113 (kX12_below x.2.1 z hZ N (s2.1 0 12) s2) co12 (kM hZ 0 _ rfl) gcX12_372 hyX12_below rfl ⟨by decide, by decide⟩ rfl (Nat.le_of_ble_eq_true rfl) (fun r6 s7 => ?_)
          refine V_iconst (v := -1) X dX12_draws_116 (by decide) ?_
          refine V_callI [.int (v1_3 - 2), .int r6, .int (-1)] [] X E dX12_draws_117 (kX12_does x.2.1 z hZ N (v1_3 - 2) r6 (-1) s7) co12 (kM hZ 0 _ rfl) gcX12_258 hyX12_does rfl ⟨by decide, by decide⟩ rfl (Nat.le_of_ble_eq_true rfl) (fun r8 s9 => ?_)
          refine V_pop X dX12_draws_120 rfl ?_
          refine V_goto (tgt := 149) X dX12_draws_121 (by decide) ?_
          exact V_vret X E hr dX12_draws_149
    · refine V_aload_n 1 X dX12_draws_33 rfl rfl ?_
      refine V_getI 13 X dX12_draws_34 co12 (kM hZ 0 _ rfl) (by decide) rfl wfX12_162 ?_
      refine V_if_ne (tgt := 41) X dX12_draws_37 (by decide) ?_ ?_
      · refine V_aload_n 1 X dX12_draws_41 rfl rfl ?_
        refine V_aload_n 1 X dX12_draws_42 rfl rfl ?_
        refine V_getI 13 X dX12_draws_43 co12 (kM hZ 0 _ rfl) (by decide) rfl wfX12_162 ?_
        refine V_callI [.int (s2.1 0 13)] [] X E dX12_draws_46 (kX12_below x.2.1 z hZ N (s2.1 0 13) s2) co12 (kM hZ 0 _ rfl) gcX12_372 hyX12_below rfl ⟨by decide, by decide⟩ rfl (Nat.le_of_ble_eq_true rfl) (fun r10 s11 => ?_)
        refine V_istore_nG (L' := fun v2_12 => [(2, .int v2_12), (1, .int v1_3), (0, .ref (z.2.2.1 0))]) X dX12_draws_49 rfl (by decide) (fun _ => rfl) (fun v2_12 => ?_)
        refine V_iload_n 1 X dX12_draws_50 rfl rfl ?_
        refine V_iconst (v := 3) X dX12_draws_51 (by decide) ?_
        refine V_icmp_ne (tgt := 66) X dX12_draws_52 (by decide) ?_ ?_
        · refine V_aload_n 2 X dX12_draws_66 rfl rfl ?_
          refine V_getI 12 X dX12_draws_67 co12 (kM hZ 0 _ rfl) (by decide) rfl wfX12_159 ?_
          refine V_if_le (tgt := 88) X dX12_draws_70 (by decide) ?_ ?_
          · refine V_goto (tgt := 149) X dX12_draws_88 (by decide) ?_
            exact V_vret X E hr dX12_draws_149
          · refine V_aload_n 2 X dX12_draws_73 rfl rfl ?_
            refine V_iconst (v := 4) X dX12_draws_74 (by decide) ?_
            refine V_iload_n 0 X dX12_draws_75 rfl rfl ?_
            refine V_aload_n 2 X dX12_draws_76 rfl rfl ?_
            refine V_aload_n 2 X dX12_draws_77 rfl rfl ?_
            refine V_getI 12 X dX12_draws_78 co12 (kM hZ 0 _ rfl) (by decide) rfl wfX12_159 ?_
            refine V_callI [.int (s11.1 0 12)] [.int v2_12, .int 4, .ref (z.2.2.1 0)] X E dX12_draws_81 (kX12_below x.2.1 z hZ N (s11.1 0 12) s11) co12 (kM hZ 0 _ rfl) gcX12_372 hyX12_below rfl ⟨by decide, by decide⟩ rfl (Nat.le_of_ble_eq_true rfl) (fun r13 s14 => ?_)
            refine V_callI [.int 4, .int v2_12, .int r13] [] X E dX12_draws_84 (kX12_does x.2.1 z hZ N 4 v2_12 r13 s14) co12 (kM hZ 0 _ rfl) gcX12_258 hyX12_does rfl ⟨by decide, by decide⟩ rfl (Nat.le_of_ble_eq_true rfl) (fun r15 s16 => ?_)
            refine V_pop X dX12_draws_87 rfl ?_
            refine V_goto (tgt := 149) X dX12_draws_88 (by decide) ?_
            exact V_vret X E hr dX12_draws_149
        · refine V_aload_n 2 X dX12_draws_55 rfl rfl ?_
          refine V_iconst (v := 1) X dX12_draws_56 (by decide) ?_
          refine V_iload_n 0 X dX12_draws_57 rfl rfl ?_
          refine V_iconst (v := -1) X dX12_draws_58 (by decide) ?_
          refine V_callI [.int 1, .int v2_12, .int (-1)] [] X E dX12_draws_59 (kX12_does x.2.1 z hZ N 1 v2_12 (-1) s11) co12 (kM hZ 0 _ rfl) gcX12_258 hyX12_does rfl ⟨by decide, by decide⟩ rfl (Nat.le_of_ble_eq_true rfl) (fun r17 s18 => ?_)
          refine V_pop X dX12_draws_62 rfl ?_
          refine V_goto (tgt := 88) X dX12_draws_63 (by decide) ?_
          refine V_goto (tgt := 149) X dX12_draws_88 (by decide) ?_
          exact V_vret X E hr dX12_draws_149
      · exact V_vret X E hr dX12_draws_40
  · refine V_aload_n 1 X dX12_draws_12 rfl rfl ?_
    refine V_iconst (v := 0) X dX12_draws_13 (by decide) ?_
    refine V_aload_n 1 X dX12_draws_14 rfl rfl ?_
    refine V_bipush (v := 64) X dX12_draws_15 (by decide) ?_
    refine V_callI [.int 64] [.int 0, .ref (z.2.2.1 0)] X E dX12_draws_17 (kX12_below x.2.1 z hZ N 64 s2) co12 (kM hZ 0 _ rfl) gcX12_372 hyX12_below rfl ⟨by decide, by decide⟩ rfl (Nat.le_of_ble_eq_true rfl) (fun r19 s20 => ?_)
    refine V_iconst (v := -1) X dX12_draws_20 (by decide) ?_
    refine V_callI [.int 0, .int r19, .int (-1)] [] X E dX12_draws_21 (kX12_does x.2.1 z hZ N 0 r19 (-1) s20) co12 (kM hZ 0 _ rfl) gcX12_258 hyX12_does rfl ⟨by decide, by decide⟩ rfl (Nat.le_of_ble_eq_true rfl) (fun r21 s22 => ?_)
    refine V_pop X dX12_draws_24 rfl ?_
    refine V_goto (tgt := 149) X dX12_draws_25 (by decide) ?_
    exact V_vret X E hr dX12_draws_149
theorem kX12_draws (l : Launch) (z : Sx) (hZ : z.2.2.2.1 = kdM) (N : Nat) (σ : Mem) : Ct QV yX12_draws cX12_draws 3 none 7 159 l z [.ref (z.2.2.1 0)] σ (fX12_draws N σ) := by
  refine Ct_of (by decide +kernel) (Nat.le_of_ble_eq_true rfl) rfl ?_
  intro x _ X E hr
  exact bX12_draws_0 X E hr hZ N σ
def fX12_drawn_b38 (N : Nat) (rc38 : Int32 → Int32 → Int32 → Mem → Option (Int32 × Mem)) (v3 : Int32) (v4 : Int32) (v5 : Int32) (σ : Mem) : Option (Int32 × Mem) :=
  if v3 ≤ v5 then bd (fX12_nowOf N v4 σ) (fun r9 s10 => some (r9, s10)) else bd (fX12_draws N σ) (fun r11 s12 => lt_ (v5 + 1) (fun v5_13 => rc38 v3 v4 v5_13 s12))
set_option maxRecDepth 100000 in
set_option maxHeartbeats 4000000 in
theorem bX12_drawn_38 {x : Cx} {z : Sx} (X : XG x z RX12 cX12_drawn 6 8 181) (E : XE x z) (hr : XR x (some .int)) (hZ : z.2.2.2.1 = kdM) (N : Nat) (rc38 : Int32 → Int32 → Int32 → Mem → Option (Int32 × Mem)) (hc38 : ∀ (v3 : Int32) (v4 : Int32) (v5 : Int32) (σ : Mem), VK x z 6 (BQ QI x z) 38 [(0, .ref (z.2.2.1 0)), (3, .int v3), (4, .int v4), (5, .int v5)] [] σ (rc38 v3 v4 v5 σ)) (v3 : Int32) (v4 : Int32) (v5 : Int32) (σ : Mem) : VK x z 6 (BQ QI x z) 38 [(0, .ref (z.2.2.1 0)), (3, .int v3), (4, .int v4), (5, .int v5)] [] σ (fX12_drawn_b38 N rc38 v3 v4 v5 σ) := by
  unfold fX12_drawn_b38
  refine V_iload 3 X dX12_drawn_38 rfl ?_
  refine V_iload_n 1 X dX12_drawn_40 rfl rfl ?_
  refine V_icmp_ge (tgt := 54) X dX12_drawn_41 (by decide) ?_ ?_
  · refine V_aload_n 0 X dX12_drawn_54 rfl rfl ?_
    refine V_iload 2 X dX12_drawn_55 rfl ?_
    refine V_callI [.int v4] [] X E dX12_drawn_57 (kX12_nowOf x.2.1 z hZ N v4 σ) co12 (kM hZ 0 _ rfl) gcX12_264 hyX12_nowOf rfl ⟨by decide, by decide⟩ rfl (Nat.le_of_ble_eq_true rfl) (fun r9 s10 => ?_)
    exact V_iret X E hr dX12_drawn_60
  · refine V_aload_n 0 X dX12_drawn_44 rfl rfl ?_
    refine V_callV [] [] X E dX12_drawn_45 (kX12_draws x.2.1 z hZ N σ) co12 (kM hZ 0 _ rfl) gcX12_375 hyX12_draws rfl ⟨by decide, by decide⟩ rfl (Nat.le_of_ble_eq_true rfl) (fun r11 s12 => ?_)
    refine V_iincG (L' := fun v5_13 => [(5, .int v5_13), (0, .ref (z.2.2.1 0)), (3, .int v3), (4, .int v4)]) 3 X dX12_drawn_48 rfl rfl (by decide) (fun _ => rfl) (fun v5_13 => ?_)
    refine V_goto (tgt := 38) X dX12_drawn_51 (by decide) ?_
    refine V_sub [1, 2, 3, 0] rfl ?_
    exact hc38 v3 v4 v5_13 s12
def fX12_drawn_l38 (N : Nat) : Nat → Int32 → Int32 → Int32 → Mem → Option (Int32 × Mem)
  | 0 => fun _ _ _ _ => none
  | n + 1 => fX12_drawn_b38 N (fX12_drawn_l38 N n)
theorem lX12_drawn_38 {x : Cx} {z : Sx} (X : XG x z RX12 cX12_drawn 6 8 181) (E : XE x z) (hr : XR x (some .int)) (hZ : z.2.2.2.1 = kdM) (N : Nat) (n : Nat) (v3 : Int32) (v4 : Int32) (v5 : Int32) (σ : Mem) : VK x z 6 (BQ QI x z) 38 [(0, .ref (z.2.2.1 0)), (3, .int v3), (4, .int v4), (5, .int v5)] [] σ (fX12_drawn_l38 N n v3 v4 v5 σ) := by
  induction n generalizing v3 v4 v5 σ with
  | zero => exact V_none
  | succ n ih => exact bX12_drawn_38 X E hr hZ N (fX12_drawn_l38 N n) ih v3 v4 v5 σ
def fX12_drawn (N : Nat) (v1 : Int32) (v2 : Int32) (v3 : Int32) (v4 : Int32) (σ : Mem) : Option (Int32 × Mem) :=
  bd (fX12_isChamber N v1 σ) (fun r1 s2 => if r1 = 0 then some ((-2), s2) else bd (fX12_isIn N v3 0 60 s2) (fun r3 s4 => if r3 = 0 then some ((-2), s4) else if 0 ≤ v4 then lt_ (pI s4 0 34 v2) (fun s5 => bd (fX12_begins N s5) (fun r6 s7 => lt_ 0 (fun v5_8 => fX12_drawn_l38 N N v3 v4 v5_8 s7))) else some ((-2), s4)))
set_option maxRecDepth 100000 in
set_option maxHeartbeats 4000000 in
theorem bX12_drawn_0 {x : Cx} {z : Sx} (X : XG x z RX12 cX12_drawn 6 8 181) (E : XE x z) (hr : XR x (some .int)) (hZ : z.2.2.2.1 = kdM) (N : Nat) (v1 : Int32) (v2 : Int32) (v3 : Int32) (v4 : Int32) (σ : Mem) : VK x z 6 (BQ QI x z) 0 [(0, .ref (z.2.2.1 0)), (1, .int v1), (2, .int v2), (3, .int v3), (4, .int v4)] [] σ (fX12_drawn N v1 v2 v3 v4 σ) := by
  unfold fX12_drawn
  refine V_aload_n 0 X dX12_drawn_0 rfl rfl ?_
  refine V_iload_n 1 X dX12_drawn_1 rfl rfl ?_
  refine V_callI [.int v1] [] X E dX12_drawn_2 (kX12_isChamber x.2.1 z hZ N v1 σ) co12 (kM hZ 0 _ rfl) gcX12_165 hyX12_isChamber rfl ⟨by decide, by decide⟩ rfl (Nat.le_of_ble_eq_true rfl) (fun r1 s2 => ?_)
  refine V_if_eq (tgt := 23) X dX12_drawn_5 (by decide) ?_ ?_
  · refine V_bipush (v := -2) X dX12_drawn_23 (by decide) ?_
    exact V_iret X E hr dX12_drawn_25
  · refine V_iload_n 3 X dX12_drawn_8 rfl rfl ?_
    refine V_iconst (v := 0) X dX12_drawn_9 (by decide) ?_
    refine V_bipush (v := 60) X dX12_drawn_10 (by decide) ?_
    refine V_calSI [.int v3, .int 0, .int 60] [] X E dX12_drawn_12 (kX12_isIn x.2.1 z hZ N v3 0 60 s2) gcX12_106 hyX12_isIn rfl ⟨by decide, by decide⟩ rfl (Nat.le_of_ble_eq_true rfl) (fun r3 s4 => ?_)
    refine V_if_eq (tgt := 23) X dX12_drawn_15 (by decide) ?_ ?_
    · refine V_bipush (v := -2) X dX12_drawn_23 (by decide) ?_
      exact V_iret X E hr dX12_drawn_25
    · refine V_iload 4 X dX12_drawn_18 rfl ?_
      refine V_if_ge (tgt := 26) X dX12_drawn_20 (by decide) ?_ ?_
      · refine V_aload_n 0 X dX12_drawn_26 rfl rfl ?_
        refine V_iload_n 2 X dX12_drawn_27 rfl rfl ?_
        refine V_putIG 34 X dX12_drawn_28 co12 (kM hZ 0 _ rfl) (by decide) rfl wfX12_368 rfl rfl rfl (fun s5 => ?_)
        refine V_aload_n 0 X dX12_drawn_31 rfl rfl ?_
        refine V_callV [] [] X E dX12_drawn_32 (kX12_begins x.2.1 z hZ N s5) co12 (kM hZ 0 _ rfl) gcX12_255 hyX12_begins rfl ⟨by decide, by decide⟩ rfl (Nat.le_of_ble_eq_true rfl) (fun r6 s7 => ?_)
        refine V_iconst (v := 0) X dX12_drawn_35 (by decide) ?_
        refine V_istoreG (L' := fun v5_8 => [(5, .int v5_8), (0, .ref (z.2.2.1 0)), (1, .int v1), (2, .int v2), (3, .int v3), (4, .int v4)]) X dX12_drawn_36 (by decide) (fun _ => rfl) (fun v5_8 => ?_)
        refine V_sub [1, 4, 5, 0] rfl ?_
        exact lX12_drawn_38 X E hr hZ N N v3 v4 v5_8 s7
      · refine V_bipush (v := -2) X dX12_drawn_23 (by decide) ?_
        exact V_iret X E hr dX12_drawn_25
theorem kX12_drawn (l : Launch) (z : Sx) (hZ : z.2.2.2.1 = kdM) (N : Nat) (v1 : Int32) (v2 : Int32) (v3 : Int32) (v4 : Int32) (σ : Mem) : Ct QI yX12_drawn cX12_drawn 6 (some .int) 8 181 l z [.ref (z.2.2.1 0), .int v1, .int v2, .int v3, .int v4] σ (fX12_drawn N v1 v2 v3 v4 σ) := by
  refine Ct_of (by decide +kernel) (Nat.le_of_ble_eq_true rfl) rfl ?_
  intro x _ X E hr
  exact bX12_drawn_0 X E hr hZ N v1 v2 v3 v4 σ
def fX12_count (N : Nat) (v1 : Int32) (σ : Mem) : Option (Int32 × Mem) :=
  bd (fX12_isIn N v1 0 2 σ) (fun r1 s2 => if r1 = 0 then some ((-2), s2) else gd (inb v1 4176) (some ((s2.1 1 v1.toNatClampNeg), s2)))
set_option maxRecDepth 100000 in
set_option maxHeartbeats 4000000 in
theorem bX12_count_0 {x : Cx} {z : Sx} (X : XG x z RX12 cX12_count 2 1 22) (E : XE x z) (hr : XR x (some .int)) (hZ : z.2.2.2.1 = kdM) (N : Nat) (v1 : Int32) (σ : Mem) : VK x z 2 (BQ QI x z) 0 [(0, .ref (z.2.2.1 0)), (1, .int v1)] [] σ (fX12_count N v1 σ) := by
  unfold fX12_count
  refine V_iload_n 1 X dX12_count_0 rfl rfl ?_
  refine V_iconst (v := 0) X dX12_count_1 (by decide) ?_
  refine V_iconst (v := 2) X dX12_count_2 (by decide) ?_
  refine V_calSI [.int v1, .int 0, .int 2] [] X E dX12_count_3 (kX12_isIn x.2.1 z hZ N v1 0 2 σ) gcX12_106 hyX12_isIn rfl ⟨by decide, by decide⟩ rfl (Nat.le_of_ble_eq_true rfl) (fun r1 s2 => ?_)
  refine V_if_eq (tgt := 18) X dX12_count_6 (by decide) ?_ ?_
  · refine V_bipush (v := -2) X dX12_count_18 (by decide) ?_
    exact V_iret X E hr dX12_count_20
  · refine V_aload_n 0 X dX12_count_9 rfl rfl ?_
    refine V_getR (k1 := 1) 0 X dX12_count_10 co12 (kM hZ 0 _ rfl) (by decide) rfl rfl wfX12_7 ?_
    refine V_iload_n 1 X dX12_count_13 rfl rfl ?_
    refine V_iald X dX12_count_14 (kM hZ 1 _ rfl) ?_
    refine V_goto (tgt := 20) X dX12_count_15 (by decide) ?_
    exact V_iret X E hr dX12_count_20
theorem kX12_count (l : Launch) (z : Sx) (hZ : z.2.2.2.1 = kdM) (N : Nat) (v1 : Int32) (σ : Mem) : Ct QI yX12_count cX12_count 2 (some .int) 1 22 l z [.ref (z.2.2.1 0), .int v1] σ (fX12_count N v1 σ) := by
  refine Ct_of (by decide +kernel) (Nat.le_of_ble_eq_true rfl) rfl ?_
  intro x _ X E hr
  exact bX12_count_0 X E hr hZ N v1 σ
